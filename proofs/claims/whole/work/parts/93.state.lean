/-! ===== state ===== -/
theorem s9_state {m s o : Int32} {g : fp_G} {K : Int32 → fp_G → Prop} {nm no : Nat} (hnm : nm ≤ 40) (hno : no ≤ 12) (h1 : g 67 27 = nI nm) (h2 : g 67 12 = nI no) (hm : inN m nm) (hs : s = 1 → inN o no)
    (k : w_X9_isIn ((s : Int32).toInt64) 0 3 g fun v3 g5 => if v3 = 0 then w_X9_no (-2) g5 fun v5 g12 => K v5 g12 else if (g5 67 28) = 80 then w_X9_no (-6) g5 fun v4 g11 => K v4 g11 else
      fp_wr g5 86 80 (g5 67 28) m fun g6 => fp_wr g6 87 80 (g6 67 28) s fun g7 => fp_wr g7 88 80 (g7 67 28) o fun g8 => fp_wr g8 89 80 (g8 67 28) (g8 67 15) fun g9 => fp_pf g9 67 28 ((g9 67 28) + 1) fun g10 => K (g10 67 28) g10) : w_X9_state m s o g K := by
  unfold w_X9_state
  refine ht_X9_isMan hnm h1 hm (j_I (ie (by decide) (j_I ?_)))
  by_cases c : s = 1
  · exact it c (ht_X9_isOffice hno h2 (hs c) (ie (by decide) k))
  · exact ie c k
theorem c_state {m s o : Int32} {g : fp_G} {P : Int32 → Int32 → fp_G → Prop} {n nm no t : Nat} (hn : n ≤ 80) (hnm : nm ≤ 40) (hno : no ≤ 12) (h4 : g 18 12 = nI n) (hk : g 67 28 = nI n) (h7 : g 18 7 = nI nm) (hk7 : g 67 27 = nI nm) (h6 : g 6 3 = nI no) (hk6 : g 67 12 = nI no) (h9 : g 0 9 = nI t) (hk9 : g 67 15 = nI t)
    (ok : ∀ i j, i < nm → m = nI i → j ≤ 3 → s = nI j → (s = 1 → inN o no) → n < 80 → P (nI (n + 1)) (nI (n + 1)) (gu (gu (gu (gu (gu (gu (gu (gu (gu (gu g 25 n m) 26 n s) 27 n o) 28 n (nI t)) 18 12 (nI (n + 1))) 86 n m) 87 n s) 88 n o) 89 n (nI t)) 67 28 (nI (n + 1)))) (no' : ∀ r k, P r r (refG g k)) : w_X8_state m s o g (fun r g1 => w_X9_state m s o g1 (fun r2 g2 => P r r2 g2)) := by
  unfold w_X8_state
  by_cases hm : inN m nm
  · refine ht_X6_hasMan hnm h7 hm (j_I (ie (by decide) ?_))
    have z3 : (3 : Int32).toInt = 3 := rfl
    have z0 : (0 : Int32).toInt = 0 := rfl
    have other : (s = 1 → inN o no) → ¬ (0 ≤ s.toInt ∧ s.toInt ≤ 3) → w_X8_refuse (-2) g (fun r g1 => w_X9_state m s o g1 (fun r2 g2 => P r r2 g2)) := by
      intro hs c
      refine e_refuse (k := 2) rfl (by decide) (s9_state hnm hno hk7 hk6 hm hs (e_isIn (l := 0) (h := 3) rfl rfl ?_))
      rw [bi_f c]
      exact it rfl (e_no (k := 2) rfl (by decide) (no' _ 2))
    have rest : (s = 1 → inN o no) → (if s < 0 then w_X8_refuse (-2) g (fun r g1 => w_X9_state m s o g1 (fun r2 g2 => P r r2 g2)) else if s ≤ 3 then (if (g 18 12) < 80 then w_X6_addState m s o (g 0 9) g (fun r g1 => w_X9_state m s o g1 (fun r2 g2 => P r r2 g2)) else w_X8_refuse (-6) g (fun r g1 => w_X9_state m s o g1 (fun r2 g2 => P r r2 g2))) else w_X8_refuse (-2) g (fun r g1 => w_X9_state m s o g1 (fun r2 g2 => P r r2 g2))) := by
      intro hs
      refine is (fun c => other hs (by rw [lt_I, z0] at c; omega)) (fun c => is (fun c2 => ?_) (fun c2 => other hs (by rw [le_I, z3] at c2; omega)))
      rw [lt_I, z0] at c
      rw [le_I, z3] at c2
      have hb : bi (0 ≤ s.toInt ∧ s.toInt ≤ 3) = 1 := bi_t ⟨by omega, by omega⟩
      by_cases c80 : n = 80
      · subst c80
        refine ie (nlt_c h4) (e_refuse (k := 6) rfl (by decide) (s9_state hnm hno hk7 hk6 hm hs (e_isIn (l := 0) (h := 3) rfl rfl ?_)))
        rw [hb]
        exact ie (by decide) (it hk (e_no (k := 6) rfl (by decide) (no' _ 6)))
      · refine it (lt_c (b := 80) h4 (by decide) (by omega)) ?_
        unfold w_X6_addState
        refine wr_e h4 (by omega) (by omega) (wr_e h4 (by omega) (by omega) (wr_e h4 (by omega) (by omega) (wr_e h4 (by omega) (by omega) (pf_i ?_))))
        refine s9_state hnm hno hk7 hk6 hm hs (e_isIn (l := 0) (h := 3) rfl rfl ?_)
        rw [hb]
        refine ie (by decide) (ie (ne_c (b := 80) hk (by decide) (by omega)) ?_)
        refine wr_e hk (by omega) (by omega) (wr_e hk (by omega) (by omega) (wr_e hk (by omega) (by omega) (wr_e hk (by omega) (by omega) (pf_i ?_))))
        obtain ⟨j, e, hj⟩ := nat_of (a := s) (l := 0) (h := 3) (by omega) (by omega) (by omega)
        obtain ⟨i, hi, ei⟩ := hm
        have := ok i j hi ei (by omega) e hs (by omega)
        show P (g 18 12 + 1) (g 67 28 + 1) (gu (gu (gu (gu (gu (gu (gu (gu (gu (gu g 25 n m) 26 n s) 27 n o) 28 n (g 0 9)) 18 12 (g 18 12 + 1)) 86 n m) 87 n s) 88 n o) 89 n (g 67 15)) 67 28 (g 67 28 + 1))
        rw [h4, hk, h9, hk9, show nI n + 1 = nI (n + 1) from (nI_succ n).symm]
        exact this
    refine j_I ?_
    by_cases c : s = 1
    · refine it c ?_
      by_cases ho : inN o no
      · exact ht_X2_hasOffice hno h6 ho (ie (by decide) (j_I (rest (fun _ => ho))))
      · refine hf_X2_hasOffice hno h6 ho (it rfl (e_refuse (k := 1) rfl (by decide) ?_))
        unfold w_X9_state
        exact ht_X9_isMan hnm hk7 hm (j_I (ie (by decide) (j_I (it c (hf_X9_isOffice hno hk6 ho (it rfl (e_no (k := 1) rfl (by decide) (no' _ 1))))))))
    · exact ie c (j_I (rest (fun z => absurd z c)))
  · refine hf_X6_hasMan hnm h7 hm (j_I (it rfl (e_refuse (k := 1) rfl (by decide) ?_)))
    unfold w_X9_state
    exact hf_X9_isMan hnm hk7 hm (j_I (it rfl (e_no (k := 1) rfl (by decide) (no' _ 1))))
