/-! ===== move, state, shut ===== -/
theorem in_I {x : Int32} {n : Nat} (hn : n < 2 ^ 31) : inN x n ↔ 0 ≤ x.toInt ∧ x.toInt ≤ (n : Int) - 1 := by
  constructor
  · rintro ⟨j, hj, e⟩
    rw [e, nI_I (by omega)]
    omega
  · rintro ⟨h1, h2⟩
    obtain ⟨j, e, hj⟩ := nat_of (Int.le_refl 0) h1 h2
    exact ⟨j, by omega, e⟩
theorem pred_I {n : Nat} (hn : n < 2 ^ 31) : (nI n - 1 : Int32).toInt64.toInt = (n : Int) - 1 := by
  rw [L64, Int32.toInt_sub, nI_I hn, show (1 : Int32).toInt = 1 from rfl, Int.bmod_eq_of_le (by omega) (by omega)]
theorem c_move {u o x : Int32} {g : fp_G} {P : Int32 → Int32 → fp_G → Prop} {n no t : Nat} (hn : n ≤ 60) (hno : no ≤ 12) (ht : t ≤ 2000) (h4 : g 18 4 = nI n) (hk : g 67 26 = nI n) (h6 : g 6 3 = nI no) (hk6 : g 67 12 = nI no) (h9 : g 0 9 = nI t) (hk9 : g 67 15 = nI t)
    (ok : ∀ i a f, i < 16 → u = nI i → a < no → o = nI a → t ≤ f → f ≤ 2000 → x = nI f → n < 60 → P (nI (n + 1)) (nI (n + 1)) (gu (gu (gu (gu (gu (gu (gu (gu (gu (gu g 19 n u) 20 n o) 21 n x) 22 n (nI t)) 18 4 (nI (n + 1))) 80 n u) 81 n o) 82 n x) 83 n (nI t)) 67 26 (nI (n + 1)))) (no' : ∀ r k, P r r (refG g k)) : w_X8_move u o x g (fun r g1 => w_X9_move u o x g1 (fun r2 g2 => P r r2 g2)) := by
  unfold w_X8_move
  by_cases hu : inN u 16
  · refine ht_X8_isUnit hu (j_I (ie (by decide) ?_))
    by_cases ho : inN o no
    · refine ht_X2_hasOffice hno h6 ho (ie (by decide) ?_)
      have z2 : (2000 : Int32).toInt = 2000 := rfl
      have zt : (nI t).toInt = t := nI_I (by omega)
      have room : (nI t ≤ x ∧ (2000 < x ∨ (¬ 2000 < x ∧ n = 60))) → w_X8_refuse (-6) g (fun r g1 => w_X9_move u o x g1 (fun r2 g2 => P r r2 g2)) := by
        intro c
        refine e_refuse (k := 6) rfl (by decide) ?_
        unfold w_X9_move
        refine ht_X9_isUnit hu (j_I (ie (by decide) (ht_X9_isOffice hno hk6 ho (ie (by decide) (j_I ?_)))))
        refine it ?_ (j_I ?_)
        · show g 67 15 ≤ x
          rw [hk9]
          exact c.1
        rcases c.2 with d | ⟨d, c2⟩
        · exact it d (ie (by decide) (e_no (k := 6) rfl (by decide) (no' _ 6)))
        · subst c2
          exact ie d (it hk (ie (by decide) (e_no (k := 6) rfl (by decide) (no' _ 6))))
      by_cases c : nI t ≤ x
      · refine it (by rw [h9]; exact c) (j_I ?_)
        refine is (fun c2 => room ⟨c, Or.inl c2⟩) (fun c2 => ?_)
        by_cases c60 : n = 60
        · subst c60
          exact ie (nlt_c h4) (room ⟨c, Or.inr ⟨c2, rfl⟩⟩)
        · refine it (lt_c (b := 60) h4 (by decide) (by omega)) ?_
          unfold w_X6_addMove
          refine wr_e h4 (by omega) (by omega) (wr_e h4 (by omega) (by omega) (wr_e h4 (by omega) (by omega) (wr_e h4 (by omega) (by omega) (pf_i ?_))))
          unfold w_X9_move
          refine ht_X9_isUnit hu (j_I (ie (by decide) (ht_X9_isOffice hno hk6 ho (ie (by decide) (j_I ?_)))))
          refine it ?_ (j_I (ie c2 (ie (ne_c (b := 60) hk (by decide) (by omega)) (it rfl ?_))))
          · show g 67 15 ≤ x
            rw [hk9]
            exact c
          refine wr_e hk (by omega) (by omega) (wr_e hk (by omega) (by omega) (wr_e hk (by omega) (by omega) (wr_e hk (by omega) (by omega) (pf_i ?_))))
          rw [le_I, zt] at c
          rw [lt_I, z2] at c2
          obtain ⟨f, e, hf⟩ := nat_of (l := 0) (h := 2000) (by omega) (by omega) (show x.toInt ≤ 2000 by omega)
          obtain ⟨i, hi, ei⟩ := hu
          obtain ⟨a, ha, ea⟩ := ho
          have := ok i a f hi ei ha ea (by omega) (by omega) e (by omega)
          show P (g 18 4 + 1) (g 67 26 + 1) (gu (gu (gu (gu (gu (gu (gu (gu (gu (gu g 19 n u) 20 n o) 21 n x) 22 n (g 0 9)) 18 4 (g 18 4 + 1)) 80 n u) 81 n o) 82 n x) 83 n (g 67 15)) 67 26 (g 67 26 + 1))
          rw [h4, hk, h9, hk9, show nI n + 1 = nI (n + 1) from (nI_succ n).symm]
          exact this
      · refine ie (by rw [h9]; exact c) (e_refuse (k := 4) rfl (by decide) ?_)
        unfold w_X9_move
        refine ht_X9_isUnit hu (j_I (ie (by decide) (ht_X9_isOffice hno hk6 ho (ie (by decide) (j_I ?_)))))
        refine ie ?_ (ie (by decide) (e_no (k := 4) rfl (by decide) (no' _ 4)))
        show ¬ g 67 15 ≤ x
        rw [hk9]
        exact c
    · refine hf_X2_hasOffice hno h6 ho (it rfl (e_refuse (k := 1) rfl (by decide) ?_))
      unfold w_X9_move
      exact ht_X9_isUnit hu (j_I (ie (by decide) (hf_X9_isOffice hno hk6 ho (it rfl (e_no (k := 1) rfl (by decide) (no' _ 1))))))
  · refine hf_X8_isUnit hu (j_I (it rfl (e_refuse (k := 1) rfl (by decide) ?_)))
    unfold w_X9_move
    exact hf_X9_isUnit hu (j_I (it rfl (e_no (k := 1) rfl (by decide) (no' _ 1))))
theorem c_shut {w a b : Int32} {g : fp_G} {P : Int32 → Int32 → fp_G → Prop} {n nw t : Nat} (hn : n ≤ 40) (hnw : nw ≤ 24) (ht : t ≤ 2000) (h4 : g 6 13 = nI n) (hk : g 67 14 = nI n) (h6 : g 6 9 = nI nw) (hk6 : g 67 13 = nI nw) (h9 : g 0 9 = nI t) (hk9 : g 67 15 = nI t)
    (ok : ∀ i p q, i < nw → w = nI i → t ≤ p → p ≤ q → q ≤ 2000 → a = nI p → b = nI q → n < 40 → P (nI (n + 1)) (nI (n + 1)) (gu (gu (gu (gu (gu (gu (gu (gu g 15 n w) 16 n a) 17 n b) 6 13 (nI (n + 1))) 75 n w) 76 n a) 77 n b) 67 14 (nI (n + 1)))) (no' : ∀ r k, P r r (refG g k)) : w_X8_shut w a b g (fun r g1 => w_X9_shut w a b g1 (fun r2 g2 => P r r2 g2)) := by
  unfold w_X8_shut
  have inW : ∀ {g1 : fp_G} {K : Int32 → fp_G → Prop}, g1 67 13 = nI nw → K (bi (0 ≤ w.toInt ∧ w.toInt ≤ (nw : Int) - 1)) g1 → w_X9_isIn ((w : Int32).toInt64) 0 (((g1 67 13) - 1 : Int32).toInt64) g1 K := fun {g1} {K} e k => e_isIn (l := 0) (h := (nw : Int) - 1) rfl (by rw [e]; exact pred_I (by omega)) k
  by_cases hw : inN w nw
  · have hb : bi (0 ≤ w.toInt ∧ w.toInt ≤ (nw : Int) - 1) = 1 := bi_t ((in_I (by omega)).mp hw)
    refine ht_X2_hasWay hnw h6 hw (ie (by decide) (j_I ?_))
    have z2 : (2000 : Int32).toInt = 2000 := rfl
    have zt : (nI t).toInt = t := nI_I (by omega)
    have below : (a < nI t ∨ (¬ a < nI t ∧ ¬ a ≤ b)) → w_X8_refuse (-4) g (fun r g1 => w_X9_shut w a b g1 (fun r2 g2 => P r r2 g2)) := by
      intro c
      refine e_refuse (k := 4) rfl (by decide) ?_
      unfold w_X9_shut
      refine inW hk6 ?_
      rw [hb]
      refine ie (by decide) (j_I (j_I ?_))
      rcases c with c | ⟨c, c2⟩
      · refine it ?_ (ie (by decide) (e_no (k := 4) rfl (by decide) (no' _ 4)))
        show a < g 67 15
        rw [hk9]
        exact c
      · refine ie ?_ (ie c2 (ie (by decide) (e_no (k := 4) rfl (by decide) (no' _ 4))))
        show ¬ a < g 67 15
        rw [hk9]
        exact c
    have room : (¬ a < nI t ∧ a ≤ b ∧ (2000 < b ∨ (¬ 2000 < b ∧ n = 40))) → w_X8_refuse (-6) g (fun r g1 => w_X9_shut w a b g1 (fun r2 g2 => P r r2 g2)) := by
      intro c
      refine e_refuse (k := 6) rfl (by decide) ?_
      unfold w_X9_shut
      refine inW hk6 ?_
      rw [hb]
      refine ie (by decide) (j_I (j_I (ie ?_ (it c.2.1 (j_I ?_)))))
      · show ¬ a < g 67 15
        rw [hk9]
        exact c.1
      refine is (fun _ => ie (by decide) (e_no (k := 6) rfl (by decide) (no' _ 6))) (fun _ => ?_)
      rcases c.2.2 with d | ⟨d, c2⟩
      · exact it d (ie (by decide) (e_no (k := 6) rfl (by decide) (no' _ 6)))
      · subst c2
        exact ie d (it hk (ie (by decide) (e_no (k := 6) rfl (by decide) (no' _ 6))))
    by_cases c : a < nI t
    · exact it (by rw [h9]; exact c) (below (Or.inl c))
    · refine ie (by rw [h9]; exact c) ?_
      refine is (fun c1 => j_I ?_) (fun c1 => below (Or.inr ⟨c, c1⟩))
      refine is (fun c2 => room ⟨c, c1, Or.inl c2⟩) (fun c2 => ?_)
      by_cases c40 : n = 40
      · subst c40
        exact ie (nlt_c h4) (room ⟨c, c1, Or.inr ⟨c2, rfl⟩⟩)
      · refine it (lt_c (b := 40) h4 (by decide) (by omega)) ?_
        unfold w_X2_addShut
        refine wr_e h4 (by omega) (by omega) (wr_e h4 (by omega) (by omega) (wr_e h4 (by omega) (by omega) (pf_i ?_)))
        unfold w_X9_shut
        refine inW hk6 ?_
        rw [hb]
        have c9 := c
        have c19 := c1
        have c29 := c2
        rw [lt_I, zt] at c
        rw [le_I] at c1
        rw [lt_I, z2] at c2
        refine ie (by decide) (j_I (j_I (ie ?_ (it c19 (j_I (ie ?_ (ie c29 (ie (ne_c (b := 40) hk (by decide) (by omega)) (it rfl ?_)))))))))
        · show ¬ a < g 67 15
          rw [hk9]
          exact c9
        · rw [lt_I, z2]
          omega
        refine wr_e hk (by omega) (by omega) (wr_e hk (by omega) (by omega) (wr_e hk (by omega) (by omega) (pf_i ?_)))
        obtain ⟨p, ep, hp⟩ := nat_of (a := a) (l := 0) (h := 2000) (by omega) (by omega) (by omega)
        obtain ⟨q, eq, hq⟩ := nat_of (a := b) (l := 0) (h := 2000) (by omega) (by omega) (by omega)
        obtain ⟨i, hi, ei⟩ := hw
        have := ok i p q hi ei (by omega) (by omega) (by omega) ep eq (by omega)
        show P (g 6 13 + 1) (g 67 14 + 1) (gu (gu (gu (gu (gu (gu (gu (gu g 15 n w) 16 n a) 17 n b) 6 13 (g 6 13 + 1)) 75 n w) 76 n a) 77 n b) 67 14 (g 67 14 + 1))
        rw [h4, hk, show nI n + 1 = nI (n + 1) from (nI_succ n).symm]
        exact this
  · have hb : bi (0 ≤ w.toInt ∧ w.toInt ≤ (nw : Int) - 1) = 0 := bi_f (fun z => hw ((in_I (by omega)).mpr z))
    refine hf_X2_hasWay hnw h6 hw (it rfl (e_refuse (k := 1) rfl (by decide) ?_))
    unfold w_X9_shut
    refine inW hk6 ?_
    rw [hb]
    exact it rfl (e_no (k := 1) rfl (by decide) (no' _ 1))
