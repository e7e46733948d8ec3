/-! ===== mail: its refusals, and the whole call ===== -/
def leastW (x1 : Int32) : Int32 := if x1 = 1 then 1 else 0
def mostW (x1 : Int32) : Int32 := if x1 = 0 then 99 else if x1 = 1 then 999 else 9999
theorem n9_mail {x1 x2 x3 x4 : Int32} {g : fp_G} {K : Int32 → fp_G → Prop} {n nm no : Nat} (hnm : nm ≤ 40) (hno : no ≤ 12) (hk : g 67 42 = nI n) (hk7 : g 67 27 = nI nm) (hk6 : g 67 12 = nI no)
    (h1 : 0 ≤ x1.toInt ∧ x1.toInt ≤ 2) (ho : inN x2 no) (hm : inN x3 nm) (c : (¬ leastW x1 ≤ x4 ∧ K (-4) (gu g 68 4 (g 68 4 + 1))) ∨ (leastW x1 ≤ x4 ∧ (mostW x1 < x4 ∨ (¬ mostW x1 < x4 ∧ n = 60)) ∧ K (-6) (gu g 68 6 (g 68 6 + 1)))) : w_X9_mail x1 x2 x3 x4 g K := by
  unfold w_X9_mail
  refine e_isIn (l := 0) (h := 2) rfl rfl ?_
  rw [bi_t h1]
  refine ie (by decide) (ht_X9_isOffice hno hk6 ho (j_I (ie (by decide) (ht_X9_isMan hnm hk7 hm (ie (by decide) (j_I ?_))))))
  unfold leastW mostW at c
  by_cases d1 : x1 = 1
  · have d0 : ¬ x1 = 0 := by rw [d1]; decide
    rw [if_pos d1, if_neg d0, if_pos d1] at c
    rcases c with ⟨hw, k⟩ | ⟨hw, hx, k⟩
    · exact it d1 (j_I (ie hw (ie (by decide) (e_no (k := 4) rfl (by decide) k))))
    · refine it d1 (j_I (it hw (j_I (ie d0 (it d1 (j_I ?_))))))
      rcases hx with hx | ⟨hx, e⟩
      · exact it hx (ie (by decide) (e_no (k := 6) rfl (by decide) k))
      · subst e
        exact ie hx (it hk (ie (by decide) (e_no (k := 6) rfl (by decide) k)))
  · rw [if_neg d1, if_neg d1] at c
    by_cases d0 : x1 = 0
    · rw [if_pos d0] at c
      rcases c with ⟨hw, k⟩ | ⟨hw, hx, k⟩
      · exact ie d1 (j_I (ie hw (ie (by decide) (e_no (k := 4) rfl (by decide) k))))
      · refine ie d1 (j_I (it hw (j_I (it d0 (j_I ?_)))))
        rcases hx with hx | ⟨hx, e⟩
        · exact it hx (ie (by decide) (e_no (k := 6) rfl (by decide) k))
        · subst e
          exact ie hx (it hk (ie (by decide) (e_no (k := 6) rfl (by decide) k)))
    · rw [if_neg d0] at c
      rcases c with ⟨hw, k⟩ | ⟨hw, hx, k⟩
      · exact ie d1 (j_I (ie hw (ie (by decide) (e_no (k := 4) rfl (by decide) k))))
      · refine ie d1 (j_I (it hw (j_I (ie d0 (ie d1 (j_I ?_))))))
        rcases hx with hx | ⟨hx, e⟩
        · exact it hx (ie (by decide) (e_no (k := 6) rfl (by decide) k))
        · subst e
          exact ie hx (it hk (ie (by decide) (e_no (k := 6) rfl (by decide) k)))
theorem e_most {x1 : Int32} {g : fp_G} {K : Int32 → fp_G → Prop} (h1 : 0 ≤ x1.toInt ∧ x1.toInt ≤ 2) (k : K (mostW x1) g) : w_X8_mostWeight x1 g K := by
  unfold w_X8_mostWeight
  unfold mostW at k
  have z : x1 = 0 ∨ x1 = 1 ∨ x1 = 2 := by
    rcases (show x1.toInt = 0 ∨ x1.toInt = 1 ∨ x1.toInt = 2 by omega) with h | h | h
    · exact Or.inl (by rw [eq_I]; exact h)
    · exact Or.inr (Or.inl (by rw [eq_I]; exact h))
    · exact Or.inr (Or.inr (by rw [eq_I]; exact h))
  rcases z with z | z | z <;> subst z
  · exact ie (by decide) (ie (by decide) k)
  · exact ie (by decide) (it rfl k)
  · exact it rfl k
theorem c_mail {x1 x2 x3 x4 : Int32} {g : fp_G} {P : Int32 → Int32 → fp_G → Prop} {n nm no t : Nat} (hn : n ≤ 60) (hnm : nm ≤ 40) (hno : no ≤ 12) (h5 : g 37 5 = nI n) (hk : g 67 42 = nI n) (h7 : g 18 7 = nI nm) (hk7 : g 67 27 = nI nm) (h6 : g 6 3 = nI no) (hk6 : g 67 12 = nI no) (h9 : g 0 9 = nI t) (hk9 : g 67 15 = nI t) (c0 : n < 60 → g 49 n = 0) (c9 : n < 60 → g 99 n = 0)
    (ok : n < 60 → 0 ≤ x1.toInt → x1.toInt ≤ 2 → inN x2 no → inN x3 nm → leastW x1 ≤ x4 → ¬ mostW x1 < x4 → P (nI n) (nI n) (mailG g n t x1 x2 x3 x4)) (no' : ∀ r k, P r r (refG g k)) : w_X8_mail x1 x2 x3 x4 g (fun r g1 => w_X9_mail x1 x2 x3 x4 g1 (fun r2 g2 => P r r2 g2)) := by
  unfold w_X8_mail
  have z0 : (0 : Int32).toInt = 0 := rfl
  have z2 : (2 : Int32).toInt = 2 := rfl
  have other : ¬ (0 ≤ x1.toInt ∧ x1.toInt ≤ 2) → w_X8_refuse (-2) g (fun r g1 => w_X9_mail x1 x2 x3 x4 g1 (fun r2 g2 => P r r2 g2)) := by
    intro c
    refine e_refuse (k := 2) rfl (by decide) ?_
    unfold w_X9_mail
    refine e_isIn (l := 0) (h := 2) rfl rfl ?_
    rw [bi_f c]
    exact it rfl (e_no (k := 2) rfl (by decide) (no' _ 2))
  refine j_I (is (fun c => other (by rw [lt_I, z0] at c; omega)) (fun c => is (fun c2 => ?_) (fun c2 => other (by rw [le_I, z2] at c2; omega))))
  rw [lt_I, z0] at c
  rw [le_I, z2] at c2
  have h1 : 0 ≤ x1.toInt ∧ x1.toInt ≤ 2 := ⟨by omega, by omega⟩
  by_cases ho : inN x2 no
  · refine ht_X2_hasOffice hno h6 ho (j_I (ie (by decide) ?_))
    by_cases hm : inN x3 nm
    · refine ht_X6_hasMan hnm h7 hm (ie (by decide) (j_I ?_))
      have below : ¬ leastW x1 ≤ x4 → w_X8_refuse (-4) g (fun r g1 => w_X9_mail x1 x2 x3 x4 g1 (fun r2 g2 => P r r2 g2)) := fun c => e_refuse (k := 4) rfl (by decide) (n9_mail hnm hno hk hk7 hk6 h1 ho hm (Or.inl ⟨c, no' _ 4⟩))
      have room : leastW x1 ≤ x4 → (mostW x1 < x4 ∨ (¬ mostW x1 < x4 ∧ n = 60)) → w_X8_refuse (-6) g (fun r g1 => w_X9_mail x1 x2 x3 x4 g1 (fun r2 g2 => P r r2 g2)) := fun c d => e_refuse (k := 6) rfl (by decide) (n9_mail hnm hno hk hk7 hk6 h1 ho hm (Or.inr ⟨c, d, no' _ 6⟩))
      have go : leastW x1 ≤ x4 → ∀ {A : Prop}, A = w_X8_refuse (-6) g (fun r g1 => w_X9_mail x1 x2 x3 x4 g1 (fun r2 g2 => P r r2 g2)) → (if mostW x1 < x4 then A else if (g 37 5) < 60 then w_X1_add x1 x2 x3 x4 (g 0 9) g (fun v7 g8 => w_X0_begin 43 v7 x2 (g8 0 9) g8 fun _ g9 => w_X9_mail x1 x2 x3 x4 g9 (fun r2 g2 => P v7 r2 g2)) else A) := by
        intro hw A hA
        subst hA
        refine is (fun d => room hw (Or.inl d)) (fun d => ?_)
        by_cases c60 : n = 60
        · subst c60
          exact ie (nlt_c h5) (room hw (Or.inr ⟨d, rfl⟩))
        · refine it (lt_c (b := 60) h5 (by decide) (by omega)) ?_
          have ho2 := ho
          obtain ⟨a, ha, ea⟩ := ho2
          refine s8_mail (K := fun v7 g9 => w_X9_mail x1 x2 x3 x4 g9 (fun r2 g2 => P v7 r2 g2)) (by omega) h5 h9 (c0 (by omega)) (show a < 12 by omega) ea ?_
          exact s9_mail (by omega) hnm hno hk hk7 hk6 hk9 (c9 (by omega)) h1 ho hm hw d (ok (by omega) h1.1 h1.2 ho hm hw d)
      by_cases d1 : x1 = 1
      · refine it d1 (is (fun w => ?_) (fun w => below (by unfold leastW; rw [if_pos d1]; exact w)))
        have hw : leastW x1 ≤ x4 := by unfold leastW; rw [if_pos d1]; exact w
        exact e_most h1 (j_I (go hw rfl))
      · refine ie d1 (is (fun w => ?_) (fun w => below (by unfold leastW; rw [if_neg d1]; exact w)))
        have hw : leastW x1 ≤ x4 := by unfold leastW; rw [if_neg d1]; exact w
        exact e_most h1 (j_I (go hw rfl))
    · refine hf_X6_hasMan hnm h7 hm (it rfl (e_refuse (k := 1) rfl (by decide) ?_))
      unfold w_X9_mail
      refine e_isIn (l := 0) (h := 2) rfl rfl ?_
      rw [bi_t h1]
      exact ie (by decide) (ht_X9_isOffice hno hk6 ho (j_I (ie (by decide) (hf_X9_isMan hnm hk7 hm (it rfl (e_no (k := 1) rfl (by decide) (no' _ 1)))))))
  · refine hf_X2_hasOffice hno h6 ho (j_I (it rfl (e_refuse (k := 1) rfl (by decide) ?_)))
    unfold w_X9_mail
    refine e_isIn (l := 0) (h := 2) rfl rfl ?_
    rw [bi_t h1]
    exact ie (by decide) (hf_X9_isOffice hno hk6 ho (j_I (it rfl (e_no (k := 1) rfl (by decide) (no' _ 1)))))
