/-! ===== numbers of offices, ways, men, mails, units; more calls that look and write ===== -/
def inN (x : Int32) (n : Nat) : Prop := ∃ j, j < n ∧ x = nI j
theorem in_t {x b : Int32} {n : Nat} {A B : Prop} (hn : n < 2 ^ 31) (hb : b = nI n) (h : inN x n) (k : B) : (if x < 0 then A else if b ≤ x then A else B) := by
  obtain ⟨j, hj, e⟩ := h
  refine ie ?_ (ie ?_ k)
  · rw [e, lt_I, nI_I (by omega), show (0 : Int32).toInt = 0 from rfl]
    omega
  · rw [e, hb, le_I, nI_I (by omega), nI_I (by omega)]
    omega
theorem in_f {x b : Int32} {n : Nat} {A B : Prop} (hn : n < 2 ^ 31) (hb : b = nI n) (h : ¬ inN x n) (k : A) : (if x < 0 then A else if b ≤ x then A else B) := by
  refine is (fun _ => k) (fun c => is (fun _ => k) (fun c2 => ?_))
  rw [hb] at c2
  exact absurd (ix_of hn c c2) h
theorem ht_X2_hasOffice {x : Int32} {g : fp_G} {K : Int32 → fp_G → Prop} {n : Nat} (hn : n ≤ 12) (hb : g 6 3 = nI n) (h : inN x n) (k : K 1 g) : w_X2_hasOffice x g K := by
  unfold w_X2_hasOffice
  exact j_I (in_t (by omega) hb h k)
theorem hf_X2_hasOffice {x : Int32} {g : fp_G} {K : Int32 → fp_G → Prop} {n : Nat} (hn : n ≤ 12) (hb : g 6 3 = nI n) (h : ¬ inN x n) (k : K 0 g) : w_X2_hasOffice x g K := by
  unfold w_X2_hasOffice
  exact j_I (in_f (by omega) hb h k)
theorem ht_X9_isOffice {x : Int32} {g : fp_G} {K : Int32 → fp_G → Prop} {n : Nat} (hn : n ≤ 12) (hb : g 67 12 = nI n) (h : inN x n) (k : K 1 g) : w_X9_isOffice x g K := by
  unfold w_X9_isOffice
  exact j_I (in_t (by omega) hb h k)
theorem hf_X9_isOffice {x : Int32} {g : fp_G} {K : Int32 → fp_G → Prop} {n : Nat} (hn : n ≤ 12) (hb : g 67 12 = nI n) (h : ¬ inN x n) (k : K 0 g) : w_X9_isOffice x g K := by
  unfold w_X9_isOffice
  exact j_I (in_f (by omega) hb h k)
theorem ht_X2_hasWay {x : Int32} {g : fp_G} {K : Int32 → fp_G → Prop} {n : Nat} (hn : n ≤ 24) (hb : g 6 9 = nI n) (h : inN x n) (k : K 1 g) : w_X2_hasWay x g K := by
  unfold w_X2_hasWay
  exact j_I (in_t (by omega) hb h k)
theorem hf_X2_hasWay {x : Int32} {g : fp_G} {K : Int32 → fp_G → Prop} {n : Nat} (hn : n ≤ 24) (hb : g 6 9 = nI n) (h : ¬ inN x n) (k : K 0 g) : w_X2_hasWay x g K := by
  unfold w_X2_hasWay
  exact j_I (in_f (by omega) hb h k)
theorem ht_X6_hasMan {x : Int32} {g : fp_G} {K : Int32 → fp_G → Prop} {n : Nat} (hn : n ≤ 40) (hb : g 18 7 = nI n) (h : inN x n) (k : K 1 g) : w_X6_hasMan x g K := by
  unfold w_X6_hasMan
  exact j_I (in_t (by omega) hb h k)
theorem hf_X6_hasMan {x : Int32} {g : fp_G} {K : Int32 → fp_G → Prop} {n : Nat} (hn : n ≤ 40) (hb : g 18 7 = nI n) (h : ¬ inN x n) (k : K 0 g) : w_X6_hasMan x g K := by
  unfold w_X6_hasMan
  exact j_I (in_f (by omega) hb h k)
theorem ht_X9_isMan {x : Int32} {g : fp_G} {K : Int32 → fp_G → Prop} {n : Nat} (hn : n ≤ 40) (hb : g 67 27 = nI n) (h : inN x n) (k : K 1 g) : w_X9_isMan x g K := by
  unfold w_X9_isMan
  exact j_I (in_t (by omega) hb h k)
theorem hf_X9_isMan {x : Int32} {g : fp_G} {K : Int32 → fp_G → Prop} {n : Nat} (hn : n ≤ 40) (hb : g 67 27 = nI n) (h : ¬ inN x n) (k : K 0 g) : w_X9_isMan x g K := by
  unfold w_X9_isMan
  exact j_I (in_f (by omega) hb h k)
theorem ht_X1_has {x : Int32} {g : fp_G} {K : Int32 → fp_G → Prop} {n : Nat} (hn : n ≤ 60) (hb : g 37 5 = nI n) (h : inN x n) (k : K 1 g) : w_X1_has x g K := by
  unfold w_X1_has
  exact j_I (in_t (by omega) hb h k)
theorem hf_X1_has {x : Int32} {g : fp_G} {K : Int32 → fp_G → Prop} {n : Nat} (hn : n ≤ 60) (hb : g 37 5 = nI n) (h : ¬ inN x n) (k : K 0 g) : w_X1_has x g K := by
  unfold w_X1_has
  exact j_I (in_f (by omega) hb h k)
theorem ht_X9_isMail {x : Int32} {g : fp_G} {K : Int32 → fp_G → Prop} {n : Nat} (hn : n ≤ 60) (hb : g 67 42 = nI n) (h : inN x n) (k : K 1 g) : w_X9_isMail x g K := by
  unfold w_X9_isMail
  exact j_I (in_t (by omega) hb h k)
theorem hf_X9_isMail {x : Int32} {g : fp_G} {K : Int32 → fp_G → Prop} {n : Nat} (hn : n ≤ 60) (hb : g 67 42 = nI n) (h : ¬ inN x n) (k : K 0 g) : w_X9_isMail x g K := by
  unfold w_X9_isMail
  exact j_I (in_f (by omega) hb h k)
theorem ht_X8_isUnit {x : Int32} {g : fp_G} {K : Int32 → fp_G → Prop} (h : inN x 16) (k : K 1 g) : w_X8_isUnit x g K := by
  unfold w_X8_isUnit
  exact j_I (in_t (n := 16) (by omega) rfl h k)
theorem hf_X8_isUnit {x : Int32} {g : fp_G} {K : Int32 → fp_G → Prop} (h : ¬ inN x 16) (k : K 0 g) : w_X8_isUnit x g K := by
  unfold w_X8_isUnit
  exact j_I (in_f (n := 16) (by omega) rfl h k)
theorem ht_X9_isUnit {x : Int32} {g : fp_G} {K : Int32 → fp_G → Prop} (h : inN x 16) (k : K 1 g) : w_X9_isUnit x g K := by
  unfold w_X9_isUnit
  exact j_I (in_t (n := 16) (by omega) rfl h k)
theorem hf_X9_isUnit {x : Int32} {g : fp_G} {K : Int32 → fp_G → Prop} (h : ¬ inN x 16) (k : K 0 g) : w_X9_isUnit x g K := by
  unfold w_X9_isUnit
  exact j_I (in_f (n := 16) (by omega) rfl h k)
theorem lt_c {a : Int32} {n b : Nat} (h : a = nI n) (hb : b < 2 ^ 31) (hn : n < b) : a < nI b := by
  rw [h, lt_I, nI_I (by omega), nI_I hb]
  omega
theorem nlt_c {a : Int32} {b : Nat} (h : a = nI b) : ¬ a < nI b := by
  rw [h, lt_I]
  omega
theorem ne_c {a : Int32} {n b : Nat} (h : a = nI n) (hb : b < 2 ^ 31) (hn : n < b) : ¬ a = nI b := by
  rw [h, eq_I, nI_I (by omega), nI_I hb]
  omega
theorem inc_dec (n : Nat) : nI n + 1 - 1 = nI n := Int32.add_sub_cancel _ _
theorem c_staff {x y z : Int32} {g : fp_G} {P : Int32 → Int32 → fp_G → Prop} {n : Nat} (hn : n ≤ 12) (h6 : g 6 3 = nI n) (hk : g 67 12 = nI n) (h7 : g 69 = g 7)
    (ok : ∀ o j, o < n → x = nI o → j ≤ 99 → y = nI j → P (g 7 o) (g 7 o) (gu (gu (gu (gu g 7 o y) 8 o (vp_nar .boolean z)) 69 o y) 79 o (vp_nar .boolean z))) (no : ∀ r k, P r r (refG g k)) : w_X8_staff x y z g (fun r g1 => w_X9_staff x y z g1 (fun r2 g2 => P r r2 g2)) := by
  unfold w_X8_staff
  by_cases ho : inN x n
  · refine ht_X2_hasOffice hn h6 ho (j_I (ie (by decide) ?_))
    refine e_outside (l := 0) (h := 99) rfl rfl ?_
    rcases outS_c y 0 99 with ⟨h, c⟩ | ⟨h, c⟩ | ⟨h, c⟩ <;> rw [h]
    · refine ie (by decide) (e_refuse (k := 4) rfl (by decide) ?_)
      unfold w_X9_staff
      refine ht_X9_isOffice hn hk ho (ie (by decide) (e_out (l := 0) (h := 99) rfl rfl ?_))
      rw [h]
      exact ie (by decide) (e_no (k := 4) rfl (by decide) (no _ 4))
    · refine ie (by decide) (e_refuse (k := 6) rfl (by decide) ?_)
      unfold w_X9_staff
      refine ht_X9_isOffice hn hk ho (ie (by decide) (e_out (l := 0) (h := 99) rfl rfl ?_))
      rw [h]
      exact ie (by decide) (e_no (k := 6) rfl (by decide) (no _ 6))
    · refine it (by decide) ?_
      obtain ⟨j, e, hj⟩ := nat_of (by omega) c.1 c.2
      have ho2 := ho
      obtain ⟨o, ho, eo⟩ := ho
      unfold w_X2_setOffice
      refine rd_e eo (by omega) (by omega) (wr_e eo (by omega) (by omega) (wr_e eo (by omega) (by omega) ?_))
      unfold w_X9_staff
      refine ht_X9_isOffice hn hk ho2 (ie (by decide) (e_out (l := 0) (h := 99) rfl rfl ?_))
      rw [h]
      refine it rfl (rd_e eo (by omega) (by omega) (wr_e eo (by omega) (by omega) (wr_e eo (by omega) (by omega) ?_)))
      have := ok o j ho eo (by omega) e
      show P (g 7 o) (g 69 o) _
      rw [h7]
      exact this
  · refine hf_X2_hasOffice hn h6 ho (j_I (it rfl (ie (by decide) (e_refuse (k := 1) rfl (by decide) ?_))))
    unfold w_X9_staff
    exact hf_X9_isOffice hn hk ho (it rfl (e_no (k := 1) rfl (by decide) (no _ 1)))
theorem c_man {u x : Int32} {g : fp_G} {P : Int32 → Int32 → fp_G → Prop} {n : Nat} (hn : n ≤ 40) (h7 : g 18 7 = nI n) (hk : g 67 27 = nI n)
    (ok : ∀ i j, i < 16 → u = nI i → j ≤ 9999 → x = nI j → n < 40 → P (nI n) (nI n) (gu (gu (gu (gu (gu (gu g 23 n u) 24 n x) 18 7 (nI (n + 1))) 84 n u) 85 n x) 67 27 (nI (n + 1)))) (no : ∀ r k, P r r (refG g k)) : w_X8_man u x g (fun r g1 => w_X9_man u x g1 (fun r2 g2 => P r r2 g2)) := by
  unfold w_X8_man
  by_cases hu : inN u 16
  · refine ht_X8_isUnit hu (ie (by decide) ?_)
    have room : ∀ (c : outS x 0 9999 = -6 ∨ (outS x 0 9999 = 0 ∧ n = 40)), w_X8_refuse (-6) g (fun r g1 => w_X9_man u x g1 (fun r2 g2 => P r r2 g2)) := by
      intro c
      refine e_refuse (k := 6) rfl (by decide) ?_
      unfold w_X9_man
      refine ht_X9_isUnit hu (ie (by decide) (e_out (l := 0) (h := 9999) rfl rfl (j_I ?_)))
      rcases c with c | ⟨c, c2⟩
      · rw [c]
        exact ie (by decide) (ie (by decide) (e_no (k := 6) rfl (by decide) (no _ 6)))
      · rw [c]
        subst c2
        exact it rfl (it hk (ie (by decide) (e_no (k := 6) rfl (by decide) (no _ 6))))
    have z0 : (0 : Int32).toInt = 0 := rfl
    have z9 : (9999 : Int32).toInt = 9999 := rfl
    rcases outS_c x 0 9999 with ⟨h, c⟩ | ⟨h, c⟩ | ⟨h, c⟩
    · refine ie (by rw [le_I]; omega) (e_refuse (k := 4) rfl (by decide) ?_)
      unfold w_X9_man
      refine ht_X9_isUnit hu (ie (by decide) (e_out (l := 0) (h := 9999) rfl rfl (j_I ?_)))
      rw [h]
      exact ie (by decide) (ie (by decide) (e_no (k := 4) rfl (by decide) (no _ 4)))
    · exact it (by rw [le_I]; omega) (j_I (it (by rw [lt_I]; omega) (room (Or.inl h))))
    · refine it (by rw [le_I]; omega) (j_I (ie (by rw [lt_I]; omega) ?_))
      by_cases c40 : n = 40
      · subst c40
        exact ie (nlt_c h7) (room (Or.inr ⟨h, rfl⟩))
      · refine it (lt_c (b := 40) h7 (by decide) (by omega)) ?_
        unfold w_X6_addMan
        refine wr_e h7 (by omega) (by omega) (wr_e h7 (by omega) (by omega) (pf_i ?_))
        unfold w_X9_man
        refine ht_X9_isUnit hu (ie (by decide) (e_out (l := 0) (h := 9999) rfl rfl (j_I ?_)))
        rw [h]
        refine it rfl (ie (ne_c (b := 40) hk (by decide) (by omega)) (it rfl ?_))
        refine wr_e hk (by omega) (by omega) (wr_e hk (by omega) (by omega) (pf_i ?_))
        obtain ⟨j, e, hj⟩ := nat_of (by omega) c.1 c.2
        obtain ⟨i, hi, ei⟩ := hu
        have := ok i j hi ei (by omega) e (by omega)
        show P (g 18 7 + 1 - 1) (g 67 27 + 1 - 1) (gu (gu (gu (gu (gu (gu g 23 n u) 24 n x) 18 7 (g 18 7 + 1)) 84 n u) 85 n x) 67 27 (g 67 27 + 1))
        rw [h7, hk, inc_dec, show nI n + 1 = nI (n + 1) from (nI_succ n).symm]
        exact this
  · refine hf_X8_isUnit hu (it rfl (e_refuse (k := 1) rfl (by decide) ?_))
    unfold w_X9_man
    exact hf_X9_isUnit hu (it rfl (e_no (k := 1) rfl (by decide) (no _ 1)))
theorem c_put {x : Int32} {g : fp_G} {P : Int32 → Int32 → fp_G → Prop} {n : Nat} (hn : n ≤ 12) (h6 : g 61 6 = nI n) (hk : g 67 73 = nI n)
    (ok : n < 12 → P (nI (n + 1)) (nI (n + 1)) (gu (gu (gu (gu g 66 n x) 61 6 (nI (n + 1))) 123 n x) 67 73 (nI (n + 1)))) (no : ∀ r k, P r r (refG g k)) : w_X8_put x g (fun r g1 => w_X9_put x g1 (fun r2 g2 => P r r2 g2)) := by
  unfold w_X8_put
  have room : ∀ (c : outS x (-128) 127 = -6 ∨ (outS x (-128) 127 = 0 ∧ n = 12)), w_X8_refuse (-6) g (fun r g1 => w_X9_put x g1 (fun r2 g2 => P r r2 g2)) := by
    intro c
    refine e_refuse (k := 6) rfl (by decide) ?_
    unfold w_X9_put
    refine e_out (l := -128) (h := 127) rfl rfl (j_I ?_)
    rcases c with c | ⟨c, c2⟩
    · rw [c]
      exact ie (by decide) (ie (by decide) (e_no (k := 6) rfl (by decide) (no _ 6)))
    · rw [c]
      subst c2
      exact it rfl (it hk (ie (by decide) (e_no (k := 6) rfl (by decide) (no _ 6))))
  have z0 : (-128 : Int32).toInt = -128 := rfl
  have z9 : (127 : Int32).toInt = 127 := rfl
  rcases outS_c x (-128) 127 with ⟨h, c⟩ | ⟨h, c⟩ | ⟨h, c⟩
  · refine ie (by rw [le_I]; omega) (e_refuse (k := 4) rfl (by decide) ?_)
    unfold w_X9_put
    refine e_out (l := -128) (h := 127) rfl rfl (j_I ?_)
    rw [h]
    exact ie (by decide) (ie (by decide) (e_no (k := 4) rfl (by decide) (no _ 4)))
  · exact it (by rw [le_I]; omega) (j_I (it (by rw [lt_I]; omega) (room (Or.inl h))))
  · refine it (by rw [le_I]; omega) (j_I (ie (by rw [lt_I]; omega) ?_))
    by_cases c12 : n = 12
    · subst c12
      exact ie (nlt_c h6) (room (Or.inr ⟨h, rfl⟩))
    · refine it (lt_c (b := 12) h6 (by decide) (by omega)) ?_
      unfold w_X7_addToRow
      refine wr_e h6 (by omega) (by omega) (pf_i ?_)
      unfold w_X9_put
      refine e_out (l := -128) (h := 127) rfl rfl (j_I ?_)
      rw [h]
      refine it rfl (ie (ne_c (b := 12) hk (by decide) (by omega)) (it rfl ?_))
      refine wr_e hk (by omega) (by omega) (pf_i ?_)
      show P (g 61 6 + 1) (g 67 73 + 1) (gu (gu (gu (gu g 66 n x) 61 6 (g 61 6 + 1)) 123 n x) 67 73 (g 67 73 + 1))
      rw [h6, hk, show nI n + 1 = nI (n + 1) from (nI_succ n).symm]
      exact ok (by omega)
