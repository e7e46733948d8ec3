/-! ===== after ===== -/
def MT (n : Nat) (D0 D : fp_G) (T0 T : Nat → Int32) : Prop := ∀ m, m < n → tn (D0 6 m) ≤ tn (D 6 m) ∧ ∀ j, j < tn (D0 6 m) → j < 40 → T (40 * m + j) = T0 (40 * m + j)
theorem MT_arr {g D0 D : fp_G} {T0 T : Nat → Int32} {h : Nat} (hh : h ≤ 4000) (hI : IV g D h) (hM : MT (nMa g) D0 D T0 T) : ∀ j, j ≤ nMa g → MT (nMa g) D0 (arrD D h j) T0 (arrT D T h j) := by
  intro j
  induction j with
  | zero => exact fun _ => hM
  | succ j ih =>
    intro hj
    have ih := ih (by omega)
    obtain ⟨_, _, k, hk, ek⟩ := hI j (by omega)
    have ek' : arrD D h j 6 j = nI k := by rw [arrD_o D h 6 j j (Nat.le_refl _)]; exact ek
    intro m hm
    obtain ⟨i1, i2⟩ := ih m hm
    rw [arrD, arrT]
    unfold arr1
    by_cases c : arrD D h j 1 j = 1 ∧ arrD D h j 3 j = nI h
    · rw [if_pos c]
      have e6 : tn (arrD D h j 6 m) ≤ tn (comD (arrD D h j) j 6 m) := by
        unfold comD
        by_cases z : m = j
        · subst z
          rw [gu_s, ek', show nI k + 1 = nI (k + 1) from (nI_succ k).symm, tn_n (by omega), tn_n (by omega)]
          omega
        · rw [gu_i _ _ z, gu_k _ _ _ (by decide)]
          exact Nat.le_refl _
      refine ⟨Nat.le_trans i1 e6, fun j' h1 h2 => ?_⟩
      rw [ek', tn_n (by omega)]
      split
      · rename_i c2
        have k40 : k < 40 := by
          have := c2.2.2
          rw [show (40 : Int32) = nI 40 from rfl, lt_n (by omega) (by omega)] at this
          exact this
        have : 40 * m + j' ≠ 40 * j + k := by
          by_cases z : m = j
          · subst z
            rw [ek', tn_n (by omega)] at i1
            omega
          · omega
        rw [upd_n _ _ this]
        exact i2 j' h1 h2
      · exact i2 j' h1 h2
    · rw [if_neg c, if_neg (fun z => c ⟨z.1, z.2.1⟩)]
      exact ⟨i1, i2⟩
theorem MT_it {g D0 : fp_G} {F : Nat → (Nat → Int32) → Bool} {T0 : Nat → Int32} {h : Nat} (hq : QQ g F) (hI : IV g D0 h) : ∀ k, h + k ≤ 4000 → MT (nMa g) D0 (itD g F D0 h k) T0 (itT g F D0 T0 h k) := by
  intro k
  induction k with
  | zero => exact fun _ m _ => ⟨Nat.le_refl _, fun _ _ _ => rfl⟩
  | succ k ih =>
    intro hk
    have h1 := MT_arr (by omega) (IV_it hq hI k) (ih (by omega)) (nMa g) (Nat.le_refl _)
    have hA : IA g (arrD (itD g F D0 h k) (h + k) (nMa g)) (h + k + 2) := IV_arr (IV_it hq hI k) rfl
    intro m hm
    have e6 : itD g F D0 h (k + 1) 6 m = arrD (itD g F D0 h k) (h + k) (nMa g) 6 m := (IA_PD hq hA (fun m z => by unfold prc at z; simp only [Bool.and_eq_true, decide_eq_true_eq] at z; exact z.2.1)).2 m hm
    rw [e6]
    exact h1 m hm
def kap (r : Nat) : Nat := if r = 1 then 113 else if r = 2 then 114 else if r = 3 then 115 else if r = 4 then 118 else if r = 5 then 116 else if r = 6 then 117 else 119
theorem kap_c (r : Nat) : 113 ≤ kap r ∧ kap r ≤ 119 := by
  unfold kap
  repeat' split
  all_goals omega
def wr7 (g : fp_G) (j : Nat) (v : Nat → Int32) : fp_G := gu (gu (gu (gu (gu (gu (gu g 113 j (v 1)) 114 j (v 2)) 115 j (v 3)) 116 j (v 5)) 117 j (v 6)) 118 j (v 4)) 119 j (v 7)
theorem wr7_at (g : fp_G) (j : Nat) (v : Nat → Int32) (r m : Nat) (h1 : 1 ≤ r) (h7 : r ≤ 7) : wr7 g j v (kap r) m = if m = j then v r else g (kap r) m := by
  match r, h1, h7 with
  | 1, _, _ => by_cases z : m = j <;> simp [wr7, gu, kap, z]
  | 2, _, _ => by_cases z : m = j <;> simp [wr7, gu, kap, z]
  | 3, _, _ => by_cases z : m = j <;> simp [wr7, gu, kap, z]
  | 4, _, _ => by_cases z : m = j <;> simp [wr7, gu, kap, z]
  | 5, _, _ => by_cases z : m = j <;> simp [wr7, gu, kap, z]
  | 6, _, _ => by_cases z : m = j <;> simp [wr7, gu, kap, z]
  | 7, _, _ => by_cases z : m = j <;> simp [wr7, gu, kap, z]
theorem wr7_o (g : fp_G) (j : Nat) (v : Nat → Int32) {q : Nat} (i : Nat) (hq : ¬ (113 ≤ q ∧ q ≤ 119)) : wr7 g j v q i = g q i := by
  unfold wr7
  rw [gu_k _ _ _ (by omega), gu_k _ _ _ (by omega), gu_k _ _ _ (by omega), gu_k _ _ _ (by omega), gu_k _ _ _ (by omega), gu_k _ _ _ (by omega), gu_k _ _ _ (by omega)]
theorem nar_b {x : Int32} (h : x = 0 ∨ x = 1) : vp_nar .boolean x = x := by
  rcases h with rfl | rfl <;> rfl
theorem s9_keeps {g D : fp_G} {F : Nat → (Nat → Int32) → Bool} {K : Int32 → fp_G → Prop} (hq : QQ g F) (hB : IB g D) (hr : ∀ r, 1 ≤ r → r ≤ 7 → ∀ m, m < nMa g → g (rho r) m = D r m)
    (k : ∀ g', (∀ q i, ¬ (113 ≤ q ∧ q ≤ 119) → g' q i = g q i) → (∀ r, 1 ≤ r → r ≤ 7 → ∀ m, m < nMa g → g' (kap r) m = D r m) → K 0 g') : w_X9_keeps g K := by
  obtain ⟨hn, _, h42⟩ := hq.1.2.1.Ma
  unfold w_X9_keeps
  refine ⟨nMa g + 1, ?_⟩
  have loop : ∀ r j g', j + r = nMa g → (∀ q i, ¬ (113 ≤ q ∧ q ≤ 119) → g' q i = g q i) → (∀ r, 1 ≤ r → r ≤ 7 → ∀ m, m < j → g' (kap r) m = D r m) → w_X9_keeps_2 (r + 1) (nI j) g' K := by
    intro r
    induction r with
    | zero =>
      intro j g' hj h1 h2
      have hj : j = nMa g := by omega
      rw [w_X9_keeps_2]
      rw [hj] at h2
      exact it (by rw [hj]; exact end_c (by rw [h1 67 42 (by omega)]; exact h42)) (k g' h1 h2)
    | succ r ih =>
      intro j g' hj h1 h2
      rw [w_X9_keeps_2]
      have e : ∀ r, 1 ≤ r → r ≤ 7 → g' (rho r) j = D r j := fun r a b => by
        have := rho_c r
        rw [h1 (rho r) j (by omega)]
        exact hr r a b j (by omega)
      obtain ⟨b4, b7⟩ := hB j (by omega)
      refine ie (nend_c (n := nMa g) (by rw [h1 67 42 (by omega)]; exact h42) (by omega) (by omega)) ?_
      refine rd_v (v := D 1 j) rfl (by omega) (by omega) (e 1 (by omega) (by omega)) (wr_n (k := j) (by omega) (by omega) ?_)
      refine rd_v (v := D 2 j) rfl (by omega) (by omega) (e 2 (by omega) (by omega)) (wr_n (k := j) (by omega) (by omega) ?_)
      refine rd_v (v := D 3 j) rfl (by omega) (by omega) (e 3 (by omega) (by omega)) (wr_n (k := j) (by omega) (by omega) ?_)
      refine rd_v (v := D 5 j) rfl (by omega) (by omega) (e 5 (by omega) (by omega)) (wr_n (k := j) (by omega) (by omega) ?_)
      refine rd_v (v := D 6 j) rfl (by omega) (by omega) (e 6 (by omega) (by omega)) (wr_n (k := j) (by omega) (by omega) ?_)
      refine rd_v (v := D 4 j) rfl (by omega) (by omega) (e 4 (by omega) (by omega)) (wr_n (k := j) (by omega) (by omega) ?_)
      refine rd_v (v := D 7 j) rfl (by omega) (by omega) (e 7 (by omega) (by omega)) (wr_n (k := j) (by omega) (by omega) ?_)
      rw [nar_b b4, nar_b b7, show nI j + 1 = nI (j + 1) from (nI_succ j).symm]
      show w_X9_keeps_2 (r + 1) (nI (j + 1)) (wr7 g' j (fun r => D r j)) K
      refine ih (j + 1) _ (by omega) (fun q i hq => by rw [wr7_o _ _ _ _ hq]; exact h1 q i hq) (fun r a b m hm => ?_)
      rw [wr7_at _ _ _ _ _ a b]
      by_cases z : m = j
      · rw [if_pos z, z]
      · rw [if_neg z]
        exact h2 r a b m (by omega)
  exact loop (nMa g) 0 g (by omega) (fun _ _ _ => rfl) (fun r _ _ m hm => absurd hm (by omega))
theorem s9_putsBack {g0 gs g D0 D : fp_G} {F : Nat → (Nat → Int32) → Bool} {X : Nat → Int32} {K : Int32 → fp_G → Prop} (hq : QQ g0 F) (hB : IB g0 D0) (hk : ∀ r, 1 ≤ r → r ≤ 7 → ∀ m, m < nMa g0 → gs (kap r) m = D0 r m) (hs : RR g0 g D) (hf : FK gs g) (hX : g 100 = X)
    (k : ∀ g' D', RR g0 g' D' → (∀ r, 1 ≤ r → r ≤ 7 → ∀ m, m < nMa g0 → D' r m = D0 r m) → g' 100 = X → K 0 g') : w_X9_putsBack g K := by
  obtain ⟨hn, _, h42⟩ := hq.1.2.1.Ma
  unfold w_X9_putsBack
  refine ⟨nMa g0 + 1, ?_⟩
  have loop : ∀ r j g D, j + r = nMa g0 → RR g0 g D → FK gs g → g 100 = X → (∀ r, 1 ≤ r → r ≤ 7 → ∀ m, m < j → D r m = D0 r m) → w_X9_putsBack_2 (r + 1) (nI j) g K := by
    intro r
    induction r with
    | zero =>
      intro j g D hj hs hf hX h2
      have hj : j = nMa g0 := by omega
      rw [w_X9_putsBack_2]
      rw [hj] at h2
      exact it (by rw [hj]; exact end_c (by rw [hs.1.1 67 42 rfl]; exact h42)) (k g D hs h2 hX)
    | succ r ih =>
      intro j g D hj hs hf hX h2
      rw [w_X9_putsBack_2]
      have e : ∀ r, 1 ≤ r → r ≤ 7 → g (kap r) j = D0 r j := fun r a b => by
        have := kap_c r
        rw [hf (kap r) (by omega)]
        exact hk r a b j (by omega)
      obtain ⟨b4, b7⟩ := hB j (by omega)
      refine ie (nend_c (n := nMa g0) (by rw [hs.1.1 67 42 rfl]; exact h42) (by omega) (by omega)) ?_
      refine rd_v (v := D0 1 j) rfl (by omega) (by omega) (e 1 (by omega) (by omega)) (wr_n (k := j) (by omega) (by omega) ?_)
      refine rd_v (v := D0 2 j) rfl (by omega) (by omega) (e 2 (by omega) (by omega)) (wr_n (k := j) (by omega) (by omega) ?_)
      refine rd_v (v := D0 3 j) rfl (by omega) (by omega) (e 3 (by omega) (by omega)) (wr_n (k := j) (by omega) (by omega) ?_)
      refine rd_v (v := D0 5 j) rfl (by omega) (by omega) (e 5 (by omega) (by omega)) (wr_n (k := j) (by omega) (by omega) ?_)
      refine rd_v (v := D0 6 j) rfl (by omega) (by omega) (e 6 (by omega) (by omega)) (wr_n (k := j) (by omega) (by omega) ?_)
      refine rd_v (v := D0 4 j) rfl (by omega) (by omega) (e 4 (by omega) (by omega)) (wr_n (k := j) (by omega) (by omega) ?_)
      refine rd_v (v := D0 7 j) rfl (by omega) (by omega) (e 7 (by omega) (by omega)) (wr_n (k := j) (by omega) (by omega) ?_)
      rw [nar_b b4, nar_b b7, show nI j + 1 = nI (j + 1) from (nI_succ j).symm]
      have hj2 : j < nMa g0 := by omega
      have r1 := RR_w hs (r := 1) (m := j) (by omega) (by omega) hj2 (D0 1 j)
      have r2 := RR_w r1 (r := 2) (m := j) (by omega) (by omega) hj2 (D0 2 j)
      have r3 := RR_w r2 (r := 3) (m := j) (by omega) (by omega) hj2 (D0 3 j)
      have r5 := RR_w r3 (r := 5) (m := j) (by omega) (by omega) hj2 (D0 5 j)
      have r6 := RR_w r5 (r := 6) (m := j) (by omega) (by omega) hj2 (D0 6 j)
      have r4 := RR_w r6 (r := 4) (m := j) (by omega) (by omega) hj2 (D0 4 j)
      have r7 := RR_w r4 (r := 7) (m := j) (by omega) (by omega) hj2 (D0 7 j)
      refine ih (j + 1) _ _ (by omega) r7 (FK_gu (FK_gu (FK_gu (FK_gu (FK_gu (FK_gu (FK_gu hf (by decide) _ _) (by decide) _ _) (by decide) _ _) (by decide) _ _) (by decide) _ _) (by decide) _ _) (by decide) _ _) (by rw [gu_k _ _ _ (by decide), gu_k _ _ _ (by decide), gu_k _ _ _ (by decide), gu_k _ _ _ (by decide), gu_k _ _ _ (by decide), gu_k _ _ _ (by decide), gu_k _ _ _ (by decide)]; exact hX) (fun r a b m hm => ?_)
      by_cases z : m = j
      · subst z
        match r, a, b with
        | 1, _, _ => simp [gu]
        | 2, _, _ => simp [gu]
        | 3, _, _ => simp [gu]
        | 4, _, _ => simp [gu]
        | 5, _, _ => simp [gu]
        | 6, _, _ => simp [gu]
        | 7, _, _ => simp [gu]
      · have : ∀ (G : fp_G) (q : Nat) (v : Int32), gu G q j v r m = G r m := fun G q v => by simp [gu, z]
        rw [this, this, this, this, this, this, this]
        exact h2 r a b m (by omega)
  exact loop (nMa g0) 0 g D (by omega) hs hf hX (fun r _ _ m hm => absurd hm (by omega))
/-- what after answers: r hours left, i gone -/
def aF (g : fp_G) (F : Nat → (Nat → Int32) → Bool) (D : fp_G) (h m : Nat) (x : Int32) : Nat → Nat → Int32
  | 0, i => if itD g F D h i 1 m < 2 then -9 else if x = 0 then itD g F D h i 3 m else itD g F D h i 1 m
  | r + 1, i => if itD g F D h i 1 m < 2 then aF g F D h m x r (i + 1) else if x = 0 then itD g F D h i 3 m else itD g F D h i 1 m
theorem s8_endOf {c m : Nat} {x : Int32} {g0 g D : fp_G} {K : Int32 → fp_G → Prop} (hs : CS c g0 g D) (hm : m < nMa g0) (hn : nMa g0 ≤ 60) (k : K (if x = 0 then D 3 m else D 1 m) g) : w_X8_endOf c (nI m) x g K := by
  unfold w_X8_endOf
  refine is (fun z => rd_v rfl (by omega) (by omega) (hs.at (by omega) (by omega) hm) ?_) (fun z => rd_v rfl (by omega) (by omega) (hs.at (by omega) (by omega) hm) ?_)
  · rw [if_pos z] at k
    exact k
  · rw [if_neg z] at k
    exact k
theorem l_after8 {g0 D : fp_G} {F : Nat → (Nat → Int32) → Bool} {T : Nat → Int32} {K : Int32 → fp_G → Prop} {x : Int32} {h0 m : Nat} (hq : QQ g0 F) (hN : g0 0 9 = nI h0) (hh : h0 ≤ 2000) (hI : IV g0 D h0) (hm : m < nMa g0)
    (k : ∀ g D', CS 52 g0 g D' → K (aF g0 F D h0 m x 300 0) g) :
    ∀ r i g, i + r = 300 → CT 52 g0 g (itD g0 F D h0 i) T → itD g0 F D h0 i 1 m < 2 → aF g0 F D h0 m x r i = aF g0 F D h0 m x 300 0 → w_X8_after_74 (r + 1) (nI m) x (nI i) g K := by
  have hn := hq.1.2.1.Ma.1
  intro r
  induction r with
  | zero =>
    intro i g hi hs hlt ha
    have hi : i = 300 := by omega
    rw [w_X8_after_74]
    refine it (by rw [hi]; decide) ?_
    rw [aF, if_pos hlt] at ha
    rw [ha]
    exact k g _ hs.1
  | succ r ih =>
    intro i g hi hs hlt ha
    rw [w_X8_after_74]
    rw [aF, if_pos hlt] at ha
    refine ie ?_ ?_
    · show ¬ nI 300 ≤ nI i
      rw [le_n (by omega) (by omega)]
      omega
    rw [show g 0 9 = nI h0 by rw [hs.1.1 0 9 (by omega)]; exact hN, nI_add]
    refine s4_passHour (Or.inr rfl) hq (by omega) (IV_it hq hI i) hs (fun g1 hs1 => ?_)
    have hs2 : CT 52 g0 g1 (itD g0 F D h0 (i + 1)) T := ⟨hs1.1, fun z => absurd z (by decide)⟩
    have e1 : g1 (52 + 1) m = itD g0 F D h0 (i + 1) 1 m := hs1.1.at (by omega) (by omega) hm
    unfold w_X0_ended
    refine rd_v rfl (by omega) (by omega) e1 (is (fun c => it rfl ?_) (fun c => ie (by decide) (s8_endOf hs2.1 hm hn ?_)))
    · rw [show nI i + 1 = nI (i + 1) from (nI_succ i).symm]
      exact ih (i + 1) g1 (by omega) hs2 c ha
    · have : aF g0 F D h0 m x r (i + 1) = if x = 0 then itD g0 F D h0 (i + 1) 3 m else itD g0 F D h0 (i + 1) 1 m := by
        cases r with
        | zero => rw [aF, if_neg c]
        | succ r => rw [aF, if_neg c]
      rw [← this, ha]
      exact k g1 _ hs2.1
theorem l_after9 {g0 gs D : fp_G} {F : Nat → (Nat → Int32) → Bool} {T : Nat → Int32} {K : Int32 → fp_G → Prop} {x : Int32} {h0 m : Nat} (hq : QQ g0 F) (hN : g0 67 15 = nI h0) (hh : h0 ≤ 2000) (hI : IV g0 D h0) (hB : IB g0 D) (hm : m < nMa g0) (hk : ∀ r, 1 ≤ r → r ≤ 7 → ∀ m, m < nMa g0 → gs (kap r) m = D r m)
    (k : ∀ g' D' i X, RR g0 g' D' → (∀ r, 1 ≤ r → r ≤ 7 → ∀ m, m < nMa g0 → D' r m = D r m) → i ≤ 300 → OKT (nMa g0) (itD g0 F D h0 i) (itT g0 F D T h0 i) X → g' 100 = X → K (aF g0 F D h0 m x 300 0) g') :
    ∀ r i g, i + r = 300 → RP g0 gs g (itD g0 F D h0 i) (itT g0 F D T h0 i) → aF g0 F D h0 m x r i = aF g0 F D h0 m x 300 0 → w_X9_after_41 (r + 1) (nI m) x (nI i) g K := by
  have hn := hq.1.2.1.Ma.1
  have two : ∀ y : Int32, (2 ≤ y) ↔ ¬ y < 2 := fun y => by rw [le_I, lt_I]; omega
  -- the answer, and all put back
  have fin : ∀ i g, i ≤ 300 → RP g0 gs g (itD g0 F D h0 i) (itT g0 F D T h0 i) → (∀ v, v = aF g0 F D h0 m x 300 0 → w_X9_putsBack g (fun _ g5 => K v g5)) := by
    intro i g hi hs v hv
    refine s9_putsBack hq hB hk hs.1 hs.2.2 rfl (fun g' D' h1 h2 h3 => ?_)
    rw [hv]
    exact k g' D' i _ h1 h2 hi hs.2.1 h3
  have tell : ∀ i g, i ≤ 300 → RP g0 gs g (itD g0 F D h0 i) (itT g0 F D T h0 i) → (if itD g0 F D h0 i 1 m < 2 then -9 else if x = 0 then itD g0 F D h0 i 3 m else itD g0 F D h0 i 1 m) = aF g0 F D h0 m x 300 0 →
      (fp_rd (g 95) 60 (nI m) fun v5 => fp_j (fun (z0j108 : Int32) => w_X9_putsBack g fun _ g5 => K z0j108 g5) fun J108 => if 2 ≤ v5 then (if x = 0 then fp_rd (g 97) 60 (nI m) fun v8 => J108 v8 else fp_rd (g 95) 60 (nI m) fun v7 => J108 v7) else J108 (-9)) := by
    intro i g hi hs ha
    have e1 : g 95 m = itD g0 F D h0 i 1 m := hs.1.at (r := 1) (by omega) (by omega) hm
    have e3 : g 97 m = itD g0 F D h0 i 3 m := hs.1.at (r := 3) (by omega) (by omega) hm
    refine rd_v rfl (by omega) (by omega) e1 (j_I (is (fun c => is (fun z => rd_v rfl (by omega) (by omega) e3 (fin i g hi hs _ ?_)) (fun z => rd_v rfl (by omega) (by omega) e1 (fin i g hi hs _ ?_))) (fun c => fin i g hi hs _ ?_)))
    · rw [if_neg ((two _).mp c), if_pos z] at ha
      exact ha
    · rw [if_neg ((two _).mp c), if_neg z] at ha
      exact ha
    · rw [if_pos (Classical.byContradiction (fun y => c ((two _).mpr y)))] at ha
      exact ha
  intro r
  induction r with
  | zero =>
    intro i g hi hs ha
    have hi : i = 300 := by omega
    rw [w_X9_after_41]
    rw [aF] at ha
    exact j_I (it (by rw [hi]; decide) (tell i g (by omega) hs ha))
  | succ r ih =>
    intro i g hi hs ha
    rw [w_X9_after_41]
    rw [aF] at ha
    have e1 : g 95 m = itD g0 F D h0 i 1 m := hs.1.at (r := 1) (by omega) (by omega) hm
    refine j_I (ie ?_ (rd_v rfl (by omega) (by omega) e1 (is (fun c => tell i g (by omega) hs ?_) (fun c => ?_))))
    · show ¬ nI 300 ≤ nI i
      rw [le_n (by omega) (by omega)]
      omega
    · rw [if_neg ((two _).mp c)] at ha ⊢
      exact ha
    · rw [if_pos (Classical.byContradiction (fun y => c ((two _).mpr y)))] at ha
      rw [show g 67 15 = nI h0 by rw [hs.1.1.2 67 15 (by omega)]; exact hN, nI_add, show nI i + 1 = nI (i + 1) from (nI_succ i).symm]
      exact s9_passes hq (by omega) (IV_it hq hI i) hs (fun g1 hs1 => ih (i + 1) g1 (by omega) hs1 ha)
theorem cp_i {ty : FieldType} {g : fp_G} {q0 q1 n : Nat} {x : Int32} {P : fp_G → Prop} (hx : x = nI n) (hn : n ≤ 60) (hf : ∀ i, i < n → fits ty (.int (g q0 i)) = true) (k : P (gc g q1 (va_cpy (g q0) (g q1) 0 0 n))) : fp_cp ty g q0 60 q1 60 0 0 x P := by
  subst hx
  have e0 : tn 0 = 0 := rfl
  refine ⟨⟨by decide, by decide, ?_, ?_, ?_, fun i hi => ?_⟩, ?_⟩
  · show ¬ nI n < nI 0
    rw [lt_n (by omega) (by omega)]
    omega
  · rw [e0, tn_n (by omega)]
    omega
  · rw [e0, tn_n (by omega)]
    omega
  · rw [tn_n (by omega)] at hi
    rw [e0, Nat.zero_add]
    exact hf i hi
  · rw [e0, tn_n (by omega)]
    exact k
theorem s0_copy {g : fp_G} {F : Nat → (Nat → Int32) → Bool} {K : Int32 → fp_G → Prop} (hq : QQ g F) (hB : IB g (fun r m => g (43 + r) m)) (k : ∀ g', CS 52 g g' (fun r m => g (43 + r) m) → K 0 g') : w_X0_copyFrom 52 (g 37 5) g K := by
  obtain ⟨hn, h5, _⟩ := hq.1.2.1.Ma
  unfold w_X0_copyFrom
  have fb : ∀ x : Int32, (x = 0 ∨ x = 1) → fits .boolean (.int x) = true := by
    rintro x (rfl | rfl) <;> rfl
  refine cp_i h5 hn (fun _ _ => rfl) (cp_i h5 hn (fun _ _ => rfl) (cp_i h5 hn (fun _ _ => rfl) (cp_i h5 hn (fun i hi => fb _ (hB i hi).1) (cp_i h5 hn (fun _ _ => rfl) (cp_i h5 hn (fun _ _ => rfl) (cp_i h5 hn (fun i hi => fb _ (hB i hi).2) (k _ ?_)))))))
  have cpy : ∀ (f f2 : Nat → Int32) m, va_cpy f f2 0 0 (nMa g) m = if m < nMa g then f m else f2 m := by
    intro f f2 m
    by_cases z : m < nMa g
    · rw [if_pos z, pk_cpy_in (by omega) (by omega)]
      congr 1
      omega
    · rw [if_neg z, pk_cpy_out (by omega)]
  refine ⟨fun q i hq2 => ?_, fun r h1 h7 m => ?_⟩
  · rw [gc_k _ _ (by omega), gc_k _ _ (by omega), gc_k _ _ (by omega), gc_k _ _ (by omega), gc_k _ _ (by omega), gc_k _ _ (by omega), gc_k _ _ (by omega)]
  · match r, h1, h7 with
    | 1, _, _ => exact cpy (g 44) (g 53) m
    | 2, _, _ => exact cpy (g 45) (g 54) m
    | 3, _, _ => exact cpy (g 46) (g 55) m
    | 4, _, _ => exact cpy (g 47) (g 56) m
    | 5, _, _ => exact cpy (g 48) (g 57) m
    | 6, _, _ => exact cpy (g 49) (g 58) m
    | 7, _, _ => exact cpy (g 50) (g 59) m
theorem c_after {x y : Int32} {g : fp_G} {F : Nat → (Nat → Int32) → Bool} {P : Int32 → Int32 → fp_G → Prop} (hq : QQ g F) (hN : Now g) (hSC : SameC g) (hI : IV g (fun r m => g (43 + r) m) (nNow g)) (hB : IB g (fun r m => g (43 + r) m)) (hTr : OKT (nMa g) (fun r m => g (43 + r) m) (g 51) (g 100))
    (ok : ∀ r g', Stc g g' → g' 0 9 = g 0 9 → g' 67 15 = g 67 15 → (∀ q, 44 ≤ q → q ≤ 51 → g' q = g q) → (∀ q, 95 ≤ q → q ≤ 102 → q ≠ 100 → g' q = g q) → OKT (nMa g) (fun r m => g (43 + r) m) (g 51) (g' 100) → P r r g')
    (no : ∀ r k, P r r (refG g k)) : w_X8_after x y g (fun r g1 => w_X9_after x y g1 (fun r2 g2 => P r r2 g2)) := by
  obtain ⟨hMa, h5, hk5⟩ := hq.1.2.1.Ma
  obtain ⟨hn, h9, hk9⟩ := hN.n
  have hro := SameC_r hSC
  unfold w_X8_after
  by_cases hm : inN x (nMa g)
  · have hm2 := hm
    obtain ⟨m, hm2, em⟩ := hm2
    refine ht_X1_has hMa h5 hm (ie (by decide) ?_)
    have ref : ∀ (gC : fp_G) (v : Int32), (y = 0 ∨ y = 1) → Stc g gC → (∀ q i, ¬ (q = 3 ∨ q = 4 ∨ q = 5 ∨ (53 ≤ q ∧ q ≤ 60)) → gC q i = g q i) → v = aF g F (fun r m => g (43 + r) m) (nNow g) m y 300 0 → w_X9_after x y gC (fun r2 g2 => P v r2 g2) := by
      intro gC v hy HK hCg hv
      have qC := Stc_QQ HK hq
      have eMa : nMa gC = nMa g := Stc_nMa HK
      have gr : ∀ r m, gC (rho r) m = g (rho r) m := by
        intro r m
        have := rho_c r
        exact hCg (rho r) m (by omega)
      have hIC : IV gC (fun r m => g (43 + r) m) (nNow g) := by
        unfold IV
        rw [Stc_nMa HK, Stc_nO HK]
        exact hI
      have hBC : IB gC (fun r m => g (43 + r) m) := by
        unfold IB
        rw [eMa]
        exact hB
      unfold w_X9_after
      refine ht_X9_isMail hMa (by rw [hCg 67 42 (by omega)]; exact hk5) hm (ie (by decide) (e_isIn (l := 0) (h := 1) rfl rfl ?_))
      rw [bi_t (by rcases hy with rfl | rfl <;> decide)]
      refine ie (by decide) (s9_keeps qC hBC (fun r h1 h7 m _ => by rw [gr r m]; exact hro r h1 h7 m) (fun gK k1 k2 => ?_))
      have HK2 : Stc gC gK := fun q i e => k1 q i (fun z => by rw [chg_s (by omega)] at e; cases e)
      have HK3 : Stc g gK := Stc_trans HK HK2
      have qK := Stc_QQ HK3 hq
      have eMaK : nMa gK = nMa g := Stc_nMa HK3
      have hIK : IV gK (fun r m => g (43 + r) m) (nNow g) := by
        unfold IV
        rw [Stc_nMa HK3, Stc_nO HK3]
        exact hI
      have hBK : IB gK (fun r m => g (43 + r) m) := by
        unfold IB
        rw [eMaK]
        exact hB
      refine qK.1.find (fun f fd q2 => ⟨301, ?_⟩)
      rw [em]
      refine l_after9 (g0 := gK) (gs := gc gK 78 f) (D := fun r m => g (43 + r) m) (T := g 51) qK (by rw [k1 67 15 (by omega), hCg 67 15 (by omega)]; exact hk9) hn hIK hBK (by rw [eMaK]; exact hm2) (fun r h1 h7 m' hm' => ?_) (fun gF D' i X h1 h2 h3 h4 h6 => ?_) 300 0 _ (by omega) ?_ rfl
      · have := kap_c r
        rw [gc_k _ _ (by omega)]
        exact k2 r h1 h7 m' (by rw [eMa, ← eMaK]; exact hm')
      · have eA : ∀ r i, aF gK F (fun r m => g (43 + r) m) (nNow g) m y r i = aF g F (fun r m => g (43 + r) m) (nNow g) m y r i := by
          intro r
          induction r with
          | zero => intro i; rw [aF, aF, itD_stc HK3]
          | succ r ih => intro i; rw [aF, aF, itD_stc HK3, ih]
        rw [eA, ← hv]
        rw [itD_stc HK3, itT_stc HK3, eMaK] at h4
        refine ok v gF (Stc_trans HK3 h1.1.1) ?_ ?_ (fun q a b => ?_) (fun q a b c => ?_) (fun m' hm' j hj h40 => ?_)
        · rw [h1.1.2 0 9 (by omega), k1 0 9 (by omega), hCg 0 9 (by omega)]
        · rw [h1.1.2 67 15 (by omega), k1 67 15 (by omega), hCg 67 15 (by omega)]
        · funext i
          rw [h1.1.2 q i (by omega), k1 q i (by omega), hCg q i (by omega)]
        · obtain ⟨r, r1, r7, er⟩ := rho_sur ⟨a, b⟩ c
          subst er
          funext i
          rw [h1.2.1 r r1 r7 i, eMaK]
          split
          · rename_i hi
            rw [h2 r r1 r7 i (by rw [eMaK]; exact hi)]
            exact (hro r r1 r7 i).symm
          · rw [k1 (rho r) i (by omega), gr r i]
        · have mt := MT_it (T0 := g 51) hq hI i (by omega) m' hm'
          rw [h6, h4 m' hm' j (Nat.lt_of_lt_of_le hj mt.1) h40]
          exact mt.2 j hj h40
      · refine ⟨RR_start (fun r h1 h7 m' _ => ?_) fd, ?_, fun q hq2 => rfl⟩
        · have := rho_c r
          rw [k1 (rho r) m' (by omega), gr r m']
          exact hro r h1 h7 m'
        · rw [eMaK, gc_k _ _ (by decide), show gK 100 = g 100 from funext (fun i => by rw [k1 100 i (by omega), hCg 100 i (by omega)])]
          exact hTr
    have body : (y = 0 ∨ y = 1) → (w_X0_ended 43 x g fun v2 g2 => if v2 = 0 then (w_X0_copyFrom 52 (g2 37 5) g2 fun _ g3 => ∃ n74, w_X8_after_74 n74 x y 0 g3 (fun r g1 => w_X9_after x y g1 (fun r2 g2 => P r r2 g2))) else w_X8_endOf 43 x y g2 fun v7 g7 => w_X9_after x y g7 (fun r2 g2 => P v7 r2 g2)) := by
      intro hy
      have hs0 : CS 43 g g (fun r m => g (43 + r) m) := ⟨fun _ _ _ => rfl, fun r h1 h7 m => by split <;> rfl⟩
      unfold w_X0_ended
      refine rd_v (v := g 44 m) em (by omega) (by omega) rfl (is (fun c => it rfl (s0_copy hq hB (fun g3 h3 => ⟨301, ?_⟩))) (fun c => ie (by decide) ?_))
      · rw [em]
        refine l_after8 (D := fun r m => g (43 + r) m) (T := g 51) hq h9 hn hI hm2 (fun gC D' hC => ?_) 300 0 g3 (by omega) ⟨h3, fun z => absurd z (by decide)⟩ c rfl
        rw [← em]
        exact ref gC _ hy (hC.stc (Or.inr rfl)) (fun q i hq2 => hC.1 q i (by omega)) rfl
      · rw [em]
        refine s8_endOf hs0 hm2 hMa ?_
        rw [← em]
        refine ref g _ hy (Stc_refl g) (fun _ _ _ => rfl) ?_
        rw [aF, if_neg (show ¬ itD g F (fun r m => g (43 + r) m) (nNow g) 0 1 m < 2 from c)]
        rfl
    refine j_I (is (fun c => body (Or.inl c)) (fun c => is (fun c2 => body (Or.inr c2)) (fun c2 => e_refuse (k := 2) rfl (by decide) ?_)))
    unfold w_X9_after
    refine ht_X9_isMail hMa hk5 hm (ie (by decide) (e_isIn (l := 0) (h := 1) rfl rfl ?_))
    rw [bi_f (fun z => ?_)]
    · exact it rfl (e_no (k := 2) rfl (by decide) (no _ 2))
    · rw [eq_I, show (0 : Int32).toInt = 0 from rfl] at c
      rw [eq_I, show (1 : Int32).toInt = 1 from rfl] at c2
      omega
  · refine hf_X1_has hMa h5 hm (it rfl (e_refuse (k := 1) rfl (by decide) ?_))
    unfold w_X9_after
    exact hf_X9_isMail hMa hk5 hm (it rfl (e_no (k := 1) rfl (by decide) (no _ 1)))
