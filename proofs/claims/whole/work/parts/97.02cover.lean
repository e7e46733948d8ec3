/-! ===== cover and sure ===== -/
def ftL : Nat → Int32 → Int32 → Bool
  | 0, _, _ => true
  | k + 1, a, r => (decide (r - r / 11 * 11 = 10) || decide (r - r / 11 * 11 = a - a / 10 * 10)) && ftL k (a / 10) (r / 11)
def bI (b : Bool) : Int32 := if b then 1 else 0
def ftM (un nm : Nat → Int32) (u d : Int32) (i : Nat) : Bool := (decide (u = -1) || decide (un i = u)) && ftL 4 (nm i) d
theorem l_fits6 {g : fp_G} {K : Int32 → fp_G → Prop} : ∀ r j a d, j + r = 4 → K (bI (ftL r a d)) g → w_X6_fits_31 (r + 1) a d (nI j) g K := by
  intro r
  induction r with
  | zero =>
    intro j a d hj k
    have hj : j = 4 := by omega
    subst hj
    rw [w_X6_fits_31]
    exact it (end_c (a := 4) rfl) k
  | succ r ih =>
    intro j a d hj k
    rw [w_X6_fits_31]
    refine ie (nend_c (a := 4) (n := 4) rfl (by omega) (by omega)) (dv_i (by decide) ?_)
    have nx : K (bI (ftL r (a / 10) (d / 11))) g → w_X6_fits_31 (r + 1) (a / 10) (d / 11) (nI j + 1) g K := by
      intro k
      rw [show nI j + 1 = nI (j + 1) from (nI_succ j).symm]
      exact ih (j + 1) _ _ (by omega) k
    rw [ftL] at k
    dsimp only [fp_j]
    by_cases c1 : d - d / 11 * 11 = 10
    · refine it c1 (dv_i (by decide) (dv_i (by decide) (nx ?_)))
      rw [decide_eq_true c1, Bool.true_or, Bool.true_and] at k
      exact k
    · refine ie c1 (dv_i (by decide) ?_)
      by_cases c2 : d - d / 11 * 11 = a - a / 10 * 10
      · refine it c2 (dv_i (by decide) (dv_i (by decide) (nx ?_)))
        rw [decide_eq_true c2, Bool.or_true, Bool.true_and] at k
        exact k
      · refine ie c2 ?_
        rw [decide_eq_false c1, decide_eq_false c2] at k
        exact k
theorem l_fits9 {g : fp_G} {K : Int32 → fp_G → Prop} : ∀ r j a d, j + r = 4 → K (bI (ftL r a d)) g → w_X9_fits_30 (r + 1) d a (nI j) g K := by
  intro r
  induction r with
  | zero =>
    intro j a d hj k
    have hj : j = 4 := by omega
    subst hj
    rw [w_X9_fits_30]
    exact it (end_c (a := 4) rfl) k
  | succ r ih =>
    intro j a d hj k
    rw [w_X9_fits_30]
    refine ie (nend_c (a := 4) (n := 4) rfl (by omega) (by omega)) (dv_i (by decide) ?_)
    have nx : K (bI (ftL r (a / 10) (d / 11))) g → w_X9_fits_30 (r + 1) (d / 11) (a / 10) (nI j + 1) g K := by
      intro k
      rw [show nI j + 1 = nI (j + 1) from (nI_succ j).symm]
      exact ih (j + 1) _ _ (by omega) k
    rw [ftL] at k
    dsimp only [fp_j]
    by_cases c1 : d - d / 11 * 11 = 10
    · refine it c1 (dv_i (by decide) (dv_i (by decide) (nx ?_)))
      rw [decide_eq_true c1, Bool.true_or, Bool.true_and] at k
      exact k
    · refine ie c1 (dv_i (by decide) (dv_i (by decide) ?_))
      by_cases c2 : d - d / 11 * 11 = a - a / 10 * 10
      · refine it c2 (dv_i (by decide) (dv_i (by decide) (nx ?_)))
        rw [decide_eq_true c2, Bool.or_true, Bool.true_and] at k
        exact k
      · refine ie c2 ?_
        rw [decide_eq_false c1, decide_eq_false c2] at k
        exact k
theorem s6_fits {u d : Int32} {g : fp_G} {K : Int32 → fp_G → Prop} {i : Nat} (hi : i < 40) (k : K (bI (ftM (g 23) (g 24) u d i)) g) : w_X6_fits (nI i) u d g K := by
  unfold w_X6_fits
  unfold ftM at k
  dsimp only [fp_j]
  refine is (fun c => rd_n hi (by omega) ⟨5, l_fits6 4 0 _ _ rfl ?_⟩) (fun c => rd_n hi (by omega) (is (fun c2 => rd_n hi (by omega) ⟨5, l_fits6 4 0 _ _ rfl ?_⟩) (fun c2 => ?_)))
  · rw [decide_eq_true c, Bool.true_or, Bool.true_and] at k
    exact k
  · rw [decide_eq_true c2, Bool.or_true, Bool.true_and] at k
    exact k
  · rw [decide_eq_false c, decide_eq_false c2] at k
    exact k
theorem s9_fits {u d : Int32} {g : fp_G} {K : Int32 → fp_G → Prop} {i : Nat} (hi : i < 40) (hu : u < 0 ↔ u = -1) (k : K (bI (ftM (g 84) (g 85) u d i)) g) : w_X9_fits (nI i) u d g K := by
  unfold w_X9_fits
  unfold ftM at k
  dsimp only [fp_j]
  refine is (fun c => rd_n hi (by omega) ⟨5, l_fits9 4 0 _ _ rfl ?_⟩) (fun c => rd_n hi (by omega) (is (fun c2 => rd_n hi (by omega) ⟨5, l_fits9 4 0 _ _ rfl ?_⟩) (fun c2 => ?_)))
  · rw [decide_eq_true (hu.mp c), Bool.true_or, Bool.true_and] at k
    exact k
  · rw [decide_eq_true c2, Bool.or_true, Bool.true_and] at k
    exact k
  · rw [decide_eq_false (fun z => c (hu.mpr z)), decide_eq_false c2] at k
    exact k
def ctB (p : Nat → Bool) : Nat → Nat
  | 0 => 0
  | n + 1 => if p n then ctB p n + 1 else ctB p n
theorem ctB_le (p : Nat → Bool) : ∀ n, ctB p n ≤ n
  | 0 => Nat.le_refl 0
  | n + 1 => by
    have := ctB_le p n
    rw [ctB]
    split <;> omega
/-- the first with p, of those from j on (r of them) -/
def fsB (p : Nat → Bool) : Nat → Nat → Int32
  | 0, _ => -9
  | r + 1, j => if p j then nI j else fsB p r (j + 1)
theorem l_fitting {u d : Int32} {g : fp_G} {K : Int32 → fp_G → Prop} {n : Nat} (hn : n ≤ 40) (hb : g 18 7 = nI n) (k : K (nI (ctB (ftM (g 23) (g 24) u d) n)) g) : ∀ r j, j + r = n → w_X6_fitting_5 (r + 1) u d (nI (ctB (ftM (g 23) (g 24) u d) j)) (nI j) g K := by
  intro r
  induction r with
  | zero =>
    intro j hj
    have hj : j = n := by omega
    subst hj
    rw [w_X6_fitting_5]
    exact it (end_c hb) k
  | succ r ih =>
    intro j hj
    rw [w_X6_fitting_5]
    refine ie (nend_c hb (by omega) (by omega)) (s6_fits (by omega) ?_)
    have h := ih (j + 1) (by omega)
    rw [ctB, nI_succ j] at h
    dsimp only [fp_j]
    cases e : ftM (g 23) (g 24) u d j <;> rw [e] at h
    · exact it rfl h
    · refine ie (by decide) ?_
      rw [if_pos rfl, nI_succ] at h
      exact h
theorem l_cover {u d : Int32} {g : fp_G} {K : Int32 → fp_G → Prop} {n : Nat} (hn : n ≤ 40) (hu : u < 0 ↔ u = -1) (hb : g 67 27 = nI n) (k : K (nI (ctB (ftM (g 84) (g 85) u d) n)) g) : ∀ r j, j + r = n → w_X9_cover_23 (r + 1) u d (nI (ctB (ftM (g 84) (g 85) u d) j)) (nI j) g K := by
  intro r
  induction r with
  | zero =>
    intro j hj
    have hj : j = n := by omega
    subst hj
    rw [w_X9_cover_23]
    exact it (end_c hb) k
  | succ r ih =>
    intro j hj
    rw [w_X9_cover_23]
    refine ie (nend_c hb (by omega) (by omega)) (s9_fits (by omega) hu ?_)
    have h := ih (j + 1) (by omega)
    rw [ctB, nI_succ j] at h
    dsimp only [fp_j]
    cases e : ftM (g 84) (g 85) u d j <;> rw [e] at h
    · refine it rfl ?_
      rw [Int32.add_zero]
      exact h
    · refine ie (by decide) ?_
      rw [if_pos rfl, nI_succ] at h
      exact h
theorem l_first {u d : Int32} {g : fp_G} {K : Int32 → fp_G → Prop} {n : Nat} (hn : n ≤ 40) (hb : g 18 7 = nI n) : ∀ r j, j + r = n → K (fsB (ftM (g 23) (g 24) u d) r j) g → w_X6_firstFitting_2 (r + 1) u d (nI j) g K := by
  intro r
  induction r with
  | zero =>
    intro j hj k
    have hj : j = n := by omega
    subst hj
    rw [w_X6_firstFitting_2]
    exact it (end_c hb) k
  | succ r ih =>
    intro j hj k
    rw [w_X6_firstFitting_2]
    refine ie (nend_c hb (by omega) (by omega)) (s6_fits (by omega) ?_)
    rw [fsB] at k
    have h := ih (j + 1) (by omega)
    rw [nI_succ j] at h
    cases e : ftM (g 23) (g 24) u d j <;> rw [e] at k
    · exact it rfl (h k)
    · exact ie (by decide) k
/-- what the reference's sure answers: c found so far (none: -9), r men left from j on -/
def suB (p : Nat → Bool) : Nat → Nat → Int32 → Int32
  | 0, _, x => x
  | r + 1, j, x => if p j then (if x < 0 then suB p r (j + 1) (nI j) else -9) else suB p r (j + 1) x
theorem l_sure {u d : Int32} {g : fp_G} {K : Int32 → fp_G → Prop} {n : Nat} (hn : n ≤ 40) (hu : u < 0 ↔ u = -1) (hb : g 67 27 = nI n) : ∀ r j x, j + r = n → K (suB (ftM (g 84) (g 85) u d) r j x) g → w_X9_sure_24 (r + 1) u d x (nI j) g K := by
  intro r
  induction r with
  | zero =>
    intro j x hj k
    have hj : j = n := by omega
    subst hj
    rw [w_X9_sure_24]
    exact it (end_c hb) k
  | succ r ih =>
    intro j x hj k
    rw [w_X9_sure_24]
    refine ie (nend_c hb (by omega) (by omega)) (s9_fits (by omega) hu ?_)
    rw [suB] at k
    dsimp only [fp_j]
    rw [show nI j + 1 = nI (j + 1) from (nI_succ j).symm]
    cases e : ftM (g 84) (g 85) u d j <;> rw [e] at k
    · exact it rfl (ih (j + 1) x (by omega) k)
    · refine ie (by decide) ?_
      rw [if_pos rfl] at k
      by_cases c : x < 0
      · rw [if_pos c] at k
        exact it c (ih (j + 1) _ (by omega) k)
      · rw [if_neg c] at k
        exact ie c k
theorem ctB_split (p : Nat → Bool) : ∀ r j, ctB p (j + r) = ctB p j + ctB (fun i => p (j + i)) r
  | 0, j => rfl
  | r + 1, j => by
    rw [show j + (r + 1) = (j + r) + 1 from rfl, ctB, ctB, ctB_split p r j]
    split <;> omega
theorem ctB_shift (p : Nat → Bool) (r : Nat) : ctB p (r + 1) = (if p 0 then 1 else 0) + ctB (fun i => p (i + 1)) r := by
  rw [Nat.add_comm r 1, ctB_split p r 1]
  simp only [ctB, Nat.add_comm 1]
theorem suB_1 (p : Nat → Bool) : ∀ r j a, a < 2 ^ 31 → suB p r j (nI a) = if ctB (fun i => p (j + i)) r = 0 then nI a else -9
  | 0, j, a, _ => rfl
  | r + 1, j, a, ha => by
    rw [suB, ctB_shift]
    have hx : ¬ nI a < 0 := by
      rw [lt_I, nI_I ha, show (0 : Int32).toInt = 0 from rfl]
      omega
    have hs : (fun i => p (j + (i + 1))) = (fun i => p (j + 1 + i)) := by
      funext i
      rw [Nat.add_assoc, Nat.add_comm 1 i]
    rw [if_neg hx, suB_1 p r (j + 1) a ha, hs]
    show (if p j = true then _ else _) = (if (if p (j + 0) = true then 1 else 0) + _ = 0 then _ else _)
    rw [Nat.add_zero]
    cases e : p j
    · simp
    · simp
theorem suB_0 (p : Nat → Bool) : ∀ r j, j + r < 2 ^ 31 → suB p r j (-9) = if ctB (fun i => p (j + i)) r = 1 then fsB p r j else -9
  | 0, j, _ => rfl
  | r + 1, j, hj => by
    rw [suB, ctB_shift, fsB]
    have hs : (fun i => p (j + (i + 1))) = (fun i => p (j + 1 + i)) := by
      funext i
      rw [Nat.add_assoc, Nat.add_comm 1 i]
    rw [if_pos (show (-9 : Int32) < 0 by decide), suB_0 p r (j + 1) (by omega), hs, suB_1 p r (j + 1) j (by omega)]
    show (if p j = true then _ else _) = (if (if p (j + 0) = true then 1 else 0) + _ = 1 then _ else _)
    rw [Nat.add_zero]
    cases e : p j
    · simp
    · simp
theorem s8_notCover {u d : Int32} {g : fp_G} {K : Int32 → fp_G → Prop} (k : K (if -1 ≤ u.toInt ∧ u.toInt ≤ 15 then outS d 0 14640 else -1) g) : w_X8_notACover u d g K := by
  unfold w_X8_notACover
  dsimp only [fp_j]
  refine is (fun c => ?_) (fun c => ?_)
  · refine e_outside (l := 0) (h := 14640) rfl rfl ?_
    rw [if_pos (by rw [c]; decide)] at k
    exact k
  · by_cases hu : inN u 16
    · refine ht_X8_isUnit hu (ie (by decide) (e_outside (l := 0) (h := 14640) rfl rfl ?_))
      rw [in_I (by omega)] at hu
      rw [if_pos (by omega)] at k
      exact k
    · refine hf_X8_isUnit hu (it rfl ?_)
      rw [in_I (by omega)] at hu
      rw [eq_I, show (-1 : Int32).toInt = -1 from rfl] at c
      rw [if_neg (by omega)] at k
      exact k
theorem s9_notCover {u d : Int32} {g : fp_G} {K : Int32 → fp_G → Prop} (k : K (if -1 ≤ u.toInt ∧ u.toInt ≤ 15 then outS d 0 14640 else -1) g) : w_X9_notCover u d g K := by
  unfold w_X9_notCover
  refine e_isIn (l := -1) (h := 15) rfl rfl ?_
  by_cases c : -1 ≤ u.toInt ∧ u.toInt ≤ 15
  · rw [bi_t c]
    rw [if_pos c] at k
    exact ie (by decide) (e_out (l := 0) (h := 14640) rfl rfl k)
  · rw [bi_f c]
    rw [if_neg c] at k
    exact it rfl k
theorem cv_c {u d : Int32} : ((if -1 ≤ u.toInt ∧ u.toInt ≤ 15 then outS d 0 14640 else (-1 : Int32)) = 0 ∧ (u < 0 ↔ u = -1)) ∨ ∃ k : Nat, k < 7 ∧ (if -1 ≤ u.toInt ∧ u.toInt ≤ 15 then outS d 0 14640 else (-1 : Int32)) = - nI k ∧ ¬ (0 : Int32) ≤ - nI k ∧ ¬ (- nI k = 0) ∧ - (- nI k) = nI k := by
  by_cases c : -1 ≤ u.toInt ∧ u.toInt ≤ 15
  · rw [if_pos c]
    rcases outS_c d 0 14640 with ⟨h, _⟩ | ⟨h, _⟩ | ⟨h, _⟩
    · exact Or.inr ⟨4, by decide, h, by decide, by decide, by decide⟩
    · exact Or.inr ⟨6, by decide, h, by decide, by decide, by decide⟩
    · refine Or.inl ⟨h, ?_⟩
      rw [lt_I, eq_I, show (0 : Int32).toInt = 0 from rfl, show (-1 : Int32).toInt = -1 from rfl]
      omega
  · rw [if_neg c]
    exact Or.inr ⟨1, by decide, rfl, by decide, by decide, by decide⟩
theorem c_cover {u d : Int32} {g : fp_G} {P : Int32 → Int32 → fp_G → Prop} {n : Nat} (hn : n ≤ 40) (h7 : g 18 7 = nI n) (hk7 : g 67 27 = nI n) (e1 : g 84 = g 23) (e2 : g 85 = g 24) (ok : ∀ r, P r r g) (no : ∀ r k, P r r (refG g k)) : w_X8_cover u d g (fun r g1 => w_X9_cover u d g1 (fun r2 g2 => P r r2 g2)) := by
  unfold w_X8_cover
  refine s8_notCover ?_
  rcases cv_c (u := u) (d := d) with ⟨h, hu⟩ | ⟨k, hk, h, h1, h2, h3⟩
  · rw [h]
    refine it (by decide) ?_
    unfold w_X6_fitting
    refine ⟨n + 1, l_fitting hn h7 ?_ n 0 (by omega)⟩
    unfold w_X9_cover
    refine s9_notCover ?_
    rw [h]
    refine it rfl ⟨n + 1, l_cover hn hu hk7 ?_ n 0 (by omega)⟩
    rw [e1, e2]
    exact ok _
  · rw [h]
    refine ie h1 (e_refuse (k := k) h3 hk ?_)
    unfold w_X9_cover
    refine s9_notCover ?_
    rw [h]
    exact ie h2 (e_no (k := k) h3 hk (no _ k))
theorem c_sure {u d : Int32} {g : fp_G} {P : Int32 → Int32 → fp_G → Prop} {n : Nat} (hn : n ≤ 40) (h7 : g 18 7 = nI n) (hk7 : g 67 27 = nI n) (e1 : g 84 = g 23) (e2 : g 85 = g 24) (ok : ∀ r, P r r g) (no : ∀ r k, P r r (refG g k)) : w_X8_sure u d g (fun r g1 => w_X9_sure u d g1 (fun r2 g2 => P r r2 g2)) := by
  unfold w_X8_sure
  refine s8_notCover ?_
  rcases cv_c (u := u) (d := d) with ⟨h, hu⟩ | ⟨k, hk, h, h1, h2, h3⟩
  · rw [h]
    refine it (by decide) ?_
    unfold w_X6_fitting
    have m9 : ∀ v, v = suB (ftM (g 23) (g 24) u d) n 0 (-9) → w_X9_sure u d g (fun r2 g2 => P v r2 g2) := by
      intro v hv
      unfold w_X9_sure
      refine s9_notCover ?_
      rw [h]
      refine it rfl ⟨n + 1, l_sure hn hu hk7 n 0 (-9) (by omega) ?_⟩
      rw [e1, e2, ← hv]
      exact ok _
    have sp := suB_0 (ftM (g 23) (g 24) u d) n 0 (by omega)
    have hz : (fun i => ftM (g 23) (g 24) u d (0 + i)) = ftM (g 23) (g 24) u d := by
      funext i
      rw [Nat.zero_add]
    rw [hz] at sp
    have hc := ctB_le (ftM (g 23) (g 24) u d) n
    refine ⟨n + 1, l_fitting hn h7 ?_ n 0 (by omega)⟩
    by_cases c : ctB (ftM (g 23) (g 24) u d) n = 1
    · refine it (by rw [c]; rfl) ?_
      unfold w_X6_firstFitting
      refine ⟨n + 1, l_first hn h7 n 0 (by omega) (m9 _ ?_)⟩
      rw [sp, if_pos c]
    · refine ie ?_ (m9 _ ?_)
      · rw [show (1 : Int32) = nI 1 from rfl, eq_I, nI_I (by omega), nI_I (by omega)]
        omega
      · rw [sp, if_neg c]
  · rw [h]
    refine ie h1 (e_refuse (k := k) h3 hk ?_)
    unfold w_X9_sure
    refine s9_notCover ?_
    rw [h]
    exact ie h2 (e_no (k := k) h3 hk (no _ k))
