/-! ===== loops that add up ===== -/
def sm (f : Nat → Int32) : Nat → Int32
  | 0 => 0
  | n + 1 => sm f n + f n
theorem sm_succ (f : Nat → Int32) (n : Nat) : sm f (n + 1) = sm f n + f n := rfl
theorem sm_cong {f h : Nat → Int32} : ∀ (n : Nat), (∀ i, i < n → f i = h i) → sm f n = sm h n
  | 0, _ => rfl
  | n + 1, e => by rw [sm_succ, sm_succ, sm_cong n (fun i hi => e i (by omega)), e n (by omega)]
theorem end_c {a : Int32} {n : Nat} (h : a = nI n) : a ≤ nI n := by rw [h, le_I]; omega
theorem nend_c {a : Int32} {n j : Nat} (h : a = nI n) (hn : n < 2 ^ 31) (hj : j < n) : ¬ a ≤ nI j := by
  rw [h, le_I, nI_I hn, nI_I (by omega)]
  omega
def fWait (a b : Nat → Int32) (x : Int32) (i : Nat) : Int32 := if a i = 0 ∧ b i = x then 1 else 0
theorem l_X8_waiting_21 {x : Int32} {g : fp_G} {K : Int32 → fp_G → Prop} {n : Nat} (hn : n ≤ 60) (hb : g 37 5 = nI n) (k : K (sm (fWait (g 44) (g 45) x) n) g) : ∀ r j, j + r = n → w_X8_waiting_21 (r + 1) x (sm (fWait (g 44) (g 45) x) j) (nI j) g K := by
  intro r
  induction r with
  | zero =>
    intro j hj
    have hj : j = n := by omega
    subst hj
    rw [w_X8_waiting_21]
    exact it (end_c hb) k
  | succ r ih =>
    intro j hj
    have nx : ∀ v, v = sm (fWait (g 44) (g 45) x) (j + 1) → w_X8_waiting_21 (r + 1) x v (nI j + 1) g K := by
      rintro v rfl
      rw [show nI j + 1 = nI (j + 1) from (nI_succ j).symm]
      exact ih (j + 1) (by omega)
    rw [w_X8_waiting_21]
    refine ie (nend_c hb (by omega) (by omega)) ?_
    dsimp only [fp_j]
    repeat' (first | exact nx _ (by rw [sm_succ]; simp [fWait, *]; done) | refine is (fun _ => ?_) (fun _ => ?_) | refine rd_n (by omega) (by omega) ?_)

theorem l_X9_waiting_18 {x : Int32} {g : fp_G} {K : Int32 → fp_G → Prop} {n : Nat} (hn : n ≤ 60) (hb : g 67 42 = nI n) (k : K (sm (fWait (g 95) (g 96) x) n) g) : ∀ r j, j + r = n → w_X9_waiting_18 (r + 1) x (sm (fWait (g 95) (g 96) x) j) (nI j) g K := by
  intro r
  induction r with
  | zero =>
    intro j hj
    have hj : j = n := by omega
    subst hj
    rw [w_X9_waiting_18]
    exact it (end_c hb) k
  | succ r ih =>
    intro j hj
    have nx : ∀ v, v = sm (fWait (g 95) (g 96) x) (j + 1) → w_X9_waiting_18 (r + 1) x v (nI j + 1) g K := by
      rintro v rfl
      rw [show nI j + 1 = nI (j + 1) from (nI_succ j).symm]
      exact ih (j + 1) (by omega)
    rw [w_X9_waiting_18]
    refine ie (nend_c hb (by omega) (by omega)) ?_
    dsimp only [fp_j]
    repeat' (first | exact nx _ (by rw [sm_succ]; simp [fWait, *]; done) | refine is (fun _ => ?_) (fun _ => ?_) | refine rd_n (by omega) (by omega) ?_)
def fPaid (a b c d : Nat → Int32) (x : Int32) (i : Nat) : Int32 := if a i = x ∧ b i = 2 ∧ c i = 2 then d i else 0
theorem l_X8_paid_21 {x : Int32} {g : fp_G} {K : Int32 → fp_G → Prop} {n : Nat} (hn : n ≤ 60) (hb : g 37 5 = nI n) (k : K (sm (fPaid (g 40) (g 38) (g 44) (g 41) x) n) g) : ∀ r j, j + r = n → w_X8_paid_21 (r + 1) x (sm (fPaid (g 40) (g 38) (g 44) (g 41) x) j) (nI j) g K := by
  intro r
  induction r with
  | zero =>
    intro j hj
    have hj : j = n := by omega
    subst hj
    rw [w_X8_paid_21]
    exact it (end_c hb) k
  | succ r ih =>
    intro j hj
    have nx : ∀ v, v = sm (fPaid (g 40) (g 38) (g 44) (g 41) x) (j + 1) → w_X8_paid_21 (r + 1) x v (nI j + 1) g K := by
      rintro v rfl
      rw [show nI j + 1 = nI (j + 1) from (nI_succ j).symm]
      exact ih (j + 1) (by omega)
    rw [w_X8_paid_21]
    refine ie (nend_c hb (by omega) (by omega)) ?_
    dsimp only [fp_j]
    repeat' (first | exact nx _ (by rw [sm_succ]; simp [fPaid, *]; done) | refine is (fun _ => ?_) (fun _ => ?_) | refine rd_n (by omega) (by omega) ?_)
theorem l_X9_paid_18 {x : Int32} {g : fp_G} {K : Int32 → fp_G → Prop} {n : Nat} (hn : n ≤ 60) (hb : g 67 42 = nI n) (k : K (sm (fPaid (g 93) (g 90) (g 95) (g 94) x) n) g) : ∀ r j, j + r = n → w_X9_paid_18 (r + 1) x (sm (fPaid (g 93) (g 90) (g 95) (g 94) x) j) (nI j) g K := by
  intro r
  induction r with
  | zero =>
    intro j hj
    have hj : j = n := by omega
    subst hj
    rw [w_X9_paid_18]
    exact it (end_c hb) k
  | succ r ih =>
    intro j hj
    have nx : ∀ v, v = sm (fPaid (g 93) (g 90) (g 95) (g 94) x) (j + 1) → w_X9_paid_18 (r + 1) x v (nI j + 1) g K := by
      rintro v rfl
      rw [show nI j + 1 = nI (j + 1) from (nI_succ j).symm]
      exact ih (j + 1) (by omega)
    rw [w_X9_paid_18]
    refine ie (nend_c hb (by omega) (by omega)) ?_
    dsimp only [fp_j]
    repeat' (first | exact nx _ (by rw [sm_succ]; simp [fPaid, *]; done) | refine is (fun _ => ?_) (fun _ => ?_) | refine rd_n (by omega) (by omega) ?_)
def fHow (a : Nat → Int32) (x : Int32) (i : Nat) : Int32 := if a i = x then 1 else 0
theorem l_X0_howMany_5 {x : Int32} {c : Nat} {g : fp_G} {K : Int32 → fp_G → Prop} {n : Nat} (hn : n ≤ 60) (k : K (sm (fHow (g (c + 1)) x) n) g) : ∀ r j, j + r = n → w_X0_howMany_5 (r + 1) c x (nI n) (sm (fHow (g (c + 1)) x) j) (nI j) g K := by
  intro r
  induction r with
  | zero =>
    intro j hj
    have hj : j = n := by omega
    subst hj
    rw [w_X0_howMany_5]
    exact it (end_c rfl) k
  | succ r ih =>
    intro j hj
    have nx : ∀ v, v = sm (fHow (g (c + 1)) x) (j + 1) → w_X0_howMany_5 (r + 1) c x (nI n) v (nI j + 1) g K := by
      rintro v rfl
      rw [show nI j + 1 = nI (j + 1) from (nI_succ j).symm]
      exact ih (j + 1) (by omega)
    rw [w_X0_howMany_5]
    refine ie (nend_c rfl (by omega) (by omega)) ?_
    dsimp only [fp_j]
    repeat' (first | exact nx _ (by rw [sm_succ]; simp [fHow, *]; done) | refine is (fun _ => ?_) (fun _ => ?_) | refine rd_n (by omega) (by omega) ?_)
theorem l_X9_count_148 {x : Int32} {g : fp_G} {K : Int32 → fp_G → Prop} {n : Nat} (hn : n ≤ 60) (hb : g 67 42 = nI n) (k : K (sm (fHow (g 95) (x - 4)) n) g) : ∀ r j, j + r = n → w_X9_count_148 (r + 1) x (sm (fHow (g 95) (x - 4)) j) (nI j) g K := by
  intro r
  induction r with
  | zero =>
    intro j hj
    have hj : j = n := by omega
    subst hj
    rw [w_X9_count_148]
    exact it (end_c hb) k
  | succ r ih =>
    intro j hj
    have nx : ∀ v, v = sm (fHow (g 95) (x - 4)) (j + 1) → w_X9_count_148 (r + 1) x v (nI j + 1) g K := by
      rintro v rfl
      rw [show nI j + 1 = nI (j + 1) from (nI_succ j).symm]
      exact ih (j + 1) (by omega)
    rw [w_X9_count_148]
    refine ie (nend_c hb (by omega) (by omega)) ?_
    dsimp only [fp_j]
    repeat' (first | exact nx _ (by rw [sm_succ]; simp [fHow, *]; done) | refine is (fun _ => ?_) (fun _ => ?_) | refine rd_n (by omega) (by omega) ?_)
def fSp (a : Nat → Int32) (i : Nat) : Int32 := if a i = 0 then 0 else 1
theorem l_X0_howManySpoilt_4 {c : Nat} {g : fp_G} {K : Int32 → fp_G → Prop} {n : Nat} (hn : n ≤ 60) (k : K (sm (fSp (g (c + 7))) n) g) : ∀ r j, j + r = n → w_X0_howManySpoilt_4 (r + 1) c (nI n) (sm (fSp (g (c + 7))) j) (nI j) g K := by
  intro r
  induction r with
  | zero =>
    intro j hj
    have hj : j = n := by omega
    subst hj
    rw [w_X0_howManySpoilt_4]
    exact it (end_c rfl) k
  | succ r ih =>
    intro j hj
    have nx : ∀ v, v = sm (fSp (g (c + 7))) (j + 1) → w_X0_howManySpoilt_4 (r + 1) c (nI n) v (nI j + 1) g K := by
      rintro v rfl
      rw [show nI j + 1 = nI (j + 1) from (nI_succ j).symm]
      exact ih (j + 1) (by omega)
    rw [w_X0_howManySpoilt_4]
    refine ie (nend_c rfl (by omega) (by omega)) ?_
    dsimp only [fp_j]
    repeat' (first | exact nx _ (by rw [sm_succ]; simp [fSp, *]; done) | refine is (fun _ => ?_) (fun _ => ?_) | refine rd_n (by omega) (by omega) ?_)
theorem l_X9_count_186  {g : fp_G} {K : Int32 → fp_G → Prop} {n : Nat} (hn : n ≤ 60) (hb : g 67 42 = nI n) (k : K (sm (fSp (g 102)) n) g) : ∀ r j, j + r = n → w_X9_count_186 (r + 1) (sm (fSp (g 102)) j) (nI j) g K := by
  intro r
  induction r with
  | zero =>
    intro j hj
    have hj : j = n := by omega
    subst hj
    rw [w_X9_count_186]
    exact it (end_c hb) k
  | succ r ih =>
    intro j hj
    have nx : ∀ v, v = sm (fSp (g 102)) (j + 1) → w_X9_count_186 (r + 1) v (nI j + 1) g K := by
      rintro v rfl
      rw [show nI j + 1 = nI (j + 1) from (nI_succ j).symm]
      exact ih (j + 1) (by omega)
    rw [w_X9_count_186]
    refine ie (nend_c hb (by omega) (by omega)) ?_
    dsimp only [fp_j]
    repeat' (first | exact nx _ (by rw [sm_succ]; simp [fSp, *]; done) | refine is (fun _ => ?_) (fun _ => ?_) | refine rd_n (by omega) (by omega) ?_)
