/-! ===== what was heard, where units and men are ===== -/
theorem ctr.n {g : fp_G} {q i k b : Nat} (h : ctr g q i k b) (hb : b < 2 ^ 31) : tn (g q i) ≤ b ∧ g q i = nI (tn (g q i)) ∧ g 67 k = nI (tn (g q i)) := by
  obtain ⟨h1, j, hj, e⟩ := h
  have : tn (g q i) = j := by rw [e]; exact tn_n (by omega)
  rw [this, h1]
  exact ⟨hj, e, e⟩
theorem Cnt.O {g : fp_G} (h : Cnt g) : nO g ≤ 12 ∧ g 6 3 = nI (nO g) ∧ g 67 12 = nI (nO g) := ctr.n h.1.1 (by decide)
theorem Cnt.W {g : fp_G} (h : Cnt g) : nW g ≤ 24 ∧ g 6 9 = nI (nW g) ∧ g 67 13 = nI (nW g) := ctr.n h.1.2.1 (by decide)
theorem Now.n {g : fp_G} (h : Now g) : nNow g ≤ 2000 ∧ g 0 9 = nI (nNow g) ∧ g 67 15 = nI (nNow g) := ctr.n h (by decide)
theorem Cnt.Mo {g : fp_G} (h : Cnt g) : nMo g ≤ 60 ∧ g 18 4 = nI (nMo g) ∧ g 67 26 = nI (nMo g) := ctr.n h.2.1.1 (by decide)
theorem Cnt.Me {g : fp_G} (h : Cnt g) : nMe g ≤ 40 ∧ g 18 7 = nI (nMe g) ∧ g 67 27 = nI (nMe g) := ctr.n h.2.1.2.1 (by decide)
theorem Cnt.St {g : fp_G} (h : Cnt g) : nSt g ≤ 80 ∧ g 18 12 = nI (nSt g) ∧ g 67 28 = nI (nSt g) := ctr.n h.2.1.2.2 (by decide)
theorem Cnt.Ma {g : fp_G} (h : Cnt g) : nMa g ≤ 60 ∧ g 37 5 = nI (nMa g) ∧ g 67 42 = nI (nMa g) := ctr.n h.2.2.1.1 (by decide)
def lateN (g : fp_G) (o : Nat) : Nat := if g 8 o = 0 then dN g 0 o else 0
def FarB (g : fp_G) : Prop := ∀ k, k < 144 → ∃ d, d ≤ 1000000 ∧ g 9 k = nI d
theorem FarB.d {g : fp_G} (h : FarB g) {i j : Nat} (hi : i < 12) (hj : j < 12) : dN g i j ≤ 1000000 ∧ g 9 (12 * i + j) = nI (dN g i j) := by
  obtain ⟨d, hd, e⟩ := h (12 * i + j) (by omega)
  unfold dN
  rw [e, tn_n (by omega)]
  exact ⟨hd, rfl⟩
theorem FarB.late {g : fp_G} (h : FarB g) {o : Nat} (ho : o < 12) : lateN g o ≤ 1000000 := by
  unfold lateN
  split
  · exact (h.d (by omega) ho).1
  · omega
theorem s2_far {g : fp_G} {K : Int32 → fp_G → Prop} {a b : Nat} (h : FarB g) (ha : a < 12) (hb : b < 12) (k : K (nI (dN g a b)) g) : w_X2_farBetween (nI a) (nI b) g K := by
  unfold w_X2_farBetween
  refine rd_v (k := 12 * a + b) ?_ (by omega) (by omega) (h.d ha hb).2 k
  rw [show (12 : Int32) = nI 12 from rfl, ix_mul]
theorem s2_late {g : fp_G} {K : Int32 → fp_G → Prop} {o : Nat} (h : FarB g) (ho : o < 12) (k : K (nI (lateN g o)) g) : w_X2_lateAt (nI o) g K := by
  unfold w_X2_lateAt
  unfold lateN at k
  refine rd_n ho (by omega) (is (fun c => ?_) (fun c => ?_))
  · rw [if_pos c] at k
    exact s2_far (a := 0) h (by omega) ho k
  · rw [if_neg c] at k
    exact k
def Fdd (g : fp_G) : Prop := (∀ k, k < 144 → g 78 k = g 9 k) ∧ g 79 = g 8 ∧ FarB g
theorem s9_lateOf {g : fp_G} {K : Int32 → fp_G → Prop} {o : Nat} (h : Fdd g) (ho : o < 12) (k : K (if lateN g o < 1000000 then nI (lateN g o) else -9) g) : w_X9_lateOf (nI o) g K := by
  unfold w_X9_lateOf
  unfold lateN at k
  obtain ⟨h1, h2, h3⟩ := h
  have hd := h3.d (i := 0) (j := o) (by omega) ho
  have e9 : g 78 o = nI (dN g 0 o) := by rw [h1 o (by omega)]; have := hd.2; rw [show 12 * 0 + o = o by omega] at this; exact this
  refine rd_n ho (by omega) ?_
  rw [h2]
  refine is (fun c => ?_) (fun c => ?_)
  · rw [if_pos c] at k
    refine rd_v rfl (by omega) (by omega) e9 (is (fun c2 => rd_v rfl (by omega) (by omega) e9 ?_) (fun c2 => ?_))
    · rw [show (1000000 : Int32) = nI 1000000 from rfl, lt_n (by omega) (by omega)] at c2
      rw [if_pos c2] at k
      exact k
    · rw [show (1000000 : Int32) = nI 1000000 from rfl, lt_n (by omega) (by omega)] at c2
      rw [if_neg c2] at k
      exact k
  · rw [if_neg c, if_pos (by omega)] at k
    exact k
/-- whose ear: nobody's (-1, as it is), or an office's -/
def Hear (g : fp_G) (x : Int32) (l : Nat) : Prop := (x = -1 ∧ l = 0) ∨ (Fdd g ∧ ∃ o, o < 12 ∧ x = nI o ∧ l = lateN g o)
theorem Hear.le {g : fp_G} {x : Int32} {l : Nat} (h : Hear g x l) : l ≤ 1000000 := by
  rcases h with ⟨_, h⟩ | ⟨h, o, ho, _, h2⟩
  · omega
  · rw [h2]
    exact h.2.2.late ho
theorem Hear.neg {g : fp_G} {x : Int32} {l : Nat} (h : Hear g x l) : (x < 0 ∧ l = 0) ∨ (¬ x < 0) := by
  rcases h with ⟨h, h2⟩ | ⟨h, o, ho, h2, _⟩
  · rw [h]
    exact Or.inl ⟨by decide, h2⟩
  · right
    rw [h2, show (0 : Int32) = nI 0 from rfl, lt_n (by omega) (by omega)]
    omega
theorem s9_isHeard {g : fp_G} {K : Int32 → fp_G → Prop} {x : Int32} {l t h : Nat} (he : Hear g x l) (ht : t ≤ 5000) (hh : h ≤ 5000) (k : K (bI (decide (t + l ≤ h))) g) : w_X9_isHeard (nI t) x (nI h) g K := by
  unfold w_X9_isHeard
  dsimp only [fp_j]
  rcases he with ⟨e, e2⟩ | ⟨hf, o, ho, e, e2⟩
  · subst e2
    rw [e]
    refine ie (by decide) (is (fun c => ?_) (fun c => ?_))
    · rw [lt_n (by omega) (by omega)] at c
      rw [decide_eq_false (by omega)] at k
      exact k
    · rw [lt_n (by omega) (by omega)] at c
      rw [decide_eq_true (by omega)] at k
      exact k
  · subst e2
    rw [e]
    have hl := hf.2.2.late ho
    refine it ?_ (s9_lateOf hf ho ?_)
    · rw [show (0 : Int32) = nI 0 from rfl, le_n (by omega) (by omega)]
      omega
    by_cases c : lateN g o < 1000000
    · rw [if_pos c]
      refine ie ?_ ?_
      · rw [show (0 : Int32) = nI 0 from rfl, lt_n (by omega) (by omega)]
        omega
      rw [nI_add]
      refine is (fun c => ?_) (fun c => ?_)
      · rw [lt_n (by omega) (by omega)] at c
        rw [decide_eq_false (by omega)] at k
        exact k
      · rw [lt_n (by omega) (by omega)] at c
        rw [decide_eq_true (by omega)] at k
        exact k
    · rw [if_neg c]
      rw [decide_eq_false (by omega)] at k
      exact it (by decide) k
def lastO (p : Nat → Bool) : Nat → Option Nat
  | 0 => none
  | n + 1 => if p n then some n else lastO p n
theorem lastO_lt {p : Nat → Bool} : ∀ {n k : Nat}, lastO p n = some k → k < n ∧ p k = true
  | 0, k, h => by cases h
  | n + 1, k, h => by
    rw [lastO] at h
    cases e : p n <;> rw [e] at h
    · have := lastO_lt (n := n) (by simpa using h)
      exact ⟨by omega, this.2⟩
    · have : n = k := by simpa using h
      subst this
      exact ⟨by omega, e⟩
def pS (g : fp_G) (m : Int32) (h l k : Nat) : Bool := decide (g 25 k = m) && decide (tn (g 28 k) + l ≤ h)
theorem VRoll.st {g : fp_G} (h : VRoll g) (hC : Cnt g) {k : Nat} (hk : k < nSt g) : tn (g 28 k) ≤ 2000 ∧ g 28 k = nI (tn (g 28 k)) := by
  obtain ⟨_, _, _, t, ht, e⟩ := h.2.2 k hk
  rw [e, tn_n (by omega)]
  exact ⟨by omega, rfl⟩
theorem VRoll.mv {g : fp_G} (h : VRoll g) {k : Nat} (hk : k < nMo g) : tn (g 22 k) ≤ tn (g 21 k) ∧ tn (g 21 k) ≤ 2000 ∧ g 22 k = nI (tn (g 22 k)) ∧ g 21 k = nI (tn (g 21 k)) := by
  obtain ⟨_, t, f, h1, h2, e1, e2⟩ := h.1 k hk
  rw [e1, e2, tn_n (by omega), tn_n (by omega)]
  exact ⟨h1, h2, rfl, rfl⟩
theorem l_lastState {g : fp_G} {K : Int32 → fp_G → Prop} {m : Int32} {h l : Nat} (hC : Cnt g) (hR : VRoll g) (hh : h ≤ 5000) (hl : l ≤ 1000000) : ∀ r, r ≤ nSt g → K ((lastO (pS g m h l) r).elim (-1) nI) g → w_X6_lastState_8 (r + 1) m (nI h) (nI l) (nI r - 1) g K := by
  intro r
  have hn := hC.St.1
  induction r with
  | zero =>
    intro hr k
    rw [w_X6_lastState_8]
    exact it (by decide) k
  | succ r ih =>
    intro hr k
    rw [w_X6_lastState_8]
    rw [show nI (r + 1) - 1 = nI r by rw [nI_succ]; exact inc_dec r]
    obtain ⟨ht, et⟩ := hR.st hC (k := r) (by omega)
    rw [lastO] at k
    rw [show nI r + -1 = nI r - 1 from (Int32.sub_eq_add_neg _ _).symm]
    have nx : pS g m h l r = false → w_X6_lastState_8 (r + 1) m (nI h) (nI l) (nI r - 1) g K := by
      intro z
      rw [z] at k
      exact ih (by omega) k
    refine ie ?_ (rd_n (by omega) (by omega) ?_)
    · rw [show (0 : Int32) = nI 0 from rfl, lt_n (by omega) (by omega)]
      omega
    refine j_I ?_
    refine is (fun c => rd_v rfl (by omega) (by omega) et ?_) (fun c => nx ?_)
    · rw [nI_add]
      refine is (fun c2 => nx ?_) (fun c2 => ?_)
      · rw [lt_n (by omega) (by omega)] at c2
        unfold pS
        rw [decide_eq_false (p := tn (g 28 r) + l ≤ h) (by omega), Bool.and_false]
      · rw [lt_n (by omega) (by omega)] at c2
        have : pS g m h l r = true := by
          unfold pS
          rw [decide_eq_true c, decide_eq_true (p := tn (g 28 r) + l ≤ h) (by omega)]
          rfl
        rw [this] at k
        exact k
    · unfold pS
      rw [decide_eq_false c, Bool.false_and]
theorem s6_lastState {g : fp_G} {K : Int32 → fp_G → Prop} {m : Int32} {h l : Nat} (hC : Cnt g) (hR : VRoll g) (hh : h ≤ 5000) (hl : l ≤ 1000000) (k : K ((lastO (pS g m h l) (nSt g)).elim (-1) nI) g) : w_X6_lastState m (nI h) (nI l) g K := by
  unfold w_X6_lastState
  refine ⟨nSt g + 1, ?_⟩
  rw [hC.St.2.1]
  exact l_lastState hC hR hh hl (nSt g) (Nat.le_refl _) k
theorem l_latest {g : fp_G} {K : Int32 → fp_G → Prop} {m x : Int32} {h l : Nat} (hS : Same g) (hC : Cnt g) (hR : VRoll g) (he : Hear g x l) (hh : h ≤ 5000) (k : K ((lastO (pS g m h l) (nSt g)).elim (-9) nI) g) : ∀ r j, j + r = nSt g → w_X9_latest_7 (r + 1) m (nI h) x ((lastO (pS g m h l) j).elim (-9) nI) (nI j) g K := by
  intro r
  have hn := hC.St.1
  have e86 : g 86 = g 25 := hS.2.2.2.2.2.2.2.1.1
  have e89 : g 89 = g 28 := hS.2.2.2.2.2.2.2.1.2.2.2
  induction r with
  | zero =>
    intro j hj
    have hj : j = nSt g := by omega
    rw [w_X9_latest_7]
    refine it (by rw [hj]; exact end_c hC.St.2.2) ?_
    rw [hj]
    exact k
  | succ r ih =>
    intro j hj
    rw [w_X9_latest_7]
    obtain ⟨ht, et⟩ := hR.st hC (k := j) (by omega)
    have ih2 := ih (j + 1) (by omega)
    rw [lastO] at ih2
    refine ie (nend_c hC.St.2.2 (by omega) (by omega)) (rd_v (v := g 25 j) rfl (by omega) (by omega) (by rw [e86]) ?_)
    dsimp only [fp_j]
    rw [show nI j + 1 = nI (j + 1) from (nI_succ j).symm]
    refine is (fun c => rd_v rfl (by omega) (by omega) (by rw [e89]; exact et) (s9_isHeard he (by omega) hh ?_)) (fun c => ?_)
    · by_cases c2 : tn (g 28 j) + l ≤ h
      · rw [decide_eq_true c2]
        have : pS g m h l j = true := by
          unfold pS
          rw [decide_eq_true c, decide_eq_true c2]
          rfl
        rw [this] at ih2
        exact ie (by decide) ih2
      · rw [decide_eq_false c2]
        have : pS g m h l j = false := by
          unfold pS
          rw [decide_eq_false c2, Bool.and_false]
        rw [this] at ih2
        exact it rfl ih2
    · have : pS g m h l j = false := by
        unfold pS
        rw [decide_eq_false c, Bool.false_and]
      rw [this] at ih2
      exact ih2
theorem s9_latest {g : fp_G} {K : Int32 → fp_G → Prop} {m x : Int32} {h l : Nat} (hS : Same g) (hC : Cnt g) (hR : VRoll g) (he : Hear g x l) (hh : h ≤ 5000) (k : K ((lastO (pS g m h l) (nSt g)).elim (-9) nI) g) : w_X9_latest m (nI h) x g K := by
  unfold w_X9_latest
  exact ⟨nSt g + 1, l_latest hS hC hR he hh k (nSt g) 0 (by omega)⟩
def pM (g : fp_G) (u : Int32) (h l k : Nat) : Bool := decide (g 19 k = u) && (decide (tn (g 22 k) + l ≤ h) && decide (tn (g 21 k) ≤ h))
def bestM (p : Nat → Bool) (F : Nat → Nat) : Nat → Option Nat
  | 0 => none
  | n + 1 => if p n then (match bestM p F n with | none => some n | some b => if F n < F b then some b else some n) else bestM p F n
theorem bestM_lt {p : Nat → Bool} {F : Nat → Nat} : ∀ {n k : Nat}, bestM p F n = some k → k < n
  | 0, k, h => by cases h
  | n + 1, k, h => by
    rw [bestM] at h
    cases e : p n <;> rw [e] at h
    · have := bestM_lt (n := n) (by simpa using h)
      omega
    · cases e2 : bestM p F n with
      | none =>
        rw [e2] at h
        have : n = k := by simpa using h
        omega
      | some b =>
        have hb := bestM_lt (n := n) e2
        rw [e2] at h
        simp only [if_true] at h
        split at h
        · have : b = k := by simpa using h
          omega
        · have : n = k := by simpa using h
          omega
def uAt (g : fp_G) (u : Int32) (h l : Nat) : Int32 := (bestM (pM g u h l) (fun k => tn (g 21 k)) (nMo g)).elim (-9) (g 20)
theorem l_unit6 {g : fp_G} {K : Int32 → fp_G → Prop} {u : Int32} {h l : Nat} (hC : Cnt g) (hR : VRoll g) (hh : h ≤ 5000) (hl : l ≤ 1000000) (k : K (uAt g u h l) g) : ∀ r j, j + r = nMo g → w_X6_unitAt_10 (r + 1) u (nI h) (nI l) ((bestM (pM g u h l) (fun k => tn (g 21 k)) j).elim (-9) (g 20)) (nI ((bestM (pM g u h l) (fun k => tn (g 21 k)) j).elim 0 (fun k => tn (g 21 k)))) (nI j) g K := by
  intro r
  have hn := hC.Mo.1
  induction r with
  | zero =>
    intro j hj
    have hj : j = nMo g := by omega
    rw [w_X6_unitAt_10]
    refine it (by rw [hj]; exact end_c hC.Mo.2.1) ?_
    rw [hj]
    exact k
  | succ r ih =>
    intro j hj
    rw [w_X6_unitAt_10]
    obtain ⟨h1, h2, e22, e21⟩ := hR.mv (k := j) (by omega)
    have ih2 := ih (j + 1) (by omega)
    rw [bestM] at ih2
    have bb : (bestM (pM g u h l) (fun k => tn (g 21 k)) j).elim 0 (fun k => tn (g 21 k)) ≤ 2000 := by
      cases e : bestM (pM g u h l) (fun k => tn (g 21 k)) j with
      | none => exact Nat.zero_le _
      | some b => exact (hR.mv (k := b) (by have := bestM_lt e; omega)).2.1
    refine ie (nend_c hC.Mo.2.1 (by omega) (by omega)) (rd_n (by omega) (by omega) ?_)
    dsimp only [fp_j]
    rw [show nI j + 1 = nI (j + 1) from (nI_succ j).symm]
    have no : pM g u h l j = false → (if (0 : Int32) = 0 then w_X6_unitAt_10 (r + 1) u (nI h) (nI l) ((bestM (pM g u h l) (fun k => tn (g 21 k)) j).elim (-9) (g 20)) (nI ((bestM (pM g u h l) (fun k => tn (g 21 k)) j).elim 0 (fun k => tn (g 21 k)))) (nI (j + 1)) g K
        else fp_rd (g 21) 60 (nI j) fun v2 => if v2 < nI ((bestM (pM g u h l) (fun k => tn (g 21 k)) j).elim 0 (fun k => tn (g 21 k))) then w_X6_unitAt_10 (r + 1) u (nI h) (nI l) ((bestM (pM g u h l) (fun k => tn (g 21 k)) j).elim (-9) (g 20)) (nI ((bestM (pM g u h l) (fun k => tn (g 21 k)) j).elim 0 (fun k => tn (g 21 k)))) (nI (j + 1)) g K else fp_rd (g 21) 60 (nI j) fun v3 => fp_rd (g 20) 60 (nI j) fun v4 => w_X6_unitAt_10 (r + 1) u (nI h) (nI l) v4 v3 (nI (j + 1)) g K) := by
      intro z
      rw [z] at ih2
      exact it rfl ih2
    refine is (fun c1 => rd_v rfl (by omega) (by omega) e22 ?_) (fun c1 => no (by unfold pM; rw [decide_eq_false c1, Bool.false_and]))
    rw [nI_add]
    refine is (fun c2 => no ?_) (fun c2 => rd_v rfl (by omega) (by omega) e21 (is (fun c3 => no ?_) (fun c3 => ?_)))
    · rw [lt_n (by omega) (by omega)] at c2
      unfold pM
      rw [decide_eq_false (p := tn (g 22 j) + l ≤ h) (by omega), Bool.false_and, Bool.and_false]
    · rw [lt_n (by omega) (by omega)] at c3
      unfold pM
      rw [decide_eq_false (p := tn (g 21 j) ≤ h) (by omega), Bool.and_false, Bool.and_false]
    · rw [lt_n (by omega) (by omega)] at c2 c3
      have : pM g u h l j = true := by
        unfold pM
        rw [decide_eq_true c1, decide_eq_true (p := tn (g 22 j) + l ≤ h) (by omega), decide_eq_true (p := tn (g 21 j) ≤ h) (by omega)]
        rfl
      rw [this, if_pos rfl] at ih2
      refine ie (by decide) (rd_v rfl (by omega) (by omega) e21 ?_)
      cases e : bestM (pM g u h l) (fun k => tn (g 21 k)) j with
      | none =>
        rw [e] at ih2
        refine ie ?_ (rd_v rfl (by omega) (by omega) e21 (rd_n (by omega) (by omega) ih2))
        show ¬ nI (tn (g 21 j)) < nI 0
        rw [lt_n (by omega) (by omega)]
        omega
      | some b =>
        rw [e] at ih2 bb
        have bb : tn (g 21 b) ≤ 2000 := bb
        dsimp only at ih2
        refine is (fun c4 => ?_) (fun c4 => rd_v rfl (by omega) (by omega) e21 (rd_n (by omega) (by omega) ?_))
        · have c4 : nI (tn (g 21 j)) < nI (tn (g 21 b)) := c4
          rw [lt_n (by omega) (by omega)] at c4
          rw [if_pos c4] at ih2
          exact ih2
        · have c4 : ¬ nI (tn (g 21 j)) < nI (tn (g 21 b)) := c4
          rw [lt_n (by omega) (by omega)] at c4
          rw [if_neg c4] at ih2
          exact ih2
theorem s6_unitAt {g : fp_G} {K : Int32 → fp_G → Prop} {u : Int32} {h l : Nat} (hC : Cnt g) (hR : VRoll g) (hh : h ≤ 5000) (hl : l ≤ 1000000) (k : K (uAt g u h l) g) : w_X6_unitAt u (nI h) (nI l) g K := by
  unfold w_X6_unitAt
  exact ⟨nMo g + 1, l_unit6 hC hR hh hl k (nMo g) 0 (by omega)⟩
theorem l_unit9 {g : fp_G} {K : Int32 → fp_G → Prop} {u x : Int32} {h l : Nat} (hS : Same g) (hC : Cnt g) (hR : VRoll g) (he : Hear g x l) (hh : h ≤ 5000) (k : K (uAt g u h l) g) : ∀ r j, j + r = nMo g → w_X9_unitAt_7 (r + 1) u (nI h) x ((bestM (pM g u h l) (fun k => tn (g 21 k)) j).elim (-9) nI) (nI j) g K := by
  intro r
  have hn := hC.Mo.1
  have hl := he.le
  obtain ⟨s80, s81, s82, s83⟩ := hS.2.2.2.2.2.1
  induction r with
  | zero =>
    intro j hj
    have hj : j = nMo g := by omega
    rw [w_X9_unitAt_7]
    refine it (by rw [hj]; exact end_c hC.Mo.2.2) ?_
    unfold uAt at k
    rw [hj]
    cases e : bestM (pM g u h l) (fun k => tn (g 21 k)) (nMo g) with
    | none =>
      rw [e] at k
      exact ie (by decide) k
    | some b =>
      rw [e] at k
      have := bestM_lt e
      refine it ?_ (rd_v (k := b) (v := g 20 b) rfl (by omega) (by omega) (by rw [s81]) k)
      show (0 : Int32) ≤ nI b
      rw [show (0 : Int32) = nI 0 from rfl, le_n (by omega) (by omega)]
      omega
  | succ r ih =>
    intro j hj
    rw [w_X9_unitAt_7]
    obtain ⟨h1, h2, e22, e21⟩ := hR.mv (k := j) (by omega)
    have ih2 := ih (j + 1) (by omega)
    rw [bestM] at ih2
    refine ie (nend_c hC.Mo.2.2 (by omega) (by omega)) (rd_v (v := g 19 j) rfl (by omega) (by omega) (by rw [s80]) ?_)
    dsimp only [fp_j]
    rw [show nI j + 1 = nI (j + 1) from (nI_succ j).symm]
    have no : pM g u h l j = false → w_X9_unitAt_7 (r + 1) u (nI h) x ((bestM (pM g u h l) (fun k => tn (g 21 k)) j).elim (-9) nI) (nI (j + 1)) g K := by
      intro z
      rw [z] at ih2
      exact ih2
    refine is (fun c1 => rd_v (v := nI (tn (g 21 j))) rfl (by omega) (by omega) (by rw [s82]; exact e21) (is (fun c3 => no ?_) (fun c3 => ?_))) (fun c1 => no (by unfold pM; rw [decide_eq_false c1, Bool.false_and]))
    · rw [lt_n (by omega) (by omega)] at c3
      unfold pM
      rw [decide_eq_false (p := tn (g 21 j) ≤ h) (by omega), Bool.and_false, Bool.and_false]
    rw [lt_n (by omega) (by omega)] at c3
    have yes : tn (g 22 j) + l ≤ h → (if (bestM (pM g u h l) (fun k => tn (g 21 k)) j).elim (-9) nI < 0 then w_X9_unitAt_7 (r + 1) u (nI h) x (nI j) (nI (j + 1)) g K
        else fp_rd (g 82) 60 (nI j) fun v4 => fp_rd (g 82) 60 ((bestM (pM g u h l) (fun k => tn (g 21 k)) j).elim (-9) nI) fun v5 => if v4 < v5 then w_X9_unitAt_7 (r + 1) u (nI h) x ((bestM (pM g u h l) (fun k => tn (g 21 k)) j).elim (-9) nI) (nI (j + 1)) g K else w_X9_unitAt_7 (r + 1) u (nI h) x (nI j) (nI (j + 1)) g K) := by
      intro c2
      have : pM g u h l j = true := by
        unfold pM
        rw [decide_eq_true c1, decide_eq_true c2, decide_eq_true (p := tn (g 21 j) ≤ h) (by omega)]
        rfl
      rw [this, if_pos rfl] at ih2
      cases e : bestM (pM g u h l) (fun k => tn (g 21 k)) j with
      | none =>
        rw [e] at ih2
        exact it (by decide) ih2
      | some b =>
        rw [e] at ih2
        have hb := bestM_lt e
        obtain ⟨_, b2, _, b21⟩ := hR.mv (k := b) (by omega)
        dsimp only at ih2
        refine ie ?_ (rd_v (v := nI (tn (g 21 j))) rfl (by omega) (by omega) (by rw [s82]; exact e21) (rd_v (k := b) (v := nI (tn (g 21 b))) rfl (by omega) (by omega) (by rw [s82]; exact b21) ?_))
        · show ¬ nI b < nI 0
          rw [lt_n (by omega) (by omega)]
          omega
        refine is (fun c4 => ?_) (fun c4 => ?_)
        · rw [lt_n (by omega) (by omega)] at c4
          rw [if_pos c4] at ih2
          exact ih2
        · rw [lt_n (by omega) (by omega)] at c4
          rw [if_neg c4] at ih2
          exact ih2
    rcases he.neg with ⟨z1, z2⟩ | z1
    · subst z2
      exact it z1 (yes (by omega))
    · refine ie z1 (rd_v (v := nI (tn (g 22 j))) rfl (by omega) (by omega) (by rw [s83]; exact e22) (s9_isHeard he (by omega) hh ?_))
      by_cases c2 : tn (g 22 j) + l ≤ h
      · rw [decide_eq_true c2]
        exact ie (by decide) (yes c2)
      · rw [decide_eq_false c2]
        refine it rfl (no ?_)
        unfold pM
        rw [decide_eq_false c2, Bool.false_and, Bool.and_false]
theorem s9_unitAt {g : fp_G} {K : Int32 → fp_G → Prop} {u x : Int32} {h l : Nat} (hS : Same g) (hC : Cnt g) (hR : VRoll g) (he : Hear g x l) (hh : h ≤ 5000) (k : K (uAt g u h l) g) : w_X9_unitAt u (nI h) x g K := by
  unfold w_X9_unitAt
  exact ⟨nMo g + 1, l_unit9 hS hC hR he hh k (nMo g) 0 (by omega)⟩
def stB (g : fp_G) (m : Int32) (h l : Nat) : Int32 := (lastO (pS g m h l) (nSt g)).elim 0 (g 26)
theorem s6_stateBy {g : fp_G} {K : Int32 → fp_G → Prop} {m : Int32} {h l : Nat} (hC : Cnt g) (hR : VRoll g) (hh : h ≤ 5000) (hl : l ≤ 1000000) (k : K (stB g m h l) g) : w_X6_stateBy m (nI h) (nI l) g K := by
  unfold w_X6_stateBy
  unfold stB at k
  refine s6_lastState hC hR hh hl ?_
  cases e : lastO (pS g m h l) (nSt g) with
  | none =>
    rw [e] at k
    exact ie (by decide) k
  | some b =>
    rw [e] at k
    have hb := (lastO_lt e).1
    have hn := hC.St.1
    refine it ?_ (rd_n (k := b) (by omega) (by omega) k)
    show nI 0 ≤ nI b
    rw [le_n (by omega) (by omega)]
    omega
theorem s9_stateAt {g : fp_G} {K : Int32 → fp_G → Prop} {m x : Int32} {h l : Nat} (hS : Same g) (hC : Cnt g) (hR : VRoll g) (he : Hear g x l) (hh : h ≤ 5000) (k : K (stB g m h l) g) : w_X9_stateAt m (nI h) x g K := by
  unfold w_X9_stateAt
  unfold stB at k
  refine s9_latest hS hC hR he hh ?_
  cases e : lastO (pS g m h l) (nSt g) with
  | none =>
    rw [e] at k
    exact ie (by decide) k
  | some b =>
    rw [e] at k
    have hb := (lastO_lt e).1
    have hn := hC.St.1
    refine it ?_ (rd_v (k := b) (v := g 26 b) rfl (by omega) (by omega) (by rw [hS.2.2.2.2.2.2.2.1.2.1]) k)
    show nI 0 ≤ nI b
    rw [le_n (by omega) (by omega)]
    omega
def whB (g : fp_G) (m h : Nat) : Int32 := (lastO (pS g (nI m) h 0) (nSt g)).elim (uAt g (g 23 m) h 0) (fun k => if g 26 k = 0 then uAt g (g 23 m) h 0 else if g 26 k = 1 then g 27 k else -9)
theorem s6_manIsAt {g : fp_G} {K : Int32 → fp_G → Prop} {m h : Nat} (hC : Cnt g) (hR : VRoll g) (hm : m < 40) (hh : h ≤ 5000) (k : K (whB g m h) g) : w_X6_manIsAt (nI m) (nI h) g K := by
  unfold w_X6_manIsAt
  unfold whB at k
  refine s6_lastState (l := 0) hC hR hh (by omega) ?_
  dsimp only [fp_j]
  cases e : lastO (pS g (nI m) h 0) (nSt g) with
  | none =>
    rw [e] at k
    exact it (by decide) (rd_n hm (by omega) (s6_unitAt (l := 0) hC hR hh (by omega) k))
  | some b =>
    rw [e] at k
    have hb := (lastO_lt e).1
    have hn := hC.St.1
    have k : K (if g 26 b = 0 then uAt g (g 23 m) h 0 else if g 26 b = 1 then g 27 b else -9) g := k
    refine ie ?_ (rd_n (k := b) (by omega) (by omega) (is (fun c => rd_n hm (by omega) (s6_unitAt (l := 0) hC hR hh (by omega) ?_)) (fun c => rd_n (k := b) (by omega) (by omega) (is (fun c2 => rd_n (k := b) (by omega) (by omega) ?_) (fun c2 => ?_)))))
    · show ¬ nI b < nI 0
      rw [lt_n (by omega) (by omega)]
      omega
    · rw [if_pos c] at k
      exact k
    · rw [if_neg c, if_pos c2] at k
      exact k
    · rw [if_neg c, if_neg c2] at k
      exact k
theorem s9_whereIs {g : fp_G} {K : Int32 → fp_G → Prop} {m h : Nat} (hS : Same g) (hC : Cnt g) (hR : VRoll g) (hm : m < 40) (hh : h ≤ 5000) (k : K (whB g m h) g) : w_X9_whereIs (nI m) (nI h) g K := by
  unfold w_X9_whereIs
  unfold whB at k
  obtain ⟨s86, s87, s88, s89⟩ := hS.2.2.2.2.2.2.2.1
  have e84 : g 84 = g 23 := hS.2.2.2.2.2.2.1.1
  have he : Hear g (-1) 0 := Or.inl ⟨rfl, rfl⟩
  refine s9_latest (l := 0) hS hC hR he hh ?_
  dsimp only [fp_j]
  cases e : lastO (pS g (nI m) h 0) (nSt g) with
  | none =>
    rw [e] at k
    exact ie (by decide) (it rfl (rd_v (v := g 23 m) rfl hm (by omega) (by rw [e84]) (s9_unitAt (l := 0) hS hC hR he hh k)))
  | some b =>
    rw [e] at k
    have hb := (lastO_lt e).1
    have hn := hC.St.1
    have k : K (if g 26 b = 0 then uAt g (g 23 m) h 0 else if g 26 b = 1 then g 27 b else -9) g := k
    refine it ?_ (rd_v (k := b) (v := g 26 b) rfl (by omega) (by omega) (by rw [s87]) (is (fun c => rd_v (v := g 23 m) rfl hm (by omega) (by rw [e84]) (s9_unitAt (l := 0) hS hC hR he hh ?_)) (fun c => is (fun c2 => rd_v (k := b) (v := g 27 b) rfl (by omega) (by omega) (by rw [s88]) ?_) (fun c2 => ?_))))
    · show nI 0 ≤ nI b
      rw [le_n (by omega) (by omega)]
      omega
    · rw [if_pos c] at k
      exact k
    · rw [if_neg c, if_pos c2] at k
      exact k
    · rw [if_neg c, if_neg c2] at k
      exact k
