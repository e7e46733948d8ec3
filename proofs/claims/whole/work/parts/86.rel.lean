/-! ===== R: what holds of class and reference between two calls ===== -/
/-- rows that hold the same -/
def Same (g : fp_G) : Prop :=
  g 68 = g 1 ∧ g 69 = g 7 ∧ g 79 = g 8 ∧
  (g 70 = g 10 ∧ g 71 = g 11 ∧ g 72 = g 12 ∧ g 73 = g 13 ∧ g 74 = g 14) ∧
  (g 75 = g 15 ∧ g 76 = g 16 ∧ g 77 = g 17) ∧
  (g 80 = g 19 ∧ g 81 = g 20 ∧ g 82 = g 21 ∧ g 83 = g 22) ∧
  (g 84 = g 23 ∧ g 85 = g 24) ∧
  (g 86 = g 25 ∧ g 87 = g 26 ∧ g 88 = g 27 ∧ g 89 = g 28) ∧
  (g 90 = g 38 ∧ g 91 = g 39 ∧ g 93 = g 40 ∧ g 94 = g 41 ∧ g 92 = g 42) ∧
  (g 106 = g 30 ∧ g 107 = g 31) ∧
  (g 120 = g 62 ∧ g 121 = g 63 ∧ g 122 = g 64 ∧ g 123 = g 66)
/-- the rows of the course -/
def SameC (g : fp_G) : Prop := g 95 = g 44 ∧ g 96 = g 45 ∧ g 97 = g 46 ∧ g 101 = g 47 ∧ g 98 = g 48 ∧ g 99 = g 49 ∧ g 102 = g 50
/-- a counter of the class (cell q, field i) and of the reference (field k), at most b -/
def ctr (g : fp_G) (q i k b : Nat) : Prop := g 67 k = g q i ∧ ∃ j, j ≤ b ∧ g q i = nI j
/-- offices ways shuts now, moves men states, mails keep, taped orders, sacks row -/
def Cnt (g : fp_G) : Prop :=
  (ctr g 6 3 12 12 ∧ ctr g 6 9 13 24 ∧ ctr g 6 13 14 40) ∧
  (ctr g 18 4 26 60 ∧ ctr g 18 7 27 40 ∧ ctr g 18 12 28 80) ∧
  (ctr g 37 5 42 60 ∧ ctr g 2 7 43 999) ∧
  (ctr g 29 1 51 60 ∧ ctr g 29 6 52 30) ∧
  (ctr g 61 3 72 7 ∧ ctr g 61 6 73 12)
/-- the hour -/
def Now (g : fp_G) : Prop := ctr g 0 9 15 2000
def nO (g : fp_G) : Nat := tn (g 6 3)
def nW (g : fp_G) : Nat := tn (g 6 9)
def nMo (g : fp_G) : Nat := tn (g 18 4)
def nMe (g : fp_G) : Nat := tn (g 18 7)
def nSt (g : fp_G) : Nat := tn (g 18 12)
def nMa (g : fp_G) : Nat := tn (g 37 5)
def nNow (g : fp_G) : Nat := tn (g 0 9)
/-- the offices and the ways -/
def VNet (g : fp_G) : Prop :=
  (∀ o, o < nO g → ∃ h, h ≤ 99 ∧ g 7 o = nI h) ∧ (∀ o, g 8 o = 0 ∨ g 8 o = 1) ∧
  (∀ w, w < nW g → (∃ a b, a < nO g ∧ b < nO g ∧ a ≠ b ∧ g 10 w = nI a ∧ g 11 w = nI b) ∧ (∃ l, 1 ≤ l ∧ l ≤ 48 ∧ g 12 w = nI l) ∧ (∃ f, f ≤ 2000 ∧ g 13 w = nI f) ∧ ∃ e, 1 ≤ e ∧ e ≤ 48 ∧ g 14 w = nI e)
/-- moves, men, states -/
def VRoll (g : fp_G) : Prop :=
  (∀ k, k < nMo g → (∃ o, o < nO g ∧ g 20 k = nI o) ∧ ∃ t f, t ≤ f ∧ f ≤ 2000 ∧ g 21 k = nI f ∧ g 22 k = nI t) ∧
  (∀ k, k < nMe g → (∃ u, u < 16 ∧ g 23 k = nI u) ∧ ∃ n, n ≤ 9999 ∧ g 24 k = nI n) ∧
  (∀ k, k < nSt g → (∃ m, m < nMe g ∧ g 25 k = nI m) ∧ (∃ s, s ≤ 3 ∧ g 26 k = nI s) ∧ (g 26 k = 1 → ∃ o, o < nO g ∧ g 27 k = nI o) ∧ ∃ t, t ≤ 2000 ∧ g 28 k = nI t)
/-- the refusals' common part -/
theorem e_refuse {k : Nat} {x : Int32} {g : fp_G} {K : Int32 → fp_G → Prop} (hx : -x = nI k) (hk : k < 7) (h : K x (gu g 1 k (g 1 k + 1))) : w_X8_refuse x g K := by
  unfold w_X8_refuse
  rw [hx]
  refine ie (fun c => ?_) (ie (fun c => ?_) ?_)
  · rw [lt_I, nI_I (by omega)] at c
    have : (0 : Int32).toInt = 0 := rfl
    omega
  · rw [le_I, nI_I (by omega)] at c
    have : (7 : Int32).toInt = 7 := rfl
    omega
  · exact rd_n hk (by omega) (wr_n hk (by omega) h)
theorem e_no {k : Nat} {x : Int32} {g : fp_G} {K : Int32 → fp_G → Prop} (hx : -x = nI k) (hk : k < 7) (h : K x (gu g 68 k (g 68 k + 1))) : w_X9_no x g K := by
  unfold w_X9_no
  rw [hx]
  exact rd_n hk (by omega) (wr_n hk (by omega) h)
theorem Same.ref {g : fp_G} (h : Same g) (k : Nat) : Same (gu (gu g 1 k (g 1 k + 1)) 68 k (g 68 k + 1)) := by
  refine ⟨?_, h.2⟩
  rw [gu_f, gu_k _ _ _ (by decide : (1 : Nat) ≠ 68), gu_f, gu_k _ _ _ (by decide : (68 : Nat) ≠ 1), h.1]
