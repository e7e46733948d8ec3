/-! ===== FAR: what a table of least sums is; one WAY more ===== -/
def FarP (D : Nat → Nat → Nat) (no nw : Nat) (A B L : Nat → Nat) : Prop :=
  (∀ i, i < 12 → D i i = 0) ∧ (∀ i j, i < 12 → j < 12 → D i j = D j i) ∧ (∀ i j k, i < 12 → j < 12 → k < 12 → D i k ≤ D i j + D j k) ∧ (∀ i j, i < 12 → j < 12 → D i j ≤ 1000000) ∧
  (∀ w, w < nw → D (A w) (B w) ≤ L w) ∧
  (∀ i j, i < 12 → j < 12 → i ≠ j → D i j < 1000000 → ∃ w, w < nw ∧ ((B w = j ∧ D i (A w) + L w = D i j) ∨ (A w = j ∧ D i (B w) + L w = D i j))) ∧
  (∀ i j, i < 12 → j < 12 → i ≠ j → no ≤ i → D i j = 1000000)
theorem FarP.closed {D : Nat → Nat → Nat} {no nw : Nat} {A B L : Nat → Nat} (h : FarP D no nw A B L) {i w : Nat} (hi : i < 12) (hw : w < nw) (ha : A w < 12) (hb : B w < 12) : D i (B w) ≤ D i (A w) + L w ∧ D i (A w) ≤ D i (B w) + L w := by
  have h1 := h.2.2.2.2.1 w hw
  have h2 := h.2.2.1 i (A w) (B w) hi ha hb
  have h3 := h.2.2.1 i (B w) (A w) hi hb ha
  have h4 := h.2.1 (A w) (B w) ha hb
  omega
def mD (D : Nat → Nat → Nat) (a b l i j : Nat) : Nat := min (D i j) (min (D i a + l + D b j) (D i b + l + D a j))
theorem FarP.more {D : Nat → Nat → Nat} {no nw : Nat} {A B L : Nat → Nat} (h : FarP D no nw A B L) {a b l : Nat} {A2 B2 L2 : Nat → Nat} (hno : no ≤ 12) (ha : a < no) (hb : b < no)
    (hA : ∀ w, w < nw → A w < 12 ∧ B w < 12) (hE : ∀ w, w < nw → A2 w = A w ∧ B2 w = B w ∧ L2 w = L w) (ea : A2 nw = a) (eb : B2 nw = b) (el : L2 nw = l) : FarP (mD D a b l) no (nw + 1) A2 B2 L2 := by
  obtain ⟨h0, hs, ht, hm, he, hg, hn⟩ := h
  have ha12 : a < 12 := by omega
  have hb12 : b < 12 := by omega
  have le0 : ∀ i j, mD D a b l i j ≤ D i j := fun i j => by unfold mD; omega
  have le1 : ∀ i j, mD D a b l i j ≤ D i a + l + D b j := fun i j => by unfold mD; omega
  have le2 : ∀ i j, mD D a b l i j ≤ D i b + l + D a j := fun i j => by unfold mD; omega
  have tri : ∀ i j k, i < 12 → j < 12 → k < 12 → mD D a b l i k ≤ mD D a b l i j + mD D a b l j k := by
    intro i j k hi hj hk
    have t1 := ht i j k hi hj hk
    have t2 := ht b j k hb12 hj hk
    have t3 := ht a j k ha12 hj hk
    have t4 := ht i j a hi hj ha12
    have t5 := ht i j b hi hj hb12
    have t6 := ht i a k hi ha12 hk
    have t7 := ht i b k hi hb12 hk
    unfold mD
    omega
  have edges : ∀ w, w < nw + 1 → mD D a b l (A2 w) (B2 w) ≤ L2 w := by
    intro w hw
    by_cases z : w = nw
    · subst z
      rw [ea, eb, el]
      have := le1 a b
      rw [h0 a ha12, h0 b hb12] at this
      omega
    · obtain ⟨e1, e2, e3⟩ := hE w (by omega)
      rw [e1, e2, e3]
      exact Nat.le_trans (le0 _ _) (he w (by omega))
  have sym : ∀ i j, i < 12 → j < 12 → mD D a b l i j = mD D a b l j i := by
    intro i j hi hj
    have s1 := hs i j hi hj
    have s2 := hs i a hi ha12
    have s3 := hs b j hb12 hj
    have s4 := hs i b hi hb12
    have s5 := hs a j ha12 hj
    unfold mD
    omega
  have ends : ∀ w, w < nw + 1 → A2 w < 12 ∧ B2 w < 12 := by
    intro w hw
    by_cases z : w = nw
    · subst z
      rw [ea, eb]
      exact ⟨ha12, hb12⟩
    · obtain ⟨e1, e2, e3⟩ := hE w (by omega)
      rw [e1, e2]
      exact hA w (by omega)
  have clos : ∀ i w, i < 12 → w < nw + 1 → mD D a b l i (B2 w) ≤ mD D a b l i (A2 w) + L2 w ∧ mD D a b l i (A2 w) ≤ mD D a b l i (B2 w) + L2 w := by
    intro i w hi hw
    obtain ⟨q1, q2⟩ := ends w hw
    have h1 := edges w hw
    have h2 := tri i (A2 w) (B2 w) hi q1 q2
    have h3 := tri i (B2 w) (A2 w) hi q2 q1
    have h4 := sym (A2 w) (B2 w) q1 q2
    omega
  refine ⟨?_, sym, tri, fun i j hi hj => Nat.le_trans (le0 i j) (hm i j hi hj), edges, ?_, ?_⟩
  · intro i hi
    have := le0 i i
    rw [h0 i hi] at this
    omega
  · intro i j hi hj hij hlt
    -- from a tight old way at (p, j) with what is left ahead of p
    have old : ∀ p, p < 12 → p ≠ j → D p j < 1000000 → (∀ x, x < 12 → mD D a b l i x + D p j ≤ mD D a b l i j + D p x) → ∃ w, w < nw + 1 ∧ ((B2 w = j ∧ mD D a b l i (A2 w) + L2 w = mD D a b l i j) ∨ (A2 w = j ∧ mD D a b l i (B2 w) + L2 w = mD D a b l i j)) := by
      intro p hp hpj hlt2 hx
      obtain ⟨w, hw, hc⟩ := hg p j hp hj hpj hlt2
      obtain ⟨e1, e2, e3⟩ := hE w hw
      obtain ⟨c1, c2⟩ := clos i w hi (by omega)
      obtain ⟨q1, q2⟩ := hA w hw
      refine ⟨w, by omega, ?_⟩
      rcases hc with ⟨z1, z2⟩ | ⟨z1, z2⟩
      · left
        have h3 := hx (A w) q1
        rw [e1, e2, e3, z1] at c1
        refine ⟨by rw [e2]; exact z1, ?_⟩
        rw [e1, e3]
        omega
      · right
        have h3 := hx (B w) q2
        rw [e1, e2, e3, z1] at c2
        refine ⟨by rw [e1]; exact z1, ?_⟩
        rw [e2, e3]
        omega
    have cases3 : mD D a b l i j = D i j ∨ mD D a b l i j = D i a + l + D b j ∨ mD D a b l i j = D i b + l + D a j := by unfold mD; omega
    rcases cases3 with c | c | c
    · refine old i hi hij (by omega) (fun x hx => ?_)
      have := le0 i x
      omega
    · by_cases hjb : b = j
      · subst hjb
        obtain ⟨c1, c2⟩ := clos i nw hi (by omega)
        rw [ea, eb, el] at c1
        refine ⟨nw, by omega, Or.inl ⟨eb, ?_⟩⟩
        rw [ea, el]
        have := le0 i a
        rw [h0 b hb12] at c
        omega
      · refine old b hb12 hjb (by omega) (fun x hx => ?_)
        have := le1 i x
        omega
    · by_cases hja : a = j
      · subst hja
        obtain ⟨c1, c2⟩ := clos i nw hi (by omega)
        rw [ea, eb, el] at c2
        refine ⟨nw, by omega, Or.inr ⟨ea, ?_⟩⟩
        rw [eb, el]
        have := le0 i b
        rw [h0 a ha12] at c
        omega
      · refine old a ha12 hja (by omega) (fun x hx => ?_)
        have := le2 i x
        omega
  · intro i j hi hj hij hni
    have d1 := hn i j hi hj hij hni
    have d2 := hn i a hi ha12 (by omega) hni
    have d3 := hn i b hi hb12 (by omega) hni
    unfold mD
    omega
