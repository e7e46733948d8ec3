/-! ===== findFar finds the least sums ===== -/
theorem ctB_mono {p q : Nat → Bool} : ∀ n, (∀ i, i < n → p i = true → q i = true) → ctB p n ≤ ctB q n
  | 0, _ => Nat.le_refl 0
  | n + 1, h => by
    have h1 := ctB_mono n (fun i hi => h i (by omega))
    have h2 := h n (by omega)
    rw [ctB, ctB]
    cases e : p n
    · cases e2 : q n <;> simp <;> omega
    · rw [h2 e]
      simp
      omega
theorem ctB_lt {p q : Nat → Bool} : ∀ n, (∀ i, i < n → p i = true → q i = true) → (∃ i, i < n ∧ q i = true ∧ p i = false) → ctB p n < ctB q n
  | 0, _, ⟨i, hi, _⟩ => absurd hi (by omega)
  | n + 1, h, ⟨i, hi, hq, hp⟩ => by
    rw [ctB, ctB]
    by_cases z : i = n
    · subst z
      have h1 := ctB_mono i (fun i2 hi2 => h i2 (by omega))
      rw [hq, hp]
      simp
      omega
    · have h1 := ctB_lt n (fun i2 hi2 => h i2 (by omega)) ⟨i, by omega, hq, hp⟩
      have h2 := h n (by omega)
      cases e : p n
      · cases e2 : q n <;> simp <;> omega
      · rw [h2 e]
        simp
        omega
theorem ctB_zero {p : Nat → Bool} : ∀ n, ctB p n = 0 → ∀ i, i < n → p i = false
  | 0, _, i, hi => absurd hi (by omega)
  | n + 1, h, i, hi => by
    rw [ctB] at h
    cases e : p n
    · rw [e] at h
      by_cases z : i = n
      · subst z
        exact e
      · exact ctB_zero n (by simpa using h) i (by omega)
    · rw [e] at h
      simp at h
theorem ctB_bound {p : Nat → Bool} (m : Nat) : ∀ n, (∀ i, i < n → p i = true → i < m) → ctB p n ≤ m
  | 0, _ => Nat.zero_le _
  | n + 1, h => by
    have h1 := ctB_bound m n (fun i hi => h i (by omega))
    have h3 := ctB_le p n
    rw [ctB]
    cases e : p n
    · simpa using h1
    · have := h n (by omega) e
      simp
      omega
theorem relx_at (T : Nat → Nat) (a b l : Nat) : relx T a b l b ≤ T a + l := by
  unfold relx
  by_cases c : T a + l < T b
  · rw [if_pos ⟨rfl, c⟩]
    exact Nat.le_refl _
  · rw [if_neg (fun z => c z.2)]
    omega
theorem rowF_mono (A B L T : Nat → Nat) (w k n : Nat) : ∀ d, rowF A B L T w (n + d) k ≤ rowF A B L T w n k
  | 0 => Nat.le_refl _
  | d + 1 => Nat.le_trans (stx_le _ _ _ _ _ _ _) (rowF_mono A B L T w k n d)
theorem wayF_mono (A B L T : Nat → Nat) (no k n : Nat) : ∀ d, wayF A B L no T (n + d) k ≤ wayF A B L no T n k
  | 0 => Nat.le_refl _
  | d + 1 => Nat.le_trans (rowF_le _ _ _ _ _ _ _) (wayF_mono A B L T no k n d)
theorem wayF_ex (A B L T : Nat → Nat) {no nw w o : Nat} (hw : w < nw) (ho : o < no) : wayF A B L no T nw (12 * o + B w) ≤ T (12 * o + A w) + L w ∧ wayF A B L no T nw (12 * o + A w) ≤ T (12 * o + B w) + L w := by
  have h1 : ∀ k, wayF A B L no T nw k ≤ stx A B L (rowF A B L (wayF A B L no T w) w o) w o k := by
    intro k
    have a := wayF_mono A B L T no k (w + 1) (nw - (w + 1))
    rw [show w + 1 + (nw - (w + 1)) = nw by omega] at a
    have b := rowF_mono A B L (wayF A B L no T w) w k (o + 1) (no - (o + 1))
    rw [show o + 1 + (no - (o + 1)) = no by omega] at b
    exact Nat.le_trans a b
  have h2 : ∀ k, rowF A B L (wayF A B L no T w) w o k ≤ T k := fun k => Nat.le_trans (rowF_le _ _ _ _ _ _ _) (wayF_le _ _ _ _ _ _ _)
  constructor
  · refine Nat.le_trans (h1 _) (Nat.le_trans (relx_le _ _ _ _ _) (Nat.le_trans (relx_at _ _ _ _) ?_))
    have := h2 (12 * o + A w)
    omega
  · refine Nat.le_trans (h1 _) (Nat.le_trans (relx_at _ _ _ _) ?_)
    have := h2 (12 * o + B w)
    have := relx_le (rowF A B L (wayF A B L no T w) w o) (12 * o + A w) (12 * o + B w) (L w) (12 * o + B w)
    omega
def LBd (D : Nat → Nat → Nat) (T : Nat → Nat) : Prop := ∀ i j, i < 12 → j < 12 → D i j ≤ T (12 * i + j)
theorem LB_relx {D : Nat → Nat → Nat} {T : Nat → Nat} (h : LBd D T) {o a b l : Nat} (ho : o < 12) (ha : a < 12) (hb : b < 12) (e : D o b ≤ D o a + l) : LBd D (relx T (12 * o + a) (12 * o + b) l) := by
  intro i j hi hj
  unfold relx
  by_cases c : 12 * i + j = 12 * o + b ∧ T (12 * o + a) + l < T (12 * o + b)
  · rw [if_pos c]
    have e1 : i = o := by omega
    have e2 : j = b := by omega
    rw [e1, e2]
    have := h o a ho ha
    omega
  · rw [if_neg c]
    exact h i j hi hj
section
variable {D : Nat → Nat → Nat} {no nw : Nat} {A B L : Nat → Nat}
theorem LB_way (hP : FarP D no nw A B L) (hno : no ≤ 12) (hA : ∀ w, w < nw → A w < no ∧ B w < no) {T : Nat → Nat} (h : LBd D T) : ∀ n, n ≤ nw → LBd D (wayF A B L no T n) := by
  intro n
  induction n with
  | zero => exact fun _ => h
  | succ n ih =>
    intro hn
    have h1 := ih (by omega)
    obtain ⟨ha, hb⟩ := hA n (by omega)
    have hr : ∀ o, o ≤ no → LBd D (rowF A B L (wayF A B L no T n) n o) := by
      intro o
      induction o with
      | zero => exact fun _ => h1
      | succ o io =>
        intro ho
        obtain ⟨c1, c2⟩ := hP.closed (i := o) (w := n) (by omega) (by omega) (by omega) (by omega)
        exact LB_relx (LB_relx (io (by omega)) (by omega) (by omega) (by omega) c1) (by omega) (by omega) (by omega) c2
    exact hr no (Nat.le_refl _)
theorem LB_rnd (hP : FarP D no nw A B L) (hno : no ≤ 12) (hA : ∀ w, w < nw → A w < no ∧ B w < no) {T : Nat → Nat} (h : LBd D T) : ∀ n, LBd D (rndF A B L no nw T n)
  | 0 => h
  | n + 1 => LB_way hP hno hA (LB_rnd hP hno hA h n) nw (Nat.le_refl _)
theorem m13 : ∀ o, o < 12 → ∀ j, j < 12 → ((12 * o + j) % 13 = 0 ↔ o = j) := by decide
theorem T0_LBd (hP : FarP D no nw A B L) : LBd D T0 := by
  intro i j hi hj
  unfold T0
  by_cases c : i = j
  · subst c
    rw [hP.1 i hi]
    omega
  · rw [if_neg (fun z => c ((m13 i hi j hj).mp z))]
    exact hP.2.2.2.1 i j hi hj
theorem far_exact (hP : FarP D no nw A B L) (hno : no ≤ 12) (hA : ∀ w, w < nw → A w < no ∧ B w < no ∧ 1 ≤ L w) : ∀ i j, i < 12 → j < 12 → rndF A B L no nw T0 no (12 * i + j) = D i j := by
  have hA2 : ∀ w, w < nw → A w < no ∧ B w < no := fun w hw => ⟨(hA w hw).1, (hA w hw).2.1⟩
  have lb := LB_rnd hP hno hA2 (T0_LBd hP)
  have ub : ∀ r k, rndF A B L no nw T0 r k ≤ T0 k := fun r k => rndF_le _ _ _ _ _ _ _ _
  have big : ∀ i j, i < 12 → j < 12 → T0 (12 * i + j) ≤ D i j → ∀ r, rndF A B L no nw T0 r (12 * i + j) = D i j := by
    intro i j hi hj h r
    have := lb r i j hi hj
    have := ub r (12 * i + j)
    omega
  have t0 : ∀ i j, i < 12 → j < 12 → (no ≤ i ∨ no ≤ j ∨ i = j) → T0 (12 * i + j) ≤ D i j := by
    intro i j hi hj h
    unfold T0
    by_cases c : i = j
    · subst c
      rw [if_pos ((m13 i hi i hi).mpr rfl)]
      omega
    · rw [if_neg (fun z => c ((m13 i hi j hj).mp z))]
      rcases h with h | h | h
      · rw [hP.2.2.2.2.2.2 i j hi hj c h]
        exact Nat.le_refl _
      · rw [hP.2.1 i j hi hj, hP.2.2.2.2.2.2 j i hj hi (fun z => c z.symm) h]
        exact Nat.le_refl _
      · exact absurd h c
  intro i j hi hj
  by_cases hin : no ≤ i
  · exact big i j hi hj (t0 i j hi hj (Or.inl hin)) no
  -- the row i: those not yet exact become fewer with each round
  have prog : ∀ r v j, j < 12 → D i j = v → rndF A B L no nw T0 r (12 * i + j) ≠ D i j → ∃ j2, j2 < 12 ∧ rndF A B L no nw T0 r (12 * i + j2) ≠ D i j2 ∧ rndF A B L no nw T0 (r + 1) (12 * i + j2) = D i j2 := by
    intro r v
    induction v using Nat.strongRecOn with
    | ind v ih =>
      intro j hj hv hne
      have l1 := lb r i j hi hj
      have hij : i ≠ j := fun z => hne (big i j hi hj (t0 i j hi hj (Or.inr (Or.inr z))) r)
      have hlt : D i j < 1000000 := by
        have h1 := ub r (12 * i + j)
        have h2 : T0 (12 * i + j) ≤ 1000000 := by unfold T0; split <;> omega
        omega
      obtain ⟨w, hw, hc⟩ := hP.2.2.2.2.2.1 i j hi hj hij hlt
      obtain ⟨ha, hb, hl⟩ := hA w hw
      obtain ⟨x1, x2⟩ := wayF_ex A B L (rndF A B L no nw T0 r) hw (show i < no by omega)
      have lb2 := lb (r + 1) i j hi hj
      rcases hc with ⟨z1, z2⟩ | ⟨z1, z2⟩
      · by_cases ex : rndF A B L no nw T0 r (12 * i + A w) = D i (A w)
        · refine ⟨j, hj, hne, ?_⟩
          rw [z1] at x1
          have : rndF A B L no nw T0 (r + 1) (12 * i + j) ≤ rndF A B L no nw T0 r (12 * i + A w) + L w := x1
          omega
        · exact ih (D i (A w)) (by omega) (A w) (by omega) rfl ex
      · by_cases ex : rndF A B L no nw T0 r (12 * i + B w) = D i (B w)
        · refine ⟨j, hj, hne, ?_⟩
          rw [z1] at x2
          have : rndF A B L no nw T0 (r + 1) (12 * i + j) ≤ rndF A B L no nw T0 r (12 * i + B w) + L w := x2
          omega
        · exact ih (D i (B w)) (by omega) (B w) (by omega) rfl ex
  have cnt : ∀ r, ctB (fun j => decide (rndF A B L no nw T0 r (12 * i + j) ≠ D i j)) 12 ≤ no - r := by
    intro r
    induction r with
    | zero =>
      refine ctB_bound no 12 (fun j hj h => ?_)
      have h := of_decide_eq_true h
      exact Nat.lt_of_not_le (fun z => h (big i j hi hj (t0 i j hi hj (Or.inr (Or.inl z))) 0))
    | succ r ih =>
      have mono : ∀ j, j < 12 → decide (rndF A B L no nw T0 (r + 1) (12 * i + j) ≠ D i j) = true → decide (rndF A B L no nw T0 r (12 * i + j) ≠ D i j) = true := by
        intro j hj h
        have h := of_decide_eq_true h
        refine decide_eq_true (fun z => h ?_)
        have h1 := lb (r + 1) i j hi hj
        have h2 : rndF A B L no nw T0 (r + 1) (12 * i + j) ≤ rndF A B L no nw T0 r (12 * i + j) := wayF_le _ _ _ _ _ _ _
        omega
      by_cases z : ctB (fun j => decide (rndF A B L no nw T0 r (12 * i + j) ≠ D i j)) 12 = 0
      · have := ctB_mono 12 mono
        omega
      · have : ∃ j, j < 12 ∧ rndF A B L no nw T0 r (12 * i + j) ≠ D i j := by
          refine Classical.byContradiction (fun hn => z ?_)
          have : ctB (fun j => decide (rndF A B L no nw T0 r (12 * i + j) ≠ D i j)) 12 ≤ 0 := ctB_bound 0 12 (fun j hj h => absurd ⟨j, hj, of_decide_eq_true h⟩ hn)
          omega
        obtain ⟨j, hj, hne⟩ := this
        obtain ⟨j2, hj2, h1, h2⟩ := prog r _ j hj rfl hne
        have := ctB_lt 12 mono ⟨j2, hj2, decide_eq_true h1, decide_eq_false (fun z => z h2)⟩
        omega
  have c0 := cnt no
  rw [Nat.sub_self] at c0
  have fin := ctB_zero 12 (Nat.le_antisymm c0 (Nat.zero_le _)) j hj
  exact Classical.byContradiction (fun hn => absurd (decide_eq_true hn) (by rw [fin]; decide))
end
/-- FAR of class (cell 9) as numbers -/
def dN (g : fp_G) (i j : Nat) : Nat := tn (g 9 (12 * i + j))
def wA (g : fp_G) (w : Nat) : Nat := tn (g 10 w)
def wB (g : fp_G) (w : Nat) : Nat := tn (g 11 w)
def wL (g : fp_G) (w : Nat) : Nat := tn (g 12 w)
def VFar (g : fp_G) : Prop := (∀ k, k < 144 → ∃ d, d ≤ 1000000 ∧ g 9 k = nI d) ∧ FarP (dN g) (nO g) (nW g) (wA g) (wB g) (wL g)
theorem s9_findFar {g : fp_G} {K : Int32 → fp_G → Prop} (hS : Same g) (hC : Cnt g) (hN : VNet g) (hF : VFar g) (k : ∀ f, (∀ k, k < 144 → f k = g 9 k) → K 0 (gc g 78 f)) : w_X9_findFar g K := by
  obtain ⟨⟨⟨c1, no, hno, eno⟩, ⟨c2, nw, hnw, enw⟩, _⟩, _⟩ := hC
  have e1 : nO g = no := by unfold nO; rw [eno]; exact tn_n (by omega)
  have e2 : nW g = nw := by unfold nW; rw [enw]; exact tn_n (by omega)
  have hw : ∀ w, w < nw → wA g w < no ∧ wB g w < no ∧ 1 ≤ wL g w ∧ wL g w ≤ 48 ∧ g 10 w = nI (wA g w) ∧ g 11 w = nI (wB g w) ∧ g 12 w = nI (wL g w) := by
    intro w hw
    obtain ⟨⟨a, b, ha, hb, _, ea, eb⟩, ⟨l, l1, l2, el⟩, _⟩ := hN.2.2 w (by omega)
    have ta : wA g w = a := by unfold wA; rw [ea]; exact tn_n (by omega)
    have tb : wB g w = b := by unfold wB; rw [eb]; exact tn_n (by omega)
    have tl : wL g w = l := by unfold wL; rw [el]; exact tn_n (by omega)
    rw [ta, tb, tl]
    exact ⟨by omega, by omega, l1, l2, ea, eb, el⟩
  have hW : Ways (wA g) (wB g) (wL g) g no nw := by
    refine ⟨hno, hnw, by rw [c1]; exact eno, by rw [c2]; exact enw, fun w h => ?_⟩
    obtain ⟨a1, a2, a3, a4, a5, a6, a7⟩ := hw w h
    obtain ⟨_, _, _, ⟨s1, s2, s3, _⟩, _⟩ := hS
    rw [s1, s2, s3]
    exact ⟨a1, a2, a4, a5, a6, a7⟩
  refine s9_findFar0 hW (fun f hf => k f (fun i hi => ?_))
  have hP := hF.2
  rw [e1, e2] at hP
  have ex := far_exact hP hno (fun w h => ⟨(hw w h).1, (hw w h).2.1, (hw w h).2.2.1⟩) (i / 12) (i % 12) (by omega) (by omega)
  rw [show 12 * (i / 12) + i % 12 = i by omega] at ex
  rw [hf i hi, ex]
  unfold dN
  rw [show 12 * (i / 12) + i % 12 = i by omega]
  obtain ⟨d, hd, ed⟩ := hF.1 i hi
  rw [ed, tn_n (by omega)]
