/-! ===== findFar: what the reference's table becomes ===== -/
theorem le_n {a b : Nat} (ha : a < 2 ^ 31) (hb : b < 2 ^ 31) : nI a ≤ nI b ↔ a ≤ b := by
  rw [le_I, nI_I ha, nI_I hb]
  omega
theorem lt_n {a b : Nat} (ha : a < 2 ^ 31) (hb : b < 2 ^ 31) : nI a < nI b ↔ a < b := by
  rw [lt_I, nI_I ha, nI_I hb]
  omega
theorem eq_n {a b : Nat} (ha : a < 2 ^ 31) (hb : b < 2 ^ 31) : nI a = nI b ↔ a = b := by
  rw [eq_I, nI_I ha, nI_I hb]
  omega
theorem rd_v {f : Nat → Int32} {n k : Nat} {i v : Int32} {P : Int32 → Prop} (hi : i = nI k) (hk : k < n) (hn : n < 2 ^ 31) (hv : f k = v) (h : P v) : fp_rd f n i P := rd_e hi hk hn (by rw [hv]; exact h)
def relx (T : Nat → Nat) (a b l : Nat) : Nat → Nat := fun k => if k = b ∧ T a + l < T b then T a + l else T k
def stx (A B L : Nat → Nat) (T : Nat → Nat) (w o : Nat) : Nat → Nat := relx (relx T (12 * o + A w) (12 * o + B w) (L w)) (12 * o + B w) (12 * o + A w) (L w)
def rowF (A B L : Nat → Nat) (T : Nat → Nat) (w : Nat) : Nat → Nat → Nat
  | 0 => T
  | n + 1 => stx A B L (rowF A B L T w n) w n
def wayF (A B L : Nat → Nat) (no : Nat) (T : Nat → Nat) : Nat → Nat → Nat
  | 0 => T
  | n + 1 => rowF A B L (wayF A B L no T n) n no
def rndF (A B L : Nat → Nat) (no nw : Nat) (T : Nat → Nat) : Nat → Nat → Nat
  | 0 => T
  | n + 1 => wayF A B L no (rndF A B L no nw T n) nw
def Bd6 (T : Nat → Nat) : Prop := ∀ k, k < 144 → T k ≤ 1000000
def repT (f : Nat → Int32) (T : Nat → Nat) : Prop := ∀ k, k < 144 → f k = nI (T k)
theorem relx_le (T : Nat → Nat) (a b l k : Nat) : relx T a b l k ≤ T k := by
  unfold relx
  by_cases c : k = b ∧ T a + l < T b
  · rw [if_pos c]
    obtain ⟨rfl, h⟩ := c
    omega
  · rw [if_neg c]
    exact Nat.le_refl _
theorem stx_le (A B L T : Nat → Nat) (w o k : Nat) : stx A B L T w o k ≤ T k := Nat.le_trans (relx_le _ _ _ _ _) (relx_le _ _ _ _ _)
theorem rowF_le (A B L T : Nat → Nat) (w k : Nat) : ∀ n, rowF A B L T w n k ≤ T k
  | 0 => Nat.le_refl _
  | n + 1 => Nat.le_trans (stx_le _ _ _ _ _ _ _) (rowF_le A B L T w k n)
theorem wayF_le (A B L T : Nat → Nat) (no k : Nat) : ∀ n, wayF A B L no T n k ≤ T k
  | 0 => Nat.le_refl _
  | n + 1 => Nat.le_trans (rowF_le _ _ _ _ _ _ _) (wayF_le A B L T no k n)
theorem rndF_le (A B L T : Nat → Nat) (no nw k : Nat) : ∀ n, rndF A B L no nw T n k ≤ T k
  | 0 => Nat.le_refl _
  | n + 1 => Nat.le_trans (wayF_le _ _ _ _ _ _ _) (rndF_le A B L T no nw k n)
theorem relx_rep {f : Nat → Int32} {T : Nat → Nat} {a b l : Nat} (h : repT f T) (hb : b < 144) (c : T a + l < T b) : repT (upd f b (nI (T a + l))) (relx T a b l) := by
  intro k hk
  unfold relx
  by_cases z : k = b
  · subst z
    rw [upd_s, if_pos ⟨rfl, c⟩]
  · rw [upd_n _ _ z, if_neg (fun y => z y.1)]
    exact h k hk
theorem relx_no {T : Nat → Nat} {a b l : Nat} (c : ¬ T a + l < T b) : relx T a b l = T := by
  funext k
  unfold relx
  rw [if_neg (fun y => c y.2)]
/-- the ways as numbers -/
def Ways (A B L : Nat → Nat) (g : fp_G) (no nw : Nat) : Prop := no ≤ 12 ∧ nw ≤ 24 ∧ g 67 12 = nI no ∧ g 67 13 = nI nw ∧ ∀ w, w < nw → A w < no ∧ B w < no ∧ L w ≤ 48 ∧ g 70 w = nI (A w) ∧ g 71 w = nI (B w) ∧ g 72 w = nI (L w)
theorem l_far56 {A B L : Nat → Nat} {g : fp_G} {no nw w : Nat} {x1 : Int32} {K : Int32 → fp_G → Prop} {E : fp_G → Prop} {T : Nat → Nat} (hW : Ways A B L g no nw) (hw : w < nw) (hT : Bd6 T)
    (k : ∀ f, repT f (rowF A B L T w no) → E (gc g 78 f)) : ∀ r j f, j + r = no → repT f (rowF A B L T w j) → w_X9_findFar_56 (r + 1) x1 (nI w) (nI j) (gc g 78 f) K E := by
  obtain ⟨hno, hnw, h12, h13, hw2⟩ := hW
  obtain ⟨ha, hb, hl, e70, e71, e72⟩ := hw2 w hw
  intro r
  induction r with
  | zero =>
    intro j f hj h
    have hj : j = no := by omega
    subst hj
    rw [w_X9_findFar_56]
    exact it (end_c (a := gc g 78 f 67 12) h12) (k f h)
  | succ r ih =>
    intro j f hj h
    rw [w_X9_findFar_56]
    have ea : 12 * nI j + nI (A w) = nI (12 * j + A w) := by rw [show (12 : Int32) = nI 12 from rfl, pk_mul, nI_add]
    have eb : 12 * nI j + nI (B w) = nI (12 * j + B w) := by rw [show (12 : Int32) = nI 12 from rfl, pk_mul, nI_add]
    have ia : 12 * j + A w < 144 := by omega
    have ib : 12 * j + B w < 144 := by omega
    have bT : ∀ k, k < 144 → rowF A B L T w j k ≤ 1000000 := fun k hk => Nat.le_trans (rowF_le _ _ _ _ _ _ _) (hT k hk)
    have second : ∀ f1 T1, repT f1 T1 → (∀ k, k < 144 → T1 k ≤ 1000000) → relx T1 (12 * j + B w) (12 * j + A w) (L w) = rowF A B L T w (j + 1) →
        (fp_rd (gc g 78 f1 78) 144 (12 * nI j + nI (B w)) fun v6 =>
          fp_rd (gc g 78 f1 72) 24 (nI w) fun v7 =>
          fp_rd (gc g 78 f1 78) 144 (12 * nI j + nI (A w)) fun v8 =>
          if v8 ≤ v6 + v7 then w_X9_findFar_56 (r + 1) x1 (nI w) (nI j + 1) (gc g 78 f1) K E
          else fp_rd (gc g 78 f1 78) 144 (12 * nI j + nI (B w)) fun v9 =>
            fp_rd (gc g 78 f1 72) 24 (nI w) fun v10 =>
            fp_wr (gc g 78 f1) 78 144 (12 * nI j + nI (A w)) (v9 + v10) fun g3 => w_X9_findFar_56 (r + 1) x1 (nI w) (nI j + 1) g3 K E) := by
      intro f1 T1 h1 b1 e1
      have va : gc g 78 f1 78 (12 * j + A w) = nI (T1 (12 * j + A w)) := h1 _ ia
      have vb : gc g 78 f1 78 (12 * j + B w) = nI (T1 (12 * j + B w)) := h1 _ ib
      have ba := b1 _ ia
      have bb := b1 _ ib
      refine rd_v eb ib (by omega) vb (rd_v rfl (by omega) (by omega) e72 (rd_v ea ia (by omega) va ?_))
      rw [show nI j + 1 = nI (j + 1) from (nI_succ j).symm, nI_add]
      refine is (fun c => ?_) (fun c => rd_v eb ib (by omega) vb (rd_v rfl (by omega) (by omega) e72 (wr_e ea ia (by omega) ?_)))
      · rw [le_n (by omega) (by omega)] at c
        rw [relx_no (by omega)] at e1
        exact ih (j + 1) f1 (by omega) (by rw [← e1]; exact h1)
      · rw [le_n (by omega) (by omega)] at c
        rw [nI_add, gcu_s]
        refine ih (j + 1) _ (by omega) ?_
        rw [← e1]
        exact relx_rep h1 ia (by omega)
    have va : gc g 78 f 78 (12 * j + A w) = nI (rowF A B L T w j (12 * j + A w)) := h _ ia
    have vb : gc g 78 f 78 (12 * j + B w) = nI (rowF A B L T w j (12 * j + B w)) := h _ ib
    have ba := bT _ ia
    have bb := bT _ ib
    refine ie (nend_c (a := gc g 78 f 67 12) h12 (by omega) (by omega)) (rd_v rfl (by omega) (by omega) e70 (rd_v rfl (by omega) (by omega) e71 (rd_v ea ia (by omega) va (rd_v rfl (by omega) (by omega) e72 (rd_v eb ib (by omega) vb ?_)))))
    dsimp only [fp_j]
    rw [nI_add]
    refine is (fun c => ?_) (fun c => rd_v ea ia (by omega) va (rd_v rfl (by omega) (by omega) e72 (wr_e eb ib (by omega) ?_)))
    · rw [le_n (by omega) (by omega)] at c
      refine second f _ h bT ?_
      rw [rowF, stx, relx_no (T := rowF A B L T w j) (a := 12 * j + A w) (b := 12 * j + B w) (l := L w) (by omega)]
    · rw [le_n (by omega) (by omega)] at c
      rw [nI_add, gcu_s]
      refine second _ _ (relx_rep h ib (by omega)) (fun k hk => Nat.le_trans (relx_le _ _ _ _ _) (bT k hk)) rfl
theorem l_far46 {A B L : Nat → Nat} {g : fp_G} {no nw : Nat} {x1 : Int32} {K : Int32 → fp_G → Prop} {E : fp_G → Prop} {T : Nat → Nat} (hW : Ways A B L g no nw) (hT : Bd6 T)
    (k : ∀ f, repT f (wayF A B L no T nw) → E (gc g 78 f)) : ∀ r j f, j + r = nw → repT f (wayF A B L no T j) → w_X9_findFar_46 (r + 1) x1 (nI j) (gc g 78 f) K E := by
  intro r
  have hW2 := hW
  obtain ⟨hno, hnw, h12, h13, hw2⟩ := hW2
  induction r with
  | zero =>
    intro j f hj h
    have hj : j = nw := by omega
    subst hj
    rw [w_X9_findFar_46]
    exact it (end_c (a := gc g 78 f 67 13) h13) (k f h)
  | succ r ih =>
    intro j f hj h
    rw [w_X9_findFar_46]
    refine ie (nend_c (a := gc g 78 f 67 13) h13 (by omega) (by omega)) ⟨no + 1, ?_⟩
    rw [show nI j + 1 = nI (j + 1) from (nI_succ j).symm]
    refine l_far56 (T := wayF A B L no T j) hW (by omega) (fun k hk => Nat.le_trans (wayF_le _ _ _ _ _ _ _) (hT k hk)) (fun f1 h1 => ih (j + 1) f1 (by omega) h1) no 0 f (by omega) h
theorem l_far36 {A B L : Nat → Nat} {g : fp_G} {no nw : Nat} {K : Int32 → fp_G → Prop} {T : Nat → Nat} (hW : Ways A B L g no nw) (hT : Bd6 T)
    (k : ∀ f, repT f (rndF A B L no nw T no) → K 0 (gc g 78 f)) : ∀ r j f, j + r = no → repT f (rndF A B L no nw T j) → w_X9_findFar_36 (r + 1) (nI j) (gc g 78 f) K := by
  intro r
  have hW2 := hW
  obtain ⟨hno, hnw, h12, h13, hw2⟩ := hW2
  induction r with
  | zero =>
    intro j f hj h
    have hj : j = no := by omega
    subst hj
    rw [w_X9_findFar_36]
    exact it (end_c (a := gc g 78 f 67 12) h12) (k f h)
  | succ r ih =>
    intro j f hj h
    rw [w_X9_findFar_36]
    refine ie (nend_c (a := gc g 78 f 67 12) h12 (by omega) (by omega)) ⟨nw + 1, ?_⟩
    rw [show nI j + 1 = nI (j + 1) from (nI_succ j).symm]
    refine l_far46 (T := rndF A B L no nw T j) hW (fun k hk => Nat.le_trans (rndF_le _ _ _ _ _ _ _ _) (hT k hk)) (fun f1 h1 => ih (j + 1) f1 (by omega) h1) nw 0 f (by omega) h
def T0 (k : Nat) : Nat := if k % 13 = 0 then 0 else 1000000
theorem md13 : ∀ k, k < 144 → ((nI k - nI k / 13 * 13 : Int32) = 0 ↔ k % 13 = 0) := by decide +kernel
theorem l_far2 {g : fp_G} {K : Int32 → fp_G → Prop} (k : ∀ f, repT f T0 → ∃ n, w_X9_findFar_36 n 0 (gc g 78 f) K) : ∀ r j f, j + r = 144 → (∀ i, i < j → f i = nI (T0 i)) → w_X9_findFar_2 (r + 1) (nI j) (gc g 78 f) K := by
  intro r
  induction r with
  | zero =>
    intro j f hj h
    have hj : j = 144 := by omega
    subst hj
    rw [w_X9_findFar_2]
    exact it (end_c (a := 144) rfl) (k f h)
  | succ r ih =>
    intro j f hj h
    rw [w_X9_findFar_2]
    refine ie (nend_c (a := 144) (n := 144) rfl (by omega) (by omega)) (dv_i (by decide) ?_)
    dsimp only [fp_j]
    rw [show nI j + 1 = nI (j + 1) from (nI_succ j).symm]
    have nx : ∀ v, v = nI (T0 j) → fp_wr (gc g 78 f) 78 144 (nI j) v fun g7 => w_X9_findFar_2 (r + 1) (nI (j + 1)) g7 K := by
      rintro v rfl
      refine wr_n (by omega) (by omega) ?_
      rw [gcu_s]
      refine ih (j + 1) _ (by omega) (fun i hi => ?_)
      by_cases z : i = j
      · subst z
        rw [upd_s]
      · rw [upd_n _ _ z]
        exact h i (by omega)
    refine is (fun c => nx _ ?_) (fun c => nx _ ?_)
    · rw [md13 j (by omega)] at c
      unfold T0
      rw [if_pos c]
      rfl
    · rw [md13 j (by omega)] at c
      unfold T0
      rw [if_neg c]
      rfl
theorem s9_findFar0 {A B L : Nat → Nat} {g : fp_G} {no nw : Nat} {K : Int32 → fp_G → Prop} (hW : Ways A B L g no nw) (k : ∀ f, repT f (rndF A B L no nw T0 no) → K 0 (gc g 78 f)) : w_X9_findFar g K := by
  unfold w_X9_findFar
  have main := l_far2 (g := g) (K := K) (fun f h => ⟨no + 1, l_far36 (T := T0) hW (fun k hk => by unfold T0; split <;> omega) k no 0 f (by omega) h⟩) 144 0 (g 78) (by omega) (fun i hi => absurd hi (by omega))
  rw [gc_id] at main
  exact ⟨145, main⟩
