/-! ===== best and judge ===== -/
theorem sh_n : ∀ n, n ≤ 7 → ((1 : Int32) <<< (nI n &&& 31)) = nI (2 ^ n) := by
  intro n hn
  have : ∀ n, n < 8 → ((1 : Int32) <<< (nI n &&& 31)) = nI (2 ^ n) := by decide +kernel
  exact this n (by omega)
theorem p2_n {n : Nat} (hn : n ≤ 7) : 1 ≤ 2 ^ n ∧ 2 ^ n ≤ 128 := by
  have : ∀ n, n < 8 → 1 ≤ 2 ^ n ∧ 2 ^ n ≤ 128 := by decide
  exact this n (by omega)
def okS (g : fp_G) (s : Nat) : Bool := cbF (sB g) (sT g) (sR g) (inS (nI s)) (nSa g) 0
def lS (g : fp_G) (s : Nat) : Nat := sX (sL g) (inS (nI s)) (nSa g)
def hS (g : fp_G) (s : Nat) : Nat := sX (sT g) (inS (nI s)) (nSa g)
def btr (g : fp_G) (s b : Nat) : Bool := decide (lS g b < lS g s) || (decide (lS g s = lS g b) && decide (hS g s < hS g b))
def bG (g : fp_G) : Nat → Nat → Nat → Nat
  | 0, _, b => b
  | r + 1, j, b => bG g r (j + 1) (if okS g j && btr g j b then j else b)
theorem lS_le {g : fp_G} (hC : Cnt g) (hV : VS g) (s : Nat) : lS g s ≤ 69993 := by
  have h := sX_le (p := inS (nI s)) (fun i hi => (hV.1 i hi).2.2.1)
  have := hC.Sa.1
  have : nSa g * 9999 ≤ 7 * 9999 := Nat.mul_le_mul_right _ this
  unfold lS
  omega
theorem hS_le {g : fp_G} (hC : Cnt g) (hV : VS g) (s : Nat) : hS g s ≤ 693 := by
  have h := sX_le (p := inS (nI s)) (fun i hi => (hV.1 i hi).1.1)
  have := hC.Sa.1
  have : nSa g * 99 ≤ 7 * 99 := Nat.mul_le_mul_right _ this
  unfold hS
  omega
theorem sub_n {a b : Nat} (ha : a < 2 ^ 30) (hb : b < 2 ^ 30) : (nI a - nI b).toInt = (a : Int) - b := by
  rw [Int32.toInt_sub, nI_I (by omega), nI_I (by omega), Int.bmod_eq_of_le (by omega) (by omega)]
theorem s7_isBetter {g : fp_G} {K : Int32 → fp_G → Prop} {s b : Nat} (hC : Cnt g) (hV : VS g) (k : K (bI (btr g s b)) g) : w_X7_isBetter (nI s) (nI b) g K := by
  unfold w_X7_isBetter
  unfold btr at k
  have l1 := lS_le hC hV s
  have l2 := lS_le hC hV b
  have h1 := hS_le hC hV s
  have h2 := hS_le hC hV b
  have sb : (nI (lS g s) - nI (lS g b)).toInt = (lS g s : Int) - lS g b := sub_n (by omega) (by omega)
  refine s7_letters hC hV (s7_letters hC hV (j_I ?_))
  show if 0 < nI (lS g s) - nI (lS g b) then _ else _
  refine is (fun c => ?_) (fun c => j_I ?_)
  · rw [lt_I, sb, show (0 : Int32).toInt = 0 from rfl] at c
    rw [decide_eq_true (p := lS g b < lS g s) (by omega), Bool.true_or] at k
    exact k
  · rw [lt_I, sb, show (0 : Int32).toInt = 0 from rfl] at c
    rw [decide_eq_false (p := lS g b < lS g s) (by omega), Bool.false_or] at k
    show if nI (lS g s) - nI (lS g b) = 0 then _ else _
    refine is (fun c2 => s7_hours hC hV (s7_hours hC hV ?_)) (fun c2 => ?_)
    · rw [eq_I, sb, show (0 : Int32).toInt = 0 from rfl] at c2
      rw [decide_eq_true (p := lS g s = lS g b) (by omega), Bool.true_and] at k
      show if nI (hS g b) ≤ nI (hS g s) then _ else _
      refine is (fun c3 => ?_) (fun c3 => ?_)
      · rw [le_n (by omega) (by omega)] at c3
        rw [decide_eq_false (by omega)] at k
        exact k
      · rw [le_n (by omega) (by omega)] at c3
        rw [decide_eq_true (by omega)] at k
        exact k
    · rw [eq_I, sb, show (0 : Int32).toInt = 0 from rfl] at c2
      rw [decide_eq_false (p := lS g s = lS g b) (by omega), Bool.false_and] at k
      exact k
theorem l_bestSet {g : fp_G} {K : Int32 → fp_G → Prop} (hC : Cnt g) (hV : VS g) : ∀ r j b, j + r = 2 ^ nSa g → K (nI (bG g r j b)) g → w_X7_bestSet_4 (r + 1) (nI b) (nI j) g K := by
  obtain ⟨hn, h3, _⟩ := hC.Sa
  have p2 := p2_n hn
  have e3 : ((1 : Int32) <<< ((g 61 3) &&& 31)) = nI (2 ^ nSa g) := by rw [h3]; exact sh_n _ hn
  intro r
  induction r with
  | zero =>
    intro j b hj k
    have hj : j = 2 ^ nSa g := by omega
    rw [w_X7_bestSet_4]
    exact it (by rw [hj]; exact end_c e3) k
  | succ r ih =>
    intro j b hj k
    rw [w_X7_bestSet_4]
    rw [bG] at k
    refine ie (nend_c e3 (by omega) (by omega)) ?_
    unfold w_X7_canBeMade
    refine ⟨nSa g + 1, l_canBeMade hC hV (nSa g) 0 (by omega) (j_I ?_)⟩
    rw [show nI j + 1 = nI (j + 1) from (nI_succ j).symm]
    show if bI (okS g j) = 0 then _ else _
    cases c : okS g j <;> rw [c] at k
    · exact it rfl (ih (j + 1) b (by omega) k)
    · refine ie (by decide) (s7_isBetter hC hV ?_)
      cases d : btr g j b <;> rw [d] at k
      · exact it rfl (ih (j + 1) b (by omega) k)
      · exact ie (by decide) (ih (j + 1) j (by omega) k)
def bsS (g : fp_G) : Nat := bG g (2 ^ nSa g - 1) 1 0
theorem s7_bestSet {g : fp_G} {K : Int32 → fp_G → Prop} (hC : Cnt g) (hV : VS g) (k : K (nI (bsS g)) g) : w_X7_bestSet g K := by
  unfold w_X7_bestSet
  have p2 := p2_n hC.Sa.1
  exact ⟨2 ^ nSa g - 1 + 1, l_bestSet hC hV (2 ^ nSa g - 1) 1 0 (by omega) k⟩
theorem bit_mul {x : Int32} {s F : Nat} : ((x >>> (nI s &&& 31)) &&& 1) * nI F = nI (if inS x s then F else 0) := by
  unfold inS
  rcases and1 (x >>> (nI s &&& 31)) with e | e
  · rw [e, decide_eq_false (by decide), if_neg (by decide)]
    exact Int32.zero_mul
  · rw [e, decide_eq_true rfl, if_pos rfl]
    exact Int32.one_mul _
theorem l_fb45 {x : Int32} {g : fp_G} {K : Int32 → fp_G → Prop} {E : Int32 → Int32 → fp_G → Prop} {n : Nat} {T L : Nat → Nat} (hn : n ≤ 7) (h3 : g 67 72 = nI n) (hT : ∀ s, s < n → g 120 s = nI (T s) ∧ g 122 s = nI (L s)) (h : E (nI (sX L (inS x) n)) (nI (sX T (inS x) n)) g) : ∀ r j, j + r = n → w_X9_findBest_45 (r + 1) x (nI (sX L (inS x) j)) (nI (sX T (inS x) j)) (nI j) g K E := by
  intro r
  induction r with
  | zero =>
    intro j hj
    have hj : j = n := by omega
    subst hj
    rw [w_X9_findBest_45]
    exact it (end_c h3) h
  | succ r ih =>
    intro j hj
    rw [w_X9_findBest_45]
    have ih2 := ih (j + 1) (by omega)
    refine ie (nend_c h3 (by omega) (by omega)) (rd_v rfl (by omega) (by omega) (hT j (by omega)).2 (rd_v rfl (by omega) (by omega) (hT j (by omega)).1 ?_))
    rw [show nI j + 1 = nI (j + 1) from (nI_succ j).symm, bit_mul, bit_mul, nI_add, nI_add]
    exact ih2
def bstG (g : fp_G) (x y z : Int32) : fp_G := gu (gu (gu g 67 74 x) 67 75 y) 67 76 z
theorem bstG_s (g : fp_G) (a b c x y z : Int32) : bstG (bstG g a b c) x y z = bstG g x y z := by
  funext p q
  unfold bstG
  by_cases h1 : p = 67 ∧ q = 76 <;> by_cases h2 : p = 67 ∧ q = 75 <;> by_cases h3 : p = 67 ∧ q = 74 <;> simp [gu, h1, h2, h3]
theorem l_fb17 {g : fp_G} {K : Int32 → fp_G → Prop} (hC : Cnt g) (hV : VS g) (s120 : g 120 = g 62) (s121 : g 121 = g 63) (s122 : g 122 = g 64)
    (k : ∀ b, b = bsS g → K 0 (bstG g (nI b) (nI (lS g b)) (nI (hS g b)))) : ∀ r j b, j + r = 2 ^ nSa g → bG g r j b = bsS g → w_X9_findBest_17 (r + 1) (nI j) (bstG g (nI b) (nI (lS g b)) (nI (hS g b))) K := by
  obtain ⟨hn, _, h3⟩ := hC.Sa
  have p2 := p2_n hn
  have e3 : ∀ x y z, ((1 : Int32) <<< ((bstG g x y z 67 72) &&& 31)) = nI (2 ^ nSa g) := by intro x y z; show ((1 : Int32) <<< ((g 67 72) &&& 31)) = _; rw [h3]; exact sh_n _ hn
  intro r
  induction r with
  | zero =>
    intro j b hj hb
    have hj : j = 2 ^ nSa g := by omega
    rw [w_X9_findBest_17]
    exact it (by rw [hj]; exact end_c (e3 _ _ _)) (k b hb)
  | succ r ih =>
    intro j b hj hb
    rw [w_X9_findBest_17]
    rw [bG] at hb
    have l1 := lS_le hC hV j
    have l2 := lS_le hC hV b
    have h1 := hS_le hC hV j
    have h2 := hS_le hC hV b
    refine ie (nend_c (e3 _ _ _) (by omega) (by omega)) ?_
    unfold w_X9_canBe
    refine ⟨nSa g + 1, l_cb2 (g := bstG g (nI b) (nI (lS g b)) (nI (hS g b))) hC hV s120 s121 (nSa g) 0 (by show 0 + nSa g = nSa g; omega) (j_I ?_)⟩
    rw [show nI j + 1 = nI (j + 1) from (nI_succ j).symm]
    show if bI (cnF (sT g) (sR g) (inS (nI j)) (nSa g) (nSa g) 0) = 0 then _ else _
    rw [← can_eq hV (inS (nI j))]
    show if bI (okS g j) = 0 then _ else _
    cases c : okS g j <;> rw [c] at hb
    · exact it rfl (ih (j + 1) b (by omega) hb)
    · refine ie (by decide) ⟨nSa g + 1, l_fb45 (g := bstG g (nI b) (nI (lS g b)) (nI (hS g b))) (n := nSa g) (T := sT g) (L := sL g) hn h3 (fun s hs => ⟨show g 120 s = _ by rw [s120]; exact (hV.1 s hs).1.2, show g 122 s = _ by rw [s122]; exact (hV.1 s hs).2.2.2⟩) ?_ (nSa g) 0 (by omega)⟩
      rw [Bool.true_and] at hb
      have stay : btr g j b = false → w_X9_findBest_17 (r + 1) (nI (j + 1)) (bstG g (nI b) (nI (lS g b)) (nI (hS g b))) K := by
        intro z
        rw [z] at hb
        exact ih (j + 1) b (by omega) hb
      have take : btr g j b = true → (fp_pf (bstG g (nI b) (nI (lS g b)) (nI (hS g b))) 67 74 (nI j) fun g7 => fp_pf g7 67 75 (nI (lS g j)) fun g8 => fp_pf g8 67 76 (nI (hS g j)) fun g9 => w_X9_findBest_17 (r + 1) (nI (j + 1)) g9 K) := by
        intro z
        rw [z] at hb
        refine pf_i (pf_i (pf_i ?_))
        show w_X9_findBest_17 (r + 1) (nI (j + 1)) (bstG (bstG g (nI b) (nI (lS g b)) (nI (hS g b))) (nI j) (nI (lS g j)) (nI (hS g j))) K
        rw [bstG_s]
        exact ih (j + 1) j (by omega) hb
      show if nI (lS g j) < nI (lS g b) then _ else _
      refine is (fun d => stay ?_) (fun d => j_I ?_)
      · rw [lt_n (by omega) (by omega)] at d
        unfold btr
        rw [decide_eq_false (by omega), decide_eq_false (p := lS g j = lS g b) (by omega)]
        rfl
      · rw [lt_n (by omega) (by omega)] at d
        show if nI (lS g j) = nI (lS g b) then (if nI (hS g j) < nI (hS g b) then _ else _) else _
        refine is (fun d2 => is (fun d3 => take ?_) (fun d3 => stay ?_)) (fun d2 => take ?_)
        · rw [eq_n (by omega) (by omega)] at d2
          rw [lt_n (by omega) (by omega)] at d3
          unfold btr
          rw [decide_eq_true d2, decide_eq_true d3]
          simp
        · rw [eq_n (by omega) (by omega)] at d2
          rw [lt_n (by omega) (by omega)] at d3
          unfold btr
          rw [decide_eq_false (by omega), decide_eq_false d3, Bool.and_false]
          rfl
        · rw [eq_n (by omega) (by omega)] at d2
          unfold btr
          rw [decide_eq_true (by omega), Bool.true_or]
theorem s0_in : ∀ s, s < 7 → inS (nI 0) s = false := by decide +kernel
theorem sX_zero {F : Nat → Nat} {p : Nat → Bool} : ∀ n, (∀ i, i < n → p i = false) → sX F p n = 0
  | 0, _ => rfl
  | n + 1, h => by
    show sX F p n + (if p n then F n else 0) = 0
    rw [sX_zero n (fun i hi => h i (by omega)), h n (by omega)]
    rfl
theorem s9_findBest {g : fp_G} {K : Int32 → fp_G → Prop} (hC : Cnt g) (hV : VS g) (s120 : g 120 = g 62) (s121 : g 121 = g 63) (s122 : g 122 = g 64) (k : K 0 (bstG g (nI (bsS g)) (nI (lS g (bsS g))) (nI (hS g (bsS g))))) : w_X9_findBest g K := by
  unfold w_X9_findBest
  have p2 := p2_n hC.Sa.1
  refine pf_i (pf_i (pf_i ⟨2 ^ nSa g - 1 + 1, ?_⟩))
  have main := l_fb17 (K := K) hC hV s120 s121 s122 (fun b hb => by rw [hb]; exact k) (2 ^ nSa g - 1) 1 0 (by omega) rfl
  have z : ∀ i, i < nSa g → inS (nI 0) i = false := fun i hi => s0_in i (by have := hC.Sa.1; omega)
  rw [show lS g 0 = 0 from sX_zero _ z, show hS g 0 = 0 from sX_zero _ z] at main
  exact main
theorem c_best {x : Int32} {g : fp_G} {P : Int32 → Int32 → fp_G → Prop} (h : Q g) (hV : VS g) (ok : ∀ r x y z, P r r (bstG g x y z)) (no : ∀ r k, P r r (refG g k)) : w_X8_best x g (fun r g1 => w_X9_best x g1 (fun r2 g2 => P r r2 g2)) := by
  obtain ⟨s120, s121, s122, _⟩ := h.1.2.2.2.2.2.2.2.2.2.2
  unfold w_X8_best
  have z0 : (0 : Int32).toInt = 0 := rfl
  have z2 : (2 : Int32).toInt = 2 := rfl
  have oth : ¬ (0 ≤ x.toInt ∧ x.toInt ≤ 2) → w_X8_refuse (-2) g (fun r g1 => w_X9_best x g1 (fun r2 g2 => P r r2 g2)) := by
    intro c
    refine e_refuse (k := 2) rfl (by decide) ?_
    unfold w_X9_best
    refine e_isIn (l := 0) (h := 2) rfl rfl ?_
    rw [bi_f c]
    exact it rfl (e_no (k := 2) rfl (by decide) (no _ 2))
  refine j_I (is (fun c => oth (by rw [lt_I, z0] at c; omega)) (fun c => is (fun c2 => s7_bestSet h.2.1 hV ?_) (fun c2 => oth (by rw [le_I, z2] at c2; omega))))
  rw [lt_I, z0] at c
  rw [le_I, z2] at c2
  have m9 : ∀ v, v = (if x = 0 then nI (bsS g) else if x = 1 then nI (lS g (bsS g)) else nI (hS g (bsS g))) → w_X9_best x g (fun r2 g2 => P v r2 g2) := by
    intro v hv
    unfold w_X9_best
    refine e_isIn (l := 0) (h := 2) rfl rfl ?_
    rw [bi_t ⟨by omega, by omega⟩]
    refine ie (by decide) (s9_findBest h.2.1 hV s120 s121 s122 ?_)
    refine is (fun d => ?_) (fun d => is (fun d2 => ?_) (fun d2 => ?_))
    · rw [if_pos d] at hv
      rw [hv]
      exact ok _ _ _ _
    · rw [if_neg d, if_pos d2] at hv
      rw [hv]
      exact ok _ _ _ _
    · rw [if_neg d, if_neg d2] at hv
      rw [hv]
      exact ok _ _ _ _
  refine is (fun d => m9 _ (by rw [if_pos d])) (fun d => is (fun d2 => s7_letters h.2.1 hV (m9 _ ?_)) (fun d2 => s7_hours h.2.1 hV (m9 _ ?_)))
  · rw [if_neg d, if_pos d2]
    rfl
  · rw [if_neg d, if_neg d2]
    rfl
/-- how many of the row are made -/
def rmC (g : fp_G) (tk : Int32) (d : Nat) (v : Int32) : Bool := decide (0 ≤ v.toInt) && (decide (v.toInt < nSa g) && (!(inS tk (tn v)) && decide (d + sT g (tn v) ≤ sR g (tn v))))
def rmF (g : fp_G) : Nat → Nat → Int32 → Nat → Nat
  | 0, j, _, _ => j
  | r + 1, j, tk, d => if rmC g tk d (g 66 j) then rmF g r (j + 1) (tk ||| (1 <<< (g 66 j &&& 31))) (d + sT g (tn (g 66 j))) else j
theorem rmF_le (g : fp_G) : ∀ r j tk d, j ≤ rmF g r j tk d ∧ rmF g r j tk d ≤ j + r
  | 0, j, _, _ => ⟨Nat.le_refl _, Nat.le_refl _⟩
  | r + 1, j, tk, d => by
    rw [rmF]
    split
    · have := rmF_le g r (j + 1) (tk ||| (1 <<< (g 66 j &&& 31))) (d + sT g (tn (g 66 j)))
      omega
    · omega
theorem rmC_t {g : fp_G} (hn : nSa g ≤ 7) {tk v : Int32} {d : Nat} (h : rmC g tk d v = true) : ∃ s, s < nSa g ∧ v = nI s ∧ inS tk s = false ∧ d + sT g s ≤ sR g s := by
  unfold rmC at h
  simp only [Bool.and_eq_true, decide_eq_true_eq, Bool.not_eq_true'] at h
  obtain ⟨h1, h2, h3, h4⟩ := h
  obtain ⟨s, es, hs⟩ := nat_of (a := v) (l := 0) (h := 7) (by omega) h1 (by omega)
  rw [es, tn_n (by omega)] at h3 h4
  exact ⟨s, by omega, es, h3, h4⟩
theorem rmF_in (g : fp_G) (hn : nSa g ≤ 7) : ∀ r j tk d i, j ≤ i → i < rmF g r j tk d → ∃ s, s < nSa g ∧ g 66 i = nI s
  | 0, j, _, _, i, h1, h2 => by
    rw [rmF] at h2
    omega
  | r + 1, j, tk, d, i, h1, h2 => by
    rw [rmF] at h2
    cases c : rmC g tk d (g 66 j)
    · rw [c] at h2
      simp at h2
      omega
    · rw [c, if_pos rfl] at h2
      by_cases z : i = j
      · subst z
        obtain ⟨s, hs, e, _⟩ := rmC_t hn c
        exact ⟨s, hs, e⟩
      · exact rmF_in g hn r (j + 1) _ _ i (by omega) h2
def nRo (g : fp_G) : Nat := tn (g 61 6)
theorem Cnt.Ro {g : fp_G} (h : Cnt g) : nRo g ≤ 12 ∧ g 61 6 = nI (nRo g) ∧ g 67 73 = nI (nRo g) := ctr.n h.2.2.2.2.2 (by decide)
theorem l_rowMade {g : fp_G} {K : Int32 → fp_G → Prop} (hC : Cnt g) (hV : VS g) : ∀ r j tk d, j + r = nRo g → d ≤ 999 → K (nI (rmF g r j tk d)) g → w_X7_rowMade_6 (r + 1) tk (nI d) (nI j) g K := by
  obtain ⟨hn, h3, _⟩ := hC.Sa
  obtain ⟨hr, h6, _⟩ := hC.Ro
  intro r
  induction r with
  | zero =>
    intro j tk d hj hd k
    have hj : j = nRo g := by omega
    rw [w_X7_rowMade_6]
    refine it (by rw [hj]; exact end_c h6) ?_
    rw [h6, ← hj]
    exact k
  | succ r ih =>
    intro j tk d hj hd k
    rw [w_X7_rowMade_6]
    rw [rmF] at k
    have bad : rmC g tk d (g 66 j) = false → K (nI j) g := by
      intro z
      rw [z] at k
      exact k
    refine ie (nend_c h6 (by omega) (by omega)) (rd_n (by omega) (by omega) (is (fun c => bad ?_) (fun c => is (fun c2 => bad ?_) (fun c2 => ?_))))
    · rw [lt_I, show (0 : Int32).toInt = 0 from rfl] at c
      unfold rmC
      rw [decide_eq_false (by omega), Bool.false_and]
    · rw [h3, le_I, nI_I (by omega)] at c2
      unfold rmC
      rw [decide_eq_false (p := (g 66 j).toInt < nSa g) (by omega), Bool.false_and, Bool.and_false]
    · rw [lt_I, show (0 : Int32).toInt = 0 from rfl] at c
      rw [h3, le_I, nI_I (by omega)] at c2
      obtain ⟨s, es, hs⟩ := nat_of (a := g 66 j) (l := 0) (h := 7) (by omega) (by omega) (by omega)
      obtain ⟨⟨t1, t2⟩, ⟨r1, r2⟩, _⟩ := hV.1 s (by omega)
      have ec : rmC g tk d (g 66 j) = (!(inS tk s) && decide (d + sT g s ≤ sR g s)) := by
        unfold rmC
        rw [decide_eq_true (p := 0 ≤ (g 66 j).toInt) (by omega), decide_eq_true (p := (g 66 j).toInt < nSa g) (by omega), es, tn_n (by omega)]
        rfl
      rw [ec, es, tn_n (by omega)] at k
      rw [ec] at bad
      rw [es]
      refine s7_isIn ?_
      cases z : inS tk s <;> rw [z] at k bad
      · refine it rfl (rd_v rfl (by omega) (by omega) t2 (rd_v rfl (by omega) (by omega) r2 ?_))
        rw [nI_add]
        refine is (fun c3 => ?_) (fun c3 => bad ?_)
        · rw [le_n (by omega) (by omega)] at c3
          rw [decide_eq_true c3] at k
          rw [show nI j + 1 = nI (j + 1) from (nI_succ j).symm]
          exact ih (j + 1) _ _ (by omega) (by omega) k
        · rw [le_n (by omega) (by omega)] at c3
          rw [decide_eq_false c3]
          rfl
      · exact ie (by decide) (bad rfl)
def rlS (g : fp_G) : Nat → Nat := sN (fun i => sL g (tn (g 66 i)))
theorem s7_rowLetters {g : fp_G} {K : Int32 → fp_G → Prop} {m : Nat} (hC : Cnt g) (hV : VS g) (hm : m ≤ 12) (hin : ∀ i, i < m → ∃ s, s < nSa g ∧ g 66 i = nI s) (k : K (nI (rlS g m)) g) : w_X7_rowLetters (nI m) g K := by
  unfold w_X7_rowLetters
  have hn := hC.Sa.1
  have loop : ∀ r j, j + r = m → w_X7_rowLetters_4 (r + 1) (nI m) (nI (rlS g j)) (nI j) g K := by
    intro r
    induction r with
    | zero =>
      intro j hj
      have hj : j = m := by omega
      subst hj
      rw [w_X7_rowLetters_4]
      exact it (end_c rfl) k
    | succ r ih =>
      intro j hj
      rw [w_X7_rowLetters_4]
      obtain ⟨s, hs, es⟩ := hin j (by omega)
      have ih2 := ih (j + 1) (by omega)
      have e : rlS g (j + 1) = rlS g j + sL g (tn (g 66 j)) := rfl
      rw [e, es, tn_n (by omega)] at ih2
      refine ie (nend_c rfl (by omega) (by omega)) (rd_v rfl (by omega) (by omega) es (rd_v rfl (by omega) (by omega) (hV.1 s hs).2.2.2 ?_))
      rw [show nI j + 1 = nI (j + 1) from (nI_succ j).symm, nI_add]
      exact ih2
  exact ⟨m + 1, loop m 0 (by omega)⟩
def judS (g : fp_G) : Nat := rmF g (nRo g) 0 0 0
theorem l_judge9 {g G : fp_G} {x : Int32} {K : Int32 → fp_G → Prop} (hC : Cnt g) (hV : VS g) (h3 : G 67 72 = nI (nSa g)) (h6 : G 67 73 = nI (nRo g)) (s120 : G 120 = g 62) (s121 : G 121 = g 63) (s122 : G 122 = g 64) (s123 : G 123 = g 66)
    (k : ∀ w, w = (if judS g < nRo g then nI (judS g) else -9) → (if x = 0 then K w G else fp_pf G 67 73 0 fun g2 => w_X9_findBest g2 fun _ g3 => K ((g3 67 75) - nI (rlS g (judS g))) g3)) :
    ∀ r j tk d, j + r = nRo g → d ≤ 999 → rmF g r j tk d = judS g → w_X9_judge_31 (r + 2) x (-9) (nI d) (nI (rlS g j)) tk (nI j) G K := by
  have hn := hC.Sa.1
  have hr := hC.Ro.1
  intro r
  induction r with
  | zero =>
    intro j tk d hj hd e
    rw [rmF] at e
    have hj : j = nRo g := by omega
    rw [w_X9_judge_31]
    refine j_I (it (by rw [hj]; exact end_c h6) ?_)
    have := k (-9) (by rw [if_neg (by omega)])
    rw [e]
    exact this
  | succ r ih =>
    intro j tk d hj hd e
    rw [w_X9_judge_31]
    rw [rmF] at e
    have stop : rmC g tk d (g 66 j) = false → w_X9_judge_31 (r + 2) x (nI j) (nI d) (nI (rlS g j)) tk (nI j + 1) G K := by
      intro z
      rw [z] at e
      have e : j = judS g := e
      rw [w_X9_judge_31]
      have kk := k (nI j) (by rw [if_pos (by omega), e])
      rw [← e] at kk
      refine j_I (is (fun _ => kk) (fun _ => it ?_ kk))
      rw [show (0 : Int32) = nI 0 from rfl, le_n (by omega) (by omega)]
      omega
    refine j_I (ie (nend_c h6 (by omega) (by omega)) (ie (by decide) (rd_v (v := g 66 j) rfl (by omega) (by omega) (by rw [s123]) (e_isIn (l := 0) (h := (nSa g : Int) - 1) rfl (by rw [h3]; exact pred_I (by omega)) (j_I (j_I ?_))))))
    by_cases c : 0 ≤ (g 66 j).toInt ∧ (g 66 j).toInt ≤ (nSa g : Int) - 1
    · rw [bi_t c]
      obtain ⟨s, es, hs⟩ := nat_of (a := g 66 j) (l := 0) (h := 7) (by omega) (by omega) (by omega)
      obtain ⟨⟨t1, t2⟩, ⟨r1, r2⟩, ⟨l1, l2⟩⟩ := hV.1 s (by omega)
      have ec : rmC g tk d (g 66 j) = (!(inS tk s) && decide (d + sT g s ≤ sR g s)) := by
        unfold rmC
        rw [decide_eq_true (p := 0 ≤ (g 66 j).toInt) (by omega), decide_eq_true (p := (g 66 j).toInt < nSa g) (by omega), es, tn_n (by omega)]
        rfl
      have e' : rlS g (j + 1) = rlS g j + sL g s := by
        show rlS g j + sL g (tn (g 66 j)) = _
        rw [es, tn_n (by omega)]
      rw [ec, es, tn_n (by omega)] at e
      rw [ec] at stop
      rw [es]
      refine ie (by decide) (is (fun c2 => stop ?_) (fun c2 => rd_v (v := nI (sT g s)) rfl (by omega) (by omega) (by rw [s120]; exact t2) (rd_v (v := nI (sR g s)) rfl (by omega) (by omega) (by rw [s121]; exact r2) ?_)))
      · rw [show inS tk s = true from decide_eq_true c2]
        rfl
      · have z : inS tk s = false := decide_eq_false c2
        rw [z] at e stop
        rw [nI_add]
        refine is (fun c3 => rd_v (v := nI (sT g s)) rfl (by omega) (by omega) (by rw [s120]; exact t2) (rd_v (v := nI (sL g s)) rfl (by omega) (by omega) (by rw [s122]; exact l2) ?_)) (fun c3 => stop ?_)
        · rw [le_n (by omega) (by omega)] at c3
          rw [decide_eq_true c3] at e
          have ih2 := ih (j + 1) (tk ||| (1 <<< (nI s &&& 31))) (d + sT g s) (by omega) (by omega) e
          rw [e'] at ih2
          rw [show nI j + 1 = nI (j + 1) from (nI_succ j).symm, nI_add, nI_add]
          exact ih2
        · rw [le_n (by omega) (by omega)] at c3
          rw [decide_eq_false c3]
          rfl
    · rw [bi_f c]
      refine it rfl (stop ?_)
      unfold rmC
      by_cases c1 : 0 ≤ (g 66 j).toInt
      · rw [decide_eq_false (p := (g 66 j).toInt < nSa g) (by omega), Bool.false_and, Bool.and_false]
      · rw [decide_eq_false c1, Bool.false_and]
theorem bG_z (g : fp_G) : ∀ r j b, bG (gu (gu g 61 6 0) 67 73 0) r j b = bG g r j b
  | 0, _, _ => rfl
  | r + 1, j, b => by
    rw [bG, bG, bG_z g r, show okS (gu (gu g 61 6 0) 67 73 0) = okS g from rfl, show btr (gu (gu g 61 6 0) 67 73 0) = btr g from rfl]
theorem bsS_z (g : fp_G) : bsS (gu (gu g 61 6 0) 67 73 0) = bsS g := by
  unfold bsS
  rw [bG_z, show nSa (gu (gu g 61 6 0) 67 73 0) = nSa g from rfl]
theorem c_judge {x : Int32} {g : fp_G} {P : Int32 → Int32 → fp_G → Prop} (h : Q g) (hV : VS g) (ok : ∀ r, P r r g) (ok2 : ∀ r x y z, P r r (bstG (gu (gu g 61 6 0) 67 73 0) x y z)) (no : ∀ r k, P r r (refG g k)) : w_X8_judge x g (fun r g1 => w_X9_judge x g1 (fun r2 g2 => P r r2 g2)) := by
  obtain ⟨s120, s121, s122, s123⟩ := h.1.2.2.2.2.2.2.2.2.2.2
  obtain ⟨hr, h6, hk6⟩ := h.2.1.Ro
  have hn := h.2.1.Sa.1
  have hle := rmF_le g (nRo g) 0 0 0
  have hle : judS g ≤ nRo g := by have := hle.2; unfold judS; omega
  have hin := rmF_in g hn (nRo g) 0 0 0
  unfold w_X8_judge
  have main : (x = 0 ∨ x = 1) → (w_X7_rowMade g fun v1 g1 => if x = 0 then (if (g1 61 6) ≤ v1 then w_X9_judge x g1 (fun r2 g2 => P (-9) r2 g2) else w_X9_judge x g1 (fun r2 g2 => P v1 r2 g2)) else w_X7_bestSet g1 fun v2 g2 => w_X7_lettersOf v2 g2 fun v3 g3 => w_X7_rowLetters v1 g3 fun v4 g4 => fp_pf g4 61 6 0 fun g5 => w_X9_judge x g5 (fun r2 g2 => P (v3 - v4) r2 g2)) := by
    intro hx
    unfold w_X7_rowMade
    refine ⟨nRo g + 1, l_rowMade h.2.1 hV (nRo g) 0 0 0 (by omega) (by omega) ?_⟩
    show if x = 0 then (if g 61 6 ≤ nI (judS g) then _ else _) else _
    by_cases c0 : x = 0
    · refine it c0 ?_
      have m9 : ∀ v, v = (if judS g < nRo g then nI (judS g) else -9) → w_X9_judge x g (fun r2 g2 => P v r2 g2) := by
        intro v hv
        unfold w_X9_judge
        refine e_isIn (l := 0) (h := 1) rfl rfl ?_
        rw [bi_t (by rw [c0]; decide)]
        refine ie (by decide) ⟨nRo g + 2, l_judge9 (G := g) h.2.1 hV h.2.1.Sa.2.2 hk6 s120 s121 s122 s123 (fun w hw => ?_) (nRo g) 0 0 0 (by omega) (by omega) rfl⟩
        refine it c0 ?_
        rw [hv, hw]
        exact ok _
      rw [h6]
      refine is (fun c => m9 _ ?_) (fun c => m9 _ ?_)
      · rw [le_n (by omega) (by omega)] at c
        rw [if_neg (by omega)]
      · rw [le_n (by omega) (by omega)] at c
        rw [if_pos (by omega)]
        rfl
    · have c1 : x = 1 := hx.elim (fun z => absurd z c0) id
      refine ie c0 (s7_bestSet h.2.1 hV (s7_letters h.2.1 hV (s7_rowLetters h.2.1 hV (by omega) (fun i hi => hin i (by omega) hi) (pf_i ?_))))
      unfold w_X9_judge
      refine e_isIn (l := 0) (h := 1) rfl rfl ?_
      rw [bi_t (by rw [c1]; decide)]
      refine ie (by decide) ⟨nRo g + 2, l_judge9 (g := g) (G := gu g 61 6 0) h.2.1 hV h.2.1.Sa.2.2 hk6 s120 s121 s122 s123 (fun w hw => ie c0 (pf_i ?_)) (nRo g) 0 0 0 (by omega) (by omega) rfl⟩
      have hC2 : Cnt (gu (gu g 61 6 0) 67 73 0) := ⟨h.2.1.1, h.2.1.2.1, h.2.1.2.2.1, h.2.1.2.2.2.1, h.2.1.2.2.2.2.1, rfl, 0, by omega, rfl⟩
      refine s9_findBest hC2 hV s120 s121 s122 ?_
      rw [bsS_z g]
      exact ok2 _ _ _ _
  refine j_I (is (fun c => main (Or.inl c)) (fun c => is (fun c2 => main (Or.inr c2)) (fun c2 => e_refuse (k := 2) rfl (by decide) ?_)))
  unfold w_X9_judge
  refine e_isIn (l := 0) (h := 1) rfl rfl ?_
  rw [bi_f (fun z => ?_)]
  · exact it rfl (e_no (k := 2) rfl (by decide) (no _ 2))
  · rw [eq_I, show (0 : Int32).toInt = 0 from rfl] at c
    rw [eq_I, show (1 : Int32).toInt = 1 from rfl] at c2
    omega
