/-! ===== the shed: which sets can be made ===== -/
def sN (F : Nat → Nat) : Nat → Nat
  | 0 => 0
  | n + 1 => sN F n + F n
theorem sN_cong {F G : Nat → Nat} : ∀ n, (∀ i, i < n → F i = G i) → sN F n = sN G n
  | 0, _ => rfl
  | n + 1, h => by rw [sN, sN, sN_cong n (fun i hi => h i (by omega)), h n (by omega)]
theorem sN_cut {F : Nat → Nat} (i : Nat) : ∀ n, i < n → (∀ q, i < q → q < n → F q = 0) → sN F n = sN F (i + 1)
  | 0, h, _ => absurd h (by omega)
  | n + 1, h, z => by
    by_cases c : i = n
    · subst c
      rfl
    · rw [sN, z n (by omega) (by omega), sN_cut i n (by omega) (fun q h1 h2 => z q h1 (by omega))]
      rfl
theorem sN_le {F : Nat → Nat} (b : Nat) : ∀ n, (∀ i, i < n → F i ≤ b) → sN F n ≤ n * b
  | 0, _ => by simp [sN]
  | n + 1, h => by
    have h1 := sN_le b n (fun i hi => h i (by omega))
    have h2 := h n (by omega)
    rw [sN, Nat.succ_mul]
    omega
theorem sN_pos {F : Nat → Nat} : ∀ n, sN F n ≠ 0 → ∃ i, i < n ∧ F i ≠ 0
  | 0, h => absurd rfl h
  | n + 1, h => by
    by_cases c : F n = 0
    · rw [sN, c, Nat.add_zero] at h
      obtain ⟨i, hi, e⟩ := sN_pos n h
      exact ⟨i, by omega, e⟩
    · exact ⟨n, by omega, c⟩
theorem sN_one (k : Nat) : ∀ n, k < n → sN (fun j => if j = k then 1 else 0) n ≠ 0
  | 0, h => absurd h (by omega)
  | n + 1, h => by
    rw [sN]
    by_cases c : n = k
    · rw [if_pos c]
      omega
    · have := sN_one k n (by omega)
      omega
def inS (x : Int32) (s : Nat) : Bool := decide ((x >>> (nI s &&& 31)) &&& 1 = 1)
theorem and1 (y : Int32) : (y &&& 1) = 0 ∨ (y &&& 1) = 1 := by
  have h : (y &&& 1).toBitVec = y.toBitVec &&& 1#32 := rfl
  have : y.toBitVec &&& 1#32 = 0#32 ∨ y.toBitVec &&& 1#32 = 1#32 := by
    rw [BitVec.and_one_eq_setWidth_ofBool_getLsbD]
    cases y.toBitVec.getLsbD 0
    · exact Or.inl rfl
    · exact Or.inr rfl
  rcases this with e | e
  · left
    rw [← Int32.toBitVec_inj, h, e]
    rfl
  · right
    rw [← Int32.toBitVec_inj, h, e]
    rfl
def sX (F : Nat → Nat) (p : Nat → Bool) : Nat → Nat := sN (fun i => if p i then F i else 0)
def nSa (g : fp_G) : Nat := tn (g 61 3)
def sT (g : fp_G) (s : Nat) : Nat := tn (g 62 s)
def sR (g : fp_G) (s : Nat) : Nat := tn (g 63 s)
def sL (g : fp_G) (s : Nat) : Nat := tn (g 64 s)
def sB (g : fp_G) (s : Nat) : Nat := tn (g 65 s)
def lexl (R : Nat → Nat) (a b : Nat) : Prop := R a < R b ∨ (R a = R b ∧ a < b)
def VS (g : fp_G) : Prop :=
  (∀ s, s < nSa g → (sT g s ≤ 99 ∧ g 62 s = nI (sT g s)) ∧ (sR g s ≤ 999 ∧ g 63 s = nI (sR g s)) ∧ sL g s ≤ 9999 ∧ g 64 s = nI (sL g s)) ∧
  (∀ i, i < nSa g → sB g i < nSa g ∧ g 65 i = nI (sB g i)) ∧
  (∀ i j, i < j → j < nSa g → lexl (sR g) (sB g i) (sB g j)) ∧
  (∀ F : Nat → Nat, sN (fun i => F (sB g i)) (nSa g) = sN F (nSa g))
theorem Cnt.Sa {g : fp_G} (h : Cnt g) : nSa g ≤ 7 ∧ g 61 3 = nI (nSa g) ∧ g 67 72 = nI (nSa g) := ctr.n h.2.2.2.2.1 (by decide)
theorem s7_isIn {x : Int32} {s : Nat} {g : fp_G} {K : Int32 → fp_G → Prop} (k : K (bI (inS x s)) g) : w_X7_isIn (nI s) x g K := by
  unfold w_X7_isIn
  unfold inS at k
  refine is (fun c => ?_) (fun c => ?_)
  · rw [decide_eq_true c] at k
    exact k
  · rw [decide_eq_false c] at k
    exact k
theorem sX_le {F : Nat → Nat} {p : Nat → Bool} {b n : Nat} (h : ∀ i, i < n → F i ≤ b) : sX F p n ≤ n * b := by
  unfold sX
  refine sN_le b n (fun i hi => ?_)
  have := h i hi
  split <;> omega
theorem l_sumOf {x : Int32} {g : fp_G} {K : Int32 → fp_G → Prop} {a n b : Nat} {F : Nat → Nat} (hn : n ≤ 7) (h3 : g 61 3 = nI n) (hF : ∀ s, s < n → F s ≤ b ∧ g a s = nI (F s)) (k : K (nI (sX F (inS x) n)) g) : ∀ r j, j + r = n → w_X7_sumOf_5 (r + 1) a x (nI (sX F (inS x) j)) (nI j) g K := by
  intro r
  induction r with
  | zero =>
    intro j hj
    have hj : j = n := by omega
    subst hj
    rw [w_X7_sumOf_5]
    exact it (end_c h3) k
  | succ r ih =>
    intro j hj
    rw [w_X7_sumOf_5]
    have ih2 := ih (j + 1) (by omega)
    have e : sX F (inS x) (j + 1) = sX F (inS x) j + (if inS x j then F j else 0) := rfl
    rw [e] at ih2
    refine ie (nend_c h3 (by omega) (by omega)) (s7_isIn (j_I ?_))
    rw [show nI j + 1 = nI (j + 1) from (nI_succ j).symm]
    cases c : inS x j <;> rw [c] at ih2
    · exact it rfl ih2
    · refine ie (by decide) (rd_v rfl (by omega) (by omega) (hF j (by omega)).2 ?_)
      rw [nI_add]
      exact ih2
theorem s7_sumOf {x : Int32} {g : fp_G} {K : Int32 → fp_G → Prop} {a n b : Nat} {F : Nat → Nat} (hn : n ≤ 7) (h3 : g 61 3 = nI n) (hF : ∀ s, s < n → F s ≤ b ∧ g a s = nI (F s)) (k : K (nI (sX F (inS x) n)) g) : w_X7_sumOf a x g K := by
  unfold w_X7_sumOf
  exact ⟨n + 1, l_sumOf hn h3 hF k n 0 (by omega)⟩
theorem s7_letters {x : Int32} {g : fp_G} {K : Int32 → fp_G → Prop} (hC : Cnt g) (hV : VS g) (k : K (nI (sX (sL g) (inS x) (nSa g))) g) : w_X7_lettersOf x g K := by
  unfold w_X7_lettersOf
  exact s7_sumOf (b := 9999) hC.Sa.1 hC.Sa.2.1 (fun s hs => (hV.1 s hs).2.2) k
theorem s7_hours {x : Int32} {g : fp_G} {K : Int32 → fp_G → Prop} (hC : Cnt g) (hV : VS g) (k : K (nI (sX (sT g) (inS x) (nSa g))) g) : w_X7_hoursOf x g K := by
  unfold w_X7_hoursOf
  exact s7_sumOf (b := 99) hC.Sa.1 hC.Sa.2.1 (fun s hs => (hV.1 s hs).1) k
/-- hours of the set among the first i by trains -/
def preB (B T : Nat → Nat) (p : Nat → Bool) : Nat → Nat := sN (fun q => if p (B q) then T (B q) else 0)
def cbF (B T R : Nat → Nat) (p : Nat → Bool) : Nat → Nat → Bool
  | 0, _ => true
  | r + 1, j => if p (B j) then (if preB B T p (j + 1) ≤ R (B j) then cbF B T R p r (j + 1) else false) else cbF B T R p r (j + 1)
theorem cbF_iff (B T R : Nat → Nat) (p : Nat → Bool) : ∀ r j, cbF B T R p r j = true ↔ ∀ i, j ≤ i → i < j + r → p (B i) = true → preB B T p (i + 1) ≤ R (B i)
  | 0, j => ⟨fun _ i h1 h2 => absurd h2 (by omega), fun _ => rfl⟩
  | r + 1, j => by
    rw [cbF]
    have ih := cbF_iff B T R p r (j + 1)
    cases c : p (B j)
    · simp only [Bool.false_eq_true, if_false]
      rw [ih]
      constructor
      · intro h i h1 h2 h3
        by_cases z : i = j
        · subst z
          rw [c] at h3
          cases h3
        · exact h i (by omega) (by omega) h3
      · exact fun h i h1 h2 h3 => h i (by omega) (by omega) h3
    · simp only [if_true]
      by_cases d : preB B T p (j + 1) ≤ R (B j)
      · rw [if_pos d, ih]
        constructor
        · intro h i h1 h2 h3
          by_cases z : i = j
          · subst z
            exact d
          · exact h i (by omega) (by omega) h3
        · exact fun h i h1 h2 h3 => h i (by omega) (by omega) h3
      · rw [if_neg d]
        constructor
        · intro h
          cases h
        · exact fun h => absurd (h j (by omega) (by omega) c) d
theorem l_canBeMade {x : Int32} {g : fp_G} {K : Int32 → fp_G → Prop} (hC : Cnt g) (hV : VS g) : ∀ r j, j + r = nSa g → K (bI (cbF (sB g) (sT g) (sR g) (inS x) r j)) g → w_X7_canBeMade_4 (r + 1) x (nI (preB (sB g) (sT g) (inS x) j)) (nI j) g K := by
  obtain ⟨hn, h3, _⟩ := hC.Sa
  have bd : ∀ j, j ≤ nSa g → preB (sB g) (sT g) (inS x) j ≤ j * 99 := by
    intro j hj
    refine sN_le 99 j (fun i hi => ?_)
    have := (hV.1 (sB g i) (hV.2.1 i (by omega)).1).1.1
    split <;> omega
  intro r
  induction r with
  | zero =>
    intro j hj k
    have hj : j = nSa g := by omega
    rw [w_X7_canBeMade_4]
    exact it (by rw [hj]; exact end_c h3) k
  | succ r ih =>
    intro j hj k
    rw [w_X7_canBeMade_4]
    obtain ⟨hb, eb⟩ := hV.2.1 j (by omega)
    obtain ⟨⟨t1, t2⟩, ⟨r1, r2⟩, _⟩ := hV.1 (sB g j) hb
    have ih2 := ih (j + 1) (by omega)
    have b1 := bd j (by omega)
    rw [cbF] at k
    have e : preB (sB g) (sT g) (inS x) (j + 1) = preB (sB g) (sT g) (inS x) j + (if inS x (sB g j) then sT g (sB g j) else 0) := rfl
    refine ie (nend_c h3 (by omega) (by omega)) (rd_v rfl (by omega) (by omega) eb (s7_isIn (j_I ?_)))
    rw [show nI j + 1 = nI (j + 1) from (nI_succ j).symm]
    cases c : inS x (sB g j) <;> rw [c] at k e
    · rw [e] at ih2
      exact it rfl (ih2 k)
    · rw [if_pos rfl] at e
      refine ie (by decide) (rd_v rfl (by omega) (by omega) t2 (rd_v rfl (by omega) (by omega) r2 ?_))
      rw [nI_add, ← e]
      rw [if_pos rfl] at k
      refine is (fun d => ?_) (fun d => ?_)
      · rw [le_n (by omega) (by omega)] at d
        rw [if_pos d] at k
        exact ih2 k
      · rw [le_n (by omega) (by omega)] at d
        rw [if_neg d] at k
        exact k
/-- what the reference counts ahead of sack k -/
def ahd (R : Nat → Nat) (k j : Nat) : Bool := decide (R j < R k) || (decide (R j = R k) && decide (j ≤ k))
def dnB (T R : Nat → Nat) (p : Nat → Bool) (k : Nat) : Nat → Nat := sN (fun j => if p j && ahd R k j then T j else 0)
theorem l_cb15 {x : Int32} {g : fp_G} {K : Int32 → fp_G → Prop} {E : Int32 → fp_G → Prop} {k : Nat} (hC : Cnt g) (hV : VS g) (s120 : g 120 = g 62) (s121 : g 121 = g 63) (hk : k < nSa g) (h : E (nI (dnB (sT g) (sR g) (inS x) k (nSa g))) g) : ∀ r j, j + r = nSa g → w_X9_canBe_15 (r + 1) x (nI k) (nI (dnB (sT g) (sR g) (inS x) k j)) (nI j) g K E := by
  obtain ⟨hn, _, h3⟩ := hC.Sa
  obtain ⟨_, ⟨k1, k2⟩, _⟩ := hV.1 k hk
  have k2' : g 121 k = nI (sR g k) := by rw [s121]; exact k2
  intro r
  induction r with
  | zero =>
    intro j hj
    have hj : j = nSa g := by omega
    rw [w_X9_canBe_15]
    refine it (by rw [hj]; exact end_c h3) ?_
    rw [hj]
    exact h
  | succ r ih =>
    intro j hj
    rw [w_X9_canBe_15]
    obtain ⟨⟨t1, t2⟩, ⟨r1, r2⟩, _⟩ := hV.1 j (by omega)
    have r2' : g 121 j = nI (sR g j) := by rw [s121]; exact r2
    have t2' : g 120 j = nI (sT g j) := by rw [s120]; exact t2
    have ih2 := ih (j + 1) (by omega)
    have e : dnB (sT g) (sR g) (inS x) k (j + 1) = dnB (sT g) (sR g) (inS x) k j + (if inS x j && ahd (sR g) k j then sT g j else 0) := rfl
    rw [e] at ih2
    have nx : ∀ z : Int32, (z = 0 ↔ ahd (sR g) k j = false) → (fp_j (fun (z0j96 : Int32) => w_X9_canBe_15 (r + 1) x (nI k) ((nI (dnB (sT g) (sR g) (inS x) k j)) + z0j96) (nI j + 1) g K E) fun J96 => fp_j (J96 0) fun J95 => if ((x >>> (nI j &&& 31)) &&& 1) = 1 then (if z = 0 then J95 else fp_rd (g 120) 7 (nI j) fun v3 => J96 v3) else J95) := by
      intro z hz
      refine j_I (j_I ?_)
      rw [show nI j + 1 = nI (j + 1) from (nI_succ j).symm]
      have zero : (inS x j && ahd (sR g) k j) = false → w_X9_canBe_15 (r + 1) x (nI k) ((nI (dnB (sT g) (sR g) (inS x) k j)) + 0) (nI (j + 1)) g K E := by
        intro y
        rw [y] at ih2
        rw [Int32.add_zero]
        exact ih2
      refine is (fun c => is (fun c2 => zero ?_) (fun c2 => rd_v rfl (by omega) (by omega) t2' ?_)) (fun c => zero ?_)
      · rw [hz.mp c2, Bool.and_false]
      · have a1 : ahd (sR g) k j = true := by
          cases y : ahd (sR g) k j
          · exact absurd (hz.mpr y) c2
          · rfl
        have a2 : inS x j = true := decide_eq_true c
        rw [a1, a2] at ih2
        show w_X9_canBe_15 (r + 1) x (nI k) ((nI (dnB (sT g) (sR g) (inS x) k j)) + nI (sT g j)) (nI (j + 1)) g K E
        rw [nI_add]
        exact ih2
      · have a2 : inS x j = false := decide_eq_false c
        rw [a2, Bool.false_and]
    have n1 : ((1 : Int32) = 0) ↔ False := ⟨fun z => absurd z (by decide), False.elim⟩
    refine ie (nend_c h3 (by omega) (by omega)) (rd_v rfl (by omega) (by omega) r2' (rd_v rfl (by omega) (by omega) k2' (j_I (j_I (is (fun c => nx 1 ?_) (fun c => rd_v rfl (by omega) (by omega) r2' (rd_v rfl (by omega) (by omega) k2' (j_I (is (fun c2 => is (fun c3 => nx 0 ?_) (fun c3 => nx 1 ?_)) (fun c2 => nx 0 ?_))))))))))
    · rw [lt_n (by omega) (by omega)] at c
      unfold ahd
      rw [decide_eq_true c, n1]
      simp
    · rw [lt_n (by omega) (by omega)] at c c3
      unfold ahd
      rw [decide_eq_false c, decide_eq_false (p := j ≤ k) (by omega)]
      simp
    · rw [lt_n (by omega) (by omega)] at c c3
      rw [eq_n (by omega) (by omega)] at c2
      unfold ahd
      rw [decide_eq_true c2, decide_eq_true (p := j ≤ k) (by omega), n1]
      simp
    · rw [lt_n (by omega) (by omega)] at c
      rw [eq_n (by omega) (by omega)] at c2
      unfold ahd
      rw [decide_eq_false c, decide_eq_false c2]
      simp
def cnF (T R : Nat → Nat) (p : Nat → Bool) (n : Nat) : Nat → Nat → Bool
  | 0, _ => true
  | r + 1, k => if p k then (if dnB T R p k n ≤ R k then cnF T R p n r (k + 1) else false) else cnF T R p n r (k + 1)
theorem cnF_iff (T R : Nat → Nat) (p : Nat → Bool) (n : Nat) : ∀ r j, cnF T R p n r j = true ↔ ∀ k, j ≤ k → k < j + r → p k = true → dnB T R p k n ≤ R k
  | 0, j => ⟨fun _ i h1 h2 => absurd h2 (by omega), fun _ => rfl⟩
  | r + 1, j => by
    rw [cnF]
    have ih := cnF_iff T R p n r (j + 1)
    cases c : p j
    · simp only [Bool.false_eq_true, if_false]
      rw [ih]
      constructor
      · intro h i h1 h2 h3
        by_cases z : i = j
        · subst z
          rw [c] at h3
          cases h3
        · exact h i (by omega) (by omega) h3
      · exact fun h i h1 h2 h3 => h i (by omega) (by omega) h3
    · simp only [if_true]
      by_cases d : dnB T R p j n ≤ R j
      · rw [if_pos d, ih]
        constructor
        · intro h i h1 h2 h3
          by_cases z : i = j
          · subst z
            exact d
          · exact h i (by omega) (by omega) h3
        · exact fun h i h1 h2 h3 => h i (by omega) (by omega) h3
      · rw [if_neg d]
        constructor
        · intro h
          cases h
        · exact fun h => absurd (h j (by omega) (by omega) c) d
theorem dnB_le {T R : Nat → Nat} {p : Nat → Bool} {k n : Nat} (h : ∀ i, i < n → T i ≤ 99) : dnB T R p k n ≤ n * 99 := by
  refine sN_le 99 n (fun i hi => ?_)
  have := h i hi
  split <;> omega
theorem l_cb2 {x : Int32} {g : fp_G} {K : Int32 → fp_G → Prop} (hC : Cnt g) (hV : VS g) (s120 : g 120 = g 62) (s121 : g 121 = g 63) : ∀ r k, k + r = nSa g → K (bI (cnF (sT g) (sR g) (inS x) (nSa g) r k)) g → w_X9_canBe_2 (r + 1) x (nI k) g K := by
  obtain ⟨hn, _, h3⟩ := hC.Sa
  intro r
  induction r with
  | zero =>
    intro j hj k
    have hj : j = nSa g := by omega
    rw [w_X9_canBe_2]
    exact it (by rw [hj]; exact end_c h3) k
  | succ r ih =>
    intro j hj k
    rw [w_X9_canBe_2]
    obtain ⟨_, ⟨r1, r2⟩, _⟩ := hV.1 j (by omega)
    have r2' : g 121 j = nI (sR g j) := by rw [s121]; exact r2
    have bd : dnB (sT g) (sR g) (inS x) j (nSa g) ≤ nSa g * 99 := dnB_le (fun i hi => (hV.1 i hi).1.1)
    rw [cnF] at k
    refine ie (nend_c h3 (by omega) (by omega)) ⟨nSa g + 1, l_cb15 (k := j) hC hV s120 s121 (by omega) (j_I ?_) (nSa g) 0 (by omega)⟩
    rw [show nI j + 1 = nI (j + 1) from (nI_succ j).symm]
    refine is (fun c => rd_v rfl (by omega) (by omega) r2' ?_) (fun c => ih (j + 1) (by omega) ?_)
    · have a2 : inS x j = true := decide_eq_true c
      rw [a2, if_pos rfl] at k
      refine is (fun d => ih (j + 1) (by omega) ?_) (fun d => ?_)
      · rw [le_n (by omega) (by omega)] at d
        rw [if_pos d] at k
        exact k
      · rw [le_n (by omega) (by omega)] at d
        rw [if_neg d] at k
        exact k
    · have a2 : inS x j = false := decide_eq_false c
      rw [a2] at k
      exact k
theorem can_eq {g : fp_G} (hV : VS g) (p : Nat → Bool) : cbF (sB g) (sT g) (sR g) p (nSa g) 0 = cnF (sT g) (sR g) p (nSa g) (nSa g) 0 := by
  obtain ⟨h1, h2, h3, h4⟩ := hV
  have key : ∀ i, i < nSa g → preB (sB g) (sT g) p (i + 1) = dnB (sT g) (sR g) p (sB g i) (nSa g) := by
    intro i hi
    unfold dnB
    rw [← h4 (fun j => if p j && ahd (sR g) (sB g i) j then sT g j else 0)]
    rw [sN_cut i (nSa g) hi ?_]
    · refine sN_cong (i + 1) (fun q hq => ?_)
      have : ahd (sR g) (sB g i) (sB g q) = true := by
        unfold ahd
        by_cases z : q = i
        · subst z
          simp
        · rcases h3 q i (by omega) hi with y | ⟨y1, y2⟩
          · rw [decide_eq_true y, Bool.true_or]
          · rw [decide_eq_true y1, decide_eq_true (p := sB g q ≤ sB g i) (by omega)]
            simp
      rw [this, Bool.and_true]
    · intro q hq hq2
      have : ahd (sR g) (sB g i) (sB g q) = false := by
        unfold ahd
        rcases h3 i q hq hq2 with y | ⟨y1, y2⟩
        · rw [decide_eq_false (by omega), decide_eq_false (p := sR g (sB g q) = sR g (sB g i)) (by omega)]
          rfl
        · rw [decide_eq_false (by omega), decide_eq_false (p := sB g q ≤ sB g i) (by omega), Bool.and_false]
          rfl
      rw [this, Bool.and_false]
      rfl
  have sur : ∀ k, k < nSa g → ∃ i, i < nSa g ∧ sB g i = k := by
    intro k hk
    have h5 := sN_one k (nSa g) hk
    rw [← h4 (fun j => if j = k then 1 else 0)] at h5
    obtain ⟨i, hi, e⟩ := sN_pos _ h5
    refine ⟨i, hi, ?_⟩
    by_cases z : sB g i = k
    · exact z
    · rw [if_neg z] at e
      exact absurd rfl e
  have e : cbF (sB g) (sT g) (sR g) p (nSa g) 0 = true ↔ cnF (sT g) (sR g) p (nSa g) (nSa g) 0 = true := by
    rw [cbF_iff, cnF_iff]
    constructor
    · intro h k _ hk hp
      obtain ⟨i, hi, e⟩ := sur k (by omega)
      subst e
      rw [← key i hi]
      exact h i (by omega) (by omega) hp
    · intro h i _ hi hp
      rw [key i (by omega)]
      exact h (sB g i) (by omega) (by have := (h2 i (by omega)).1; omega) hp
  exact Bool.eq_iff_iff.mpr e
