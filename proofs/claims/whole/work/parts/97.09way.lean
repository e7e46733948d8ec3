/-! ===== way: FAR is brought up to date in one round ===== -/
def shM (a b l : Nat) (T : Nat → Nat) (i j : Nat) : Nat := min (T (12 * i + a) + l + T (12 * b + j)) (T (12 * i + b) + l + T (12 * a + j))
def shx (a b l : Nat) (T : Nat → Nat) (i j : Nat) : Nat → Nat := fun k => if k = 12 * i + j ∧ shM a b l T i j < T k then shM a b l T i j else T k
def shR (a b l : Nat) (T : Nat → Nat) (i : Nat) : Nat → Nat → Nat
  | 0 => T
  | n + 1 => shx a b l (shR a b l T i n) i n
def shF (a b l no : Nat) (T : Nat → Nat) : Nat → Nat → Nat
  | 0 => T
  | n + 1 => shR a b l (shF a b l no T n) n no
theorem shx_le (a b l : Nat) (T : Nat → Nat) (i j k : Nat) : shx a b l T i j k ≤ T k := by
  unfold shx
  split <;> omega
theorem shR_le (a b l : Nat) (T : Nat → Nat) (i k : Nat) : ∀ n, shR a b l T i n k ≤ T k
  | 0 => Nat.le_refl _
  | n + 1 => Nat.le_trans (shx_le _ _ _ _ _ _ _) (shR_le a b l T i k n)
theorem shF_le (a b l no : Nat) (T : Nat → Nat) (k : Nat) : ∀ n, shF a b l no T n k ≤ T k
  | 0 => Nat.le_refl _
  | n + 1 => Nat.le_trans (shR_le _ _ _ _ _ _ _) (shF_le a b l no T k n)
theorem s2_farT {g : fp_G} {K : Int32 → fp_G → Prop} {f : Nat → Int32} {T : Nat → Nat} {a b : Nat} (h : repT f T) (ha : a < 12) (hb : b < 12) (k : K (nI (T (12 * a + b))) (gc g 9 f)) : w_X2_farBetween (nI a) (nI b) (gc g 9 f) K := by
  unfold w_X2_farBetween
  refine rd_v (k := 12 * a + b) ?_ (by omega) (by omega) (show gc g 9 f 9 (12 * a + b) = _ from h _ (by omega)) k
  rw [show (12 : Int32) = nI 12 from rfl, ix_mul]
theorem min_n {x y : Nat} (hx : x < 2 ^ 31) (hy : y < 2 ^ 31) : (if nI x < nI y then nI x else nI y) = nI (min y x) := by
  by_cases c : x < y
  · rw [if_pos ((lt_n hx hy).mpr c), show min y x = x by omega]
  · rw [if_neg (fun z => c ((lt_n hx hy).mp z)), show min y x = y by omega]
theorem l_sh15 {g : fp_G} {K : Int32 → fp_G → Prop} {E : fp_G → Prop} {T : Nat → Nat} {a b l i no : Nat} (hno : no ≤ 12) (h3 : g 6 3 = nI no) (ha : a < no) (hb : b < no) (hl : l ≤ 48) (hi : i < no) (hT : Bd6 T)
    (k : ∀ f, repT f (shR a b l T i no) → E (gc g 9 f)) : ∀ r j f, j + r = no → repT f (shR a b l T i j) → w_X2_shorten_15 (r + 1) (nI a) (nI b) (nI l) (nI i) (nI j) (gc g 9 f) K E := by
  intro r
  induction r with
  | zero =>
    intro j f hj h
    have hj : j = no := by omega
    subst hj
    rw [w_X2_shorten_15]
    exact it (end_c (a := gc g 9 f 6 3) h3) (k f h)
  | succ r ih =>
    intro j f hj h
    rw [w_X2_shorten_15]
    have bT : ∀ k, k < 144 → shR a b l T i j k ≤ 1000000 := fun k hk => Nat.le_trans (shR_le _ _ _ _ _ _ _) (hT k hk)
    have b1 := bT (12 * i + a) (by omega)
    have b2 := bT (12 * b + j) (by omega)
    have b3 := bT (12 * i + b) (by omega)
    have b4 := bT (12 * a + j) (by omega)
    have b5 := bT (12 * i + j) (by omega)
    refine ie (nend_c (a := gc g 9 f 6 3) h3 (by omega) (by omega)) (s2_farT h (by omega) (by omega) (s2_farT h (by omega) (by omega) (s2_farT h (by omega) (by omega) (s2_farT h (by omega) (by omega) (s2_farT h (by omega) (by omega) (j_I ?_))))))
    rw [nI_add, nI_add, nI_add, nI_add, min_n (by omega) (by omega), show nI j + 1 = nI (j + 1) from (nI_succ j).symm]
    show if nI (shR a b l T i j (12 * i + j)) ≤ nI (shM a b l (shR a b l T i j) i j) then _ else _
    have bM : shM a b l (shR a b l T i j) i j ≤ 2000048 := by unfold shM; omega
    refine is (fun c => ?_) (fun c => wr_e (k := 12 * i + j) (by rw [show (12 : Int32) = nI 12 from rfl, ix_mul]) (by omega) (by omega) ?_)
    · rw [le_n (by omega) (by omega)] at c
      refine ih (j + 1) f (by omega) (fun k hk => ?_)
      rw [h k hk, shR]
      unfold shx
      rw [if_neg (fun z => by rw [z.1] at z; omega)]
    · rw [le_n (by omega) (by omega)] at c
      rw [gcu_s]
      refine ih (j + 1) _ (by omega) (fun k hk => ?_)
      rw [shR]
      unfold shx
      by_cases z : k = 12 * i + j
      · subst z
        rw [upd_s, if_pos ⟨rfl, by omega⟩]
        rfl
      · rw [upd_n _ _ z, if_neg (fun y => z y.1)]
        exact h k hk
theorem s2_shorten {g : fp_G} {K : Int32 → fp_G → Prop} {T : Nat → Nat} {f0 : Nat → Int32} {a b l no : Nat} (hno : no ≤ 12) (h3 : g 6 3 = nI no) (ha : a < no) (hb : b < no) (hl : l ≤ 48) (hT : Bd6 T) (h0 : repT f0 T)
    (k : ∀ f, repT f (shF a b l no T no) → K 0 (gc g 9 f)) : w_X2_shorten (nI a) (nI b) (nI l) (gc g 9 f0) K := by
  unfold w_X2_shorten
  refine ⟨no + 1, ?_⟩
  have loop : ∀ r j f, j + r = no → repT f (shF a b l no T j) → w_X2_shorten_3 (r + 1) (nI a) (nI b) (nI l) (nI j) (gc g 9 f) K := by
    intro r
    induction r with
    | zero =>
      intro j f hj h
      have hj : j = no := by omega
      subst hj
      rw [w_X2_shorten_3]
      exact it (end_c (a := gc g 9 f 6 3) h3) (k f h)
    | succ r ih =>
      intro j f hj h
      rw [w_X2_shorten_3]
      refine ie (nend_c (a := gc g 9 f 6 3) h3 (by omega) (by omega)) ⟨no + 1, ?_⟩
      rw [show nI j + 1 = nI (j + 1) from (nI_succ j).symm]
      exact l_sh15 (T := shF a b l no T j) hno h3 ha hb hl (by omega) (fun k hk => Nat.le_trans (shF_le _ _ _ _ _ _ _) (hT k hk)) (fun f1 h1 => ih (j + 1) f1 (by omega) h1) no 0 f (by omega) h
  exact loop no 0 f0 (by omega) h0
theorem sh_exact {D : Nat → Nat → Nat} {no a b l : Nat} {T : Nat → Nat} (hno : no ≤ 12) (ha : a < no) (hb : b < no) (hT : ∀ i j, i < 12 → j < 12 → T (12 * i + j) = D i j)
    (tr : ∀ i j k, i < 12 → j < 12 → k < 12 → mD D a b l i k ≤ mD D a b l i j + mD D a b l j k) (sy : ∀ i j, i < 12 → j < 12 → mD D a b l i j = mD D a b l j i) (ed : mD D a b l a b ≤ l) (big : ∀ i j, i < 12 → j < 12 → (no ≤ i ∨ no ≤ j) → mD D a b l i j = D i j) :
    ∀ i j, i < 12 → j < 12 → shF a b l no T no (12 * i + j) = mD D a b l i j := by
  -- squeezed, and what is done is right
  have sq : ∀ (S : Nat → Nat) (i j : Nat), i < no → j < no → (∀ p q, p < 12 → q < 12 → mD D a b l p q ≤ S (12 * p + q) ∧ S (12 * p + q) ≤ D p q) →
      (∀ p q, p < 12 → q < 12 → mD D a b l p q ≤ shx a b l S i j (12 * p + q) ∧ shx a b l S i j (12 * p + q) ≤ D p q) ∧ shx a b l S i j (12 * i + j) ≤ mD D a b l i j := by
    intro S i j hi hj h
    have x1 := h i a (by omega) (by omega)
    have x2 := h b j (by omega) (by omega)
    have x3 := h i b (by omega) (by omega)
    have x4 := h a j (by omega) (by omega)
    have x5 := h i j (by omega) (by omega)
    have t1 := tr i a j (by omega) (by omega) (by omega)
    have t2 := tr a b j (by omega) (by omega) (by omega)
    have t3 := tr i b j (by omega) (by omega) (by omega)
    have t4 := tr b a j (by omega) (by omega) (by omega)
    have s1 := sy a b (by omega) (by omega)
    have lo : mD D a b l i j ≤ shM a b l S i j := by unfold shM; omega
    have up : min (S (12 * i + j)) (shM a b l S i j) ≤ mD D a b l i j := by
      have : mD D a b l i j = min (D i j) (min (D i a + l + D b j) (D i b + l + D a j)) := rfl
      unfold shM
      omega
    constructor
    · intro p q hp hq
      refine ⟨?_, Nat.le_trans (shx_le _ _ _ _ _ _ _) (h p q hp hq).2⟩
      unfold shx
      by_cases c : 12 * p + q = 12 * i + j ∧ shM a b l S i j < S (12 * p + q)
      · rw [if_pos c, show p = i by omega, show q = j by omega]
        exact lo
      · rw [if_neg c]
        exact (h p q hp hq).1
    · unfold shx
      by_cases c : shM a b l S i j < S (12 * i + j)
      · rw [if_pos ⟨rfl, c⟩]
        omega
      · rw [if_neg (fun z => c z.2)]
        omega
  have row : ∀ (S : Nat → Nat) (i : Nat), i < no → (∀ p q, p < 12 → q < 12 → mD D a b l p q ≤ S (12 * p + q) ∧ S (12 * p + q) ≤ D p q) → ∀ n, n ≤ no →
      (∀ p q, p < 12 → q < 12 → mD D a b l p q ≤ shR a b l S i n (12 * p + q) ∧ shR a b l S i n (12 * p + q) ≤ D p q) ∧ ∀ j, j < n → shR a b l S i n (12 * i + j) ≤ mD D a b l i j := by
    intro S i hi h n
    induction n with
    | zero => exact fun _ => ⟨h, fun j hj => absurd hj (by omega)⟩
    | succ n ih =>
      intro hn
      obtain ⟨h1, h2⟩ := ih (by omega)
      obtain ⟨h3, h4⟩ := sq (shR a b l S i n) i n hi (by omega) h1
      refine ⟨h3, fun j hj => ?_⟩
      by_cases z : j = n
      · subst z
        exact h4
      · exact Nat.le_trans (shx_le _ _ _ _ _ _ _) (h2 j (by omega))
  have all : ∀ n, n ≤ no → (∀ p q, p < 12 → q < 12 → mD D a b l p q ≤ shF a b l no T n (12 * p + q) ∧ shF a b l no T n (12 * p + q) ≤ D p q) ∧ ∀ i j, i < n → j < no → shF a b l no T n (12 * i + j) ≤ mD D a b l i j := by
    intro n
    induction n with
    | zero =>
      refine fun _ => ⟨fun p q hp hq => ?_, fun i j hi => absurd hi (by omega)⟩
      show mD D a b l p q ≤ T (12 * p + q) ∧ T (12 * p + q) ≤ D p q
      rw [hT p q hp hq]
      have : mD D a b l p q = min (D p q) (min (D p a + l + D b q) (D p b + l + D a q)) := rfl
      omega
    | succ n ih =>
      intro hn
      obtain ⟨h1, h2⟩ := ih (by omega)
      obtain ⟨h3, h4⟩ := row (shF a b l no T n) n (by omega) h1 no (Nat.le_refl _)
      refine ⟨h3, fun i j hi hj => ?_⟩
      by_cases z : i = n
      · subst z
        exact h4 j hj
      · exact Nat.le_trans (shR_le _ _ _ _ _ _ _) (h2 i j (by omega) hj)
  obtain ⟨h1, h2⟩ := all no (Nat.le_refl _)
  intro i j hi hj
  have x := h1 i j hi hj
  by_cases c : no ≤ i ∨ no ≤ j
  · have := big i j hi hj c
    omega
  · have := h2 i j (by omega) (by omega)
    omega
def wayG (g : fp_G) (n : Nat) (x1 x2 x3 x4 x5 : Int32) (f : Nat → Int32) : fp_G := gu (gu (gu (gu (gu (gu (gc (gu (gu (gu (gu (gu (gu g 10 n x1) 11 n x2) 12 n x3) 13 n x4) 14 n x5) 6 9 (nI (n + 1))) 9 f) 70 n x1) 71 n x2) 72 n x3) 73 n x4) 74 n x5) 67 13 (nI (n + 1))
theorem c_way {x1 x2 x3 x4 x5 : Int32} {g : fp_G} {P : Int32 → Int32 → fp_G → Prop} (h : Q g)
    (ok : ∀ a b l fi e f, a < nO g → b < nO g → a ≠ b → x1 = nI a → x2 = nI b → 1 ≤ l → l ≤ 48 → x3 = nI l → fi ≤ 2000 → x4 = nI fi → 1 ≤ e → e ≤ 48 → x5 = nI e → nW g < 24 → repT f (shF a b l (nO g) (fun k => tn (g 9 k)) (nO g)) → P (nI (nW g)) (nI (nW g)) (wayG g (nW g) x1 x2 x3 x4 x5 f))
    (no : ∀ r k, P r r (refG g k)) : w_X8_way x1 x2 x3 x4 x5 g (fun r g1 => w_X9_way x1 x2 x3 x4 x5 g1 (fun r2 g2 => P r r2 g2)) := by
  obtain ⟨hO, h6, hk6⟩ := h.2.1.O
  obtain ⟨hW, h9, hk9⟩ := h.2.1.W
  unfold w_X8_way
  have nob : (¬ inN x1 (nO g) ∨ (inN x1 (nO g) ∧ (¬ inN x2 (nO g) ∨ (inN x2 (nO g) ∧ x1 = x2)))) → w_X8_refuse (-1) g (fun r g1 => w_X9_way x1 x2 x3 x4 x5 g1 (fun r2 g2 => P r r2 g2)) := by
    intro c
    refine e_refuse (k := 1) rfl (by decide) ?_
    unfold w_X9_way
    rcases c with c | ⟨c, c2 | ⟨c2, c3⟩⟩
    · exact hf_X9_isOffice hO hk6 c (j_I (it rfl (e_no (k := 1) rfl (by decide) (no _ 1))))
    · exact ht_X9_isOffice hO hk6 c (j_I (ie (by decide) (hf_X9_isOffice hO hk6 c2 (it rfl (e_no (k := 1) rfl (by decide) (no _ 1))))))
    · exact ht_X9_isOffice hO hk6 c (j_I (ie (by decide) (ht_X9_isOffice hO hk6 c2 (ie (by decide) (it c3 (e_no (k := 1) rfl (by decide) (no _ 1)))))))
  by_cases h1 : inN x1 (nO g)
  · refine ht_X2_hasOffice hO h6 h1 (j_I (ie (by decide) ?_))
    by_cases h2 : inN x2 (nO g)
    · refine ht_X2_hasOffice hO h6 h2 (ie (by decide) ?_)
      refine is (fun c => nob (Or.inr ⟨h1, Or.inr ⟨h2, c⟩⟩)) (fun c12 => ?_)
      have below : (x3 < 1 ∨ x4 < 0 ∨ ¬ 1 ≤ x5) → w_X8_refuse (-4) g (fun r g1 => w_X9_way x1 x2 x3 x4 x5 g1 (fun r2 g2 => P r r2 g2)) := by
        intro c
        refine e_refuse (k := 4) rfl (by decide) ?_
        unfold w_X9_way
        refine ht_X9_isOffice hO hk6 h1 (j_I (ie (by decide) (ht_X9_isOffice hO hk6 h2 (ie (by decide) (ie c12 (j_I (j_I ?_)))))))
        have fin : ∀ {A : Prop}, (if (-4 : Int32) = 0 then A else w_X9_no (-4) (gu g 1 4 (g 1 4 + 1)) fun v1 g5 => P (-4) v1 g5) := ie (by decide) (e_no (k := 4) rfl (by decide) (no _ 4))
        refine is (fun _ => fin) (fun c1 => is (fun _ => fin) (fun c2 => ?_))
        rcases c with c | c | c
        · exact absurd c c1
        · exact absurd c c2
        · exact ie c fin
      refine j_I (is (fun c => below (Or.inl c)) (fun c1 => is (fun c => below (Or.inr (Or.inl c))) (fun c2 => is (fun c3 => ?_) (fun c => below (Or.inr (Or.inr c))))))
      have room : (48 < x3 ∨ 2000 < x4 ∨ 48 < x5 ∨ nW g = 24) → w_X8_refuse (-6) g (fun r g1 => w_X9_way x1 x2 x3 x4 x5 g1 (fun r2 g2 => P r r2 g2)) := by
        intro c
        refine e_refuse (k := 6) rfl (by decide) ?_
        unfold w_X9_way
        refine ht_X9_isOffice hO hk6 h1 (j_I (ie (by decide) (ht_X9_isOffice hO hk6 h2 (ie (by decide) (ie c12 (j_I (j_I (ie c1 (ie c2 (it c3 (j_I ?_)))))))))))
        have fin : ∀ {A : Prop}, (if (-6 : Int32) = 0 then A else w_X9_no (-6) (gu g 1 6 (g 1 6 + 1)) fun v1 g5 => P (-6) v1 g5) := ie (by decide) (e_no (k := 6) rfl (by decide) (no _ 6))
        refine is (fun _ => fin) (fun d1 => is (fun _ => fin) (fun d2 => is (fun _ => fin) (fun d3 => ?_)))
        rcases c with c | c | c | c
        · exact absurd c d1
        · exact absurd c d2
        · exact absurd c d3
        · refine it ?_ fin
          show g 67 13 = 24
          rw [hk9, c]
          rfl
      refine j_I (is (fun c => room (Or.inl c)) (fun d1 => is (fun c => room (Or.inr (Or.inl c))) (fun d2 => is (fun c => room (Or.inr (Or.inr (Or.inl c)))) (fun d3 => ?_))))
      by_cases c24 : nW g = 24
      · refine ie ?_ (room (Or.inr (Or.inr (Or.inr c24))))
        rw [h9, c24]
        decide
      refine it (lt_c (b := 24) h9 (by decide) (by omega)) ?_
      rw [lt_I, show (1 : Int32).toInt = 1 from rfl] at c1
      rw [lt_I, show (0 : Int32).toInt = 0 from rfl] at c2
      rw [le_I, show (1 : Int32).toInt = 1 from rfl] at c3
      rw [lt_I, show (48 : Int32).toInt = 48 from rfl] at d1 d3
      rw [lt_I, show (2000 : Int32).toInt = 2000 from rfl] at d2
      obtain ⟨l, el, hl⟩ := nat_of (a := x3) (l := 0) (h := 48) (by omega) (by omega) (by omega)
      obtain ⟨fi, ef, hf⟩ := nat_of (a := x4) (l := 0) (h := 2000) (by omega) (by omega) (by omega)
      obtain ⟨e, ee, he⟩ := nat_of (a := x5) (l := 0) (h := 48) (by omega) (by omega) (by omega)
      have h1' := h1
      have h2' := h2
      obtain ⟨a, ha, ea⟩ := h1'
      obtain ⟨b, hb, eb⟩ := h2'
      unfold w_X2_addWay
      refine wr_e h9 (by omega) (by omega) (wr_e h9 (by omega) (by omega) (wr_e h9 (by omega) (by omega) (wr_e h9 (by omega) (by omega) (wr_e h9 (by omega) (by omega) (pf_i ?_)))))
      have main := s2_shorten (g := gu (gu (gu (gu (gu (gu g 10 (nW g) x1) 11 (nW g) x2) 12 (nW g) x3) 13 (nW g) x4) 14 (nW g) x5) 6 9 (nI (nW g + 1))) (f0 := g 9) (T := fun k => tn (g 9 k)) (a := a) (b := b) (l := l) (no := nO g) (K := fun _ g7 => w_X9_way x1 x2 x3 x4 x5 g7 (fun r2 g2 => P ((g7 6 9) - 1) r2 g2)) hO h6 ha hb (by omega)
        (fun k hk => by obtain ⟨d, hd, ed⟩ := h.2.2.2.2.1 k hk; show tn (g 9 k) ≤ 1000000; rw [ed, tn_n (by omega)]; exact hd)
        (fun k hk => by obtain ⟨d, hd, ed⟩ := h.2.2.2.2.1 k hk; show g 9 k = nI (tn (g 9 k)); rw [ed, tn_n (by omega)]) ?_
      · rw [show gc (gu (gu (gu (gu (gu (gu g 10 (nW g) x1) 11 (nW g) x2) 12 (nW g) x3) 13 (nW g) x4) 14 (nW g) x5) 6 9 (nI (nW g + 1))) 9 (g 9) = gu (gu (gu (gu (gu (gu g 10 (nW g) x1) 11 (nW g) x2) 12 (nW g) x3) 13 (nW g) x4) 14 (nW g) x5) 6 9 (nI (nW g + 1)) from gc_id (gu (gu (gu (gu (gu (gu g 10 (nW g) x1) 11 (nW g) x2) 12 (nW g) x3) 13 (nW g) x4) 14 (nW g) x5) 6 9 (nI (nW g + 1))) 9] at main
        show w_X2_shorten x1 x2 x3 (gu (gu (gu (gu (gu (gu g 10 (nW g) x1) 11 (nW g) x2) 12 (nW g) x3) 13 (nW g) x4) 14 (nW g) x5) 6 9 (g 6 9 + 1)) _
        rw [h9, show nI (nW g) + 1 = nI (nW g + 1) from (nI_succ _).symm]
        rw [← ea, ← eb, ← el] at main
        exact main
      intro f hf2
      unfold w_X9_way
      have c1' : ¬ x3 < 1 := by rw [lt_I, show (1 : Int32).toInt = 1 from rfl]; omega
      have c2' : ¬ x4 < 0 := by rw [lt_I, show (0 : Int32).toInt = 0 from rfl]; omega
      have c3' : 1 ≤ x5 := by rw [le_I, show (1 : Int32).toInt = 1 from rfl]; omega
      have d1' : ¬ 48 < x3 := by rw [lt_I, show (48 : Int32).toInt = 48 from rfl]; omega
      have d3' : ¬ 48 < x5 := by rw [lt_I, show (48 : Int32).toInt = 48 from rfl]; omega
      have d2' : ¬ 2000 < x4 := by rw [lt_I, show (2000 : Int32).toInt = 2000 from rfl]; omega
      refine ht_X9_isOffice hO hk6 h1 (j_I (ie (by decide) (ht_X9_isOffice hO hk6 h2 (ie (by decide) (ie c12 (j_I (j_I (ie c1' (ie c2' (it c3' (j_I (ie d1' (ie d2' (ie d3' (ie (ne_c (b := 24) hk9 (by decide) (by omega)) (it rfl ?_))))))))))))))))
      refine wr_e hk9 (by omega) (by omega) (wr_e hk9 (by omega) (by omega) (wr_e hk9 (by omega) (by omega) (wr_e hk9 (by omega) (by omega) (wr_e hk9 (by omega) (by omega) (pf_i ?_)))))
      have := ok a b l fi e f ha hb (fun z => c12 (by rw [ea, eb, z])) ea eb (by omega) (by omega) el (by omega) ef (by omega) (by omega) ee (by omega) hf2
      show P (nI (nW g + 1) - 1) (g 67 13 + 1 - 1) (gu (gu (gu (gu (gu (gu (gc (gu (gu (gu (gu (gu (gu g 10 (nW g) x1) 11 (nW g) x2) 12 (nW g) x3) 13 (nW g) x4) 14 (nW g) x5) 6 9 (nI (nW g + 1))) 9 f) 70 (nW g) x1) 71 (nW g) x2) 72 (nW g) x3) 73 (nW g) x4) 74 (nW g) x5) 67 13 (g 67 13 + 1))
      rw [hk9, inc_dec, show nI (nW g) + 1 = nI (nW g + 1) from (nI_succ _).symm, show nI (nW g + 1) - 1 = nI (nW g) by rw [nI_succ]; exact inc_dec _]
      exact this
    · exact hf_X2_hasOffice hO h6 h2 (it rfl (nob (Or.inr ⟨h1, Or.inl h2⟩)))
  · exact hf_X2_hasOffice hO h6 h1 (j_I (it rfl (nob (Or.inl h1))))
