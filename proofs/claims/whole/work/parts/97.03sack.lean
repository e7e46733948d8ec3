/-! ===== sack and feed ===== -/
theorem gcu_s (g : fp_G) (q k : Nat) (f : Nat → Int32) (v : Int32) : gu (gc g q f) q k v = gc g q (upd f k v) := by
  funext a i
  by_cases h : a = q
  · subst h
    by_cases h2 : i = k <;> simp [gu, gc, upd, h2]
  · simp [gu, gc, h]
theorem guu_c (g : fp_G) {q q2 : Nat} (i j : Nat) (a b : Int32) (h : q ≠ q2) : gu (gu g q i a) q2 j b = gu (gu g q2 j b) q i a := by
  funext c d
  by_cases h1 : c = q
  · subst h1
    simp [gu, h]
  · simp [gu, h1]
theorem guu_s (g : fp_G) (q i : Nat) (a b : Int32) : gu (gu g q i a) q i b = gu g q i b := by
  funext c d
  by_cases h1 : c = q ∧ d = i <;> simp [gu, h1]
theorem gcu_c (g : fp_G) {q q2 : Nat} (f : Nat → Int32) (j : Nat) (b : Int32) (h : q ≠ q2) : gu (gc g q f) q2 j b = gc (gu g q2 j b) q f := by
  funext c d
  by_cases h1 : c = q
  · subst h1
    simp [gu, gc, h]
  · simp [gu, gc, h1]
theorem gc_id (g : fp_G) (q : Nat) : gc g q (g q) = g := by
  funext c
  by_cases h1 : c = q
  · subst h1
    simp [gc]
  · simp [gc, h1]
theorem gcc_s (g : fp_G) (q : Nat) (f h : Nat → Int32) : gc (gc g q f) q h = gc g q h := by
  funext c
  by_cases h1 : c = q <;> simp [gc, h1]
theorem upd_s (f : Nat → Int32) (k : Nat) (x : Int32) : upd f k x k = x := by simp [upd]
theorem upd_n (f : Nat → Int32) {k j : Nat} (x : Int32) (h : j ≠ k) : upd f k x j = f j := by simp [upd, h]
theorem l_addSack {x2 : Int32} {G : fp_G} {K : Int32 → fp_G → Prop} {n : Nat} {B : Nat → Nat} (hn : n < 7) (h3 : G 61 3 = nI n) (hB : ∀ i, i < n → B i < n)
    (k : ∀ f p, p ≤ n → (∀ i, i < p → f i = nI (B i)) → f p = nI n → (∀ i, p < i → i ≤ n → f i = nI (B (i - 1))) → (0 < p → G 63 (B (p - 1)) ≤ x2) → (∀ i, p ≤ i → i < n → x2 < G 63 (B i)) → K (nI n) (gu (gc G 65 f) 61 3 (nI (n + 1)))) :
    ∀ p f, p ≤ n → (∀ i, i < p → f i = nI (B i)) → (∀ i, p < i → i ≤ n → f i = nI (B (i - 1))) → (∀ i, p ≤ i → i < n → x2 < G 63 (B i)) → w_X7_addSack_36 (p + 1) x2 (nI p) (gc G 65 f) K := by
  intro p
  have stop : ∀ p f, p ≤ n → (∀ i, i < p → f i = nI (B i)) → (∀ i, p < i → i ≤ n → f i = nI (B (i - 1))) → (0 < p → G 63 (B (p - 1)) ≤ x2) → (∀ i, p ≤ i → i < n → x2 < G 63 (B i)) →
      (fp_wr (gc G 65 f) 65 7 (nI p) (gc G 65 f 61 3) fun g4 => fp_pf g4 61 3 ((g4 61 3) + 1) fun g5 => K ((g5 61 3) - 1) g5) := by
    intro p f hp h1 h2 h4 h5
    refine wr_n (by omega) (by omega) (pf_i ?_)
    show K (G 61 3 + 1 - 1) (gu (gu (gc G 65 f) 65 p (G 61 3)) 61 3 (G 61 3 + 1))
    rw [h3, inc_dec, show nI n + 1 = nI (n + 1) from (nI_succ n).symm, gcu_s]
    refine k _ p hp (fun i hi => ?_) (upd_s _ _ _) (fun i hi hi2 => ?_) h4 h5
    · rw [upd_n _ _ (by omega)]
      exact h1 i hi
    · rw [upd_n _ _ (by omega)]
      exact h2 i hi hi2
  induction p with
  | zero =>
    intro f hp h1 h2 h5
    rw [w_X7_addSack_36]
    exact j_I (it (show nI 0 ≤ 0 by decide) (stop 0 f hp h1 h2 (fun z => absurd z (by omega)) h5))
  | succ p ih =>
    intro f hp h1 h2 h5
    rw [w_X7_addSack_36]
    dsimp only [fp_j]
    have e1 : nI (p + 1) - 1 = nI p := by rw [nI_succ]; exact inc_dec p
    have hr : gc G 65 f 65 p = nI (B p) := by rw [gc_f]; exact h1 p (by omega)
    have hb := hB p (by omega)
    refine ie ?_ (rd_e e1 (by omega) (by omega) ?_)
    · rw [show (0 : Int32) = nI 0 from rfl, le_I, nI_I (by omega), nI_I (by omega)]
      omega
    rw [hr]
    refine rd_n (by omega) (by omega) ?_
    show if G 63 (B p) ≤ x2 then _ else _
    refine is (fun c => stop (p + 1) f hp h1 h2 (fun _ => c) h5) (fun c => rd_e e1 (by omega) (by omega) ?_)
    rw [hr]
    refine wr_n (by omega) (by omega) ?_
    rw [gcu_s, show nI (p + 1) + -1 = nI p by rw [← Int32.sub_eq_add_neg]; exact e1]
    refine ih _ (by omega) (fun i hi => ?_) (fun i hi hi2 => ?_) (fun i hi hi2 => ?_)
    · rw [upd_n _ _ (by omega)]
      exact h1 i (by omega)
    · by_cases z : i = p + 1
      · subst z
        rw [upd_s]
        rfl
      · rw [upd_n _ _ z]
        exact h2 i (by omega) hi2
    · by_cases z : i = p
      · subst z
        rw [le_I] at c
        rw [lt_I]
        omega
      · exact h5 i (by omega) hi2
def sackG (g : fp_G) (n : Nat) (x1 x2 x3 : Int32) (f : Nat → Int32) : fp_G := gu (gu (gu (gu (gu (gc (gu (gu (gu g 62 n x1) 63 n x2) 64 n x3) 65 f) 61 3 (nI (n + 1))) 120 n x1) 121 n x2) 122 n x3) 67 72 (nI (n + 1))
theorem c_sack {x1 x2 x3 : Int32} {g : fp_G} {P : Int32 → Int32 → fp_G → Prop} {n : Nat} {B : Nat → Nat} (hn : n ≤ 7) (h3 : g 61 3 = nI n) (hk3 : g 67 72 = nI n) (hB : ∀ i, i < n → B i < n ∧ g 65 i = nI (B i))
    (ok : ∀ t r l f p, n < 7 → 1 ≤ t → t ≤ 99 → x1 = nI t → 1 ≤ r → r ≤ 999 → x2 = nI r → l ≤ 9999 → x3 = nI l → p ≤ n → (∀ i, i < p → f i = nI (B i)) → f p = nI n → (∀ i, p < i → i ≤ n → f i = nI (B (i - 1))) → (0 < p → g 63 (B (p - 1)) ≤ x2) → (∀ i, p ≤ i → i < n → x2 < g 63 (B i)) → P (nI n) (nI n) (sackG g n x1 x2 x3 f))
    (no : ∀ r k, P r r (refG g k)) : w_X8_sack x1 x2 x3 g (fun r g1 => w_X9_sack x1 x2 x3 g1 (fun r2 g2 => P r r2 g2)) := by
  unfold w_X8_sack
  dsimp only [fp_j]
  have below : (x1 < 1 ∨ x2 < 1 ∨ ¬ 0 ≤ x3) → w_X8_refuse (-4) g (fun r g1 => w_X9_sack x1 x2 x3 g1 (fun r2 g2 => P r r2 g2)) := by
    intro c
    refine e_refuse (k := 4) rfl (by decide) ?_
    unfold w_X9_sack
    dsimp only [fp_j]
    have fin : ∀ {A : Prop}, (if (-4 : Int32) = 0 then A else w_X9_no (-4) (gu g 1 4 (g 1 4 + 1)) fun v1 g5 => P (-4) v1 g5) := ie (by decide) (e_no (k := 4) rfl (by decide) (no _ 4))
    refine is (fun _ => fin) (fun c1 => is (fun _ => fin) (fun c2 => ?_))
    rcases c with c | c | c
    · exact absurd c c1
    · exact absurd c c2
    · exact ie c fin
  refine is (fun c => below (Or.inl c)) (fun c1 => is (fun c => below (Or.inr (Or.inl c))) (fun c2 => is (fun c3 => ?_) (fun c => below (Or.inr (Or.inr c)))))
  have room : (99 < x1 ∨ 999 < x2 ∨ 9999 < x3 ∨ n = 7) → w_X8_refuse (-6) g (fun r g1 => w_X9_sack x1 x2 x3 g1 (fun r2 g2 => P r r2 g2)) := by
    intro c
    refine e_refuse (k := 6) rfl (by decide) ?_
    unfold w_X9_sack
    dsimp only [fp_j]
    have fin : ∀ {A : Prop}, (if (-6 : Int32) = 0 then A else w_X9_no (-6) (gu g 1 6 (g 1 6 + 1)) fun v1 g5 => P (-6) v1 g5) := ie (by decide) (e_no (k := 6) rfl (by decide) (no _ 6))
    refine ie c1 (ie c2 (it c3 (is (fun _ => fin) (fun d1 => is (fun _ => fin) (fun d2 => is (fun _ => fin) (fun d3 => ?_))))))
    rcases c with c | c | c | c
    · exact absurd c d1
    · exact absurd c d2
    · exact absurd c d3
    · subst c
      exact it hk3 fin
  refine is (fun c => room (Or.inl c)) (fun d1 => is (fun c => room (Or.inr (Or.inl c))) (fun d2 => is (fun c => room (Or.inr (Or.inr (Or.inl c)))) (fun d3 => ?_)))
  by_cases c7 : n = 7
  · subst c7
    exact ie (nlt_c h3) (room (Or.inr (Or.inr (Or.inr rfl))))
  refine it (lt_c (b := 7) h3 (by decide) (by omega)) ?_
  unfold w_X7_addSack
  refine wr_e h3 (by omega) (by omega) (wr_e h3 (by omega) (by omega) (wr_e h3 (by omega) (by omega) ?_))
  refine ⟨n + 1, ?_⟩
  show w_X7_addSack_36 (n + 1) x2 (g 61 3) _ _
  rw [h3]
  have h63 : ∀ i, i < n → (gu (gu (gu g 62 n x1) 63 n x2) 64 n x3) 63 (B i) = g 63 (B i) := by
    intro i hi
    show gu (gu g 62 n x1) 63 n x2 63 (B i) = g 63 (B i)
    have := (hB i hi).1
    rw [gu_i _ _ (by omega)]
    rfl
  have main := l_addSack (G := gu (gu (gu g 62 n x1) 63 n x2) 64 n x3) (x2 := x2) (n := n) (B := B) (K := fun r g1 => w_X9_sack x1 x2 x3 g1 (fun r2 g2 => P r r2 g2)) (by omega) h3 (fun i hi => (hB i hi).1) ?_ n (g 65) (Nat.le_refl n) (fun i hi => (hB i hi).2) (fun i hi hi2 => absurd hi (by omega)) (fun i hi hi2 => absurd hi (by omega))
  · rw [show gc (gu (gu (gu g 62 n x1) 63 n x2) 64 n x3) 65 (g 65) = gu (gu (gu g 62 n x1) 63 n x2) 64 n x3 from gc_id (gu (gu (gu g 62 n x1) 63 n x2) 64 n x3) 65] at main
    exact main
  intro f p hp f1 f2 f3 f4 f5
  unfold w_X9_sack
  dsimp only [fp_j]
  refine ie c1 (ie c2 (it c3 (ie d1 (ie d2 (ie d3 (ie (ne_c (b := 7) hk3 (by decide) (by omega)) (it rfl ?_)))))))
  refine wr_e hk3 (by omega) (by omega) (wr_e hk3 (by omega) (by omega) (wr_e hk3 (by omega) (by omega) (pf_i ?_)))
  rw [lt_I, show (1 : Int32).toInt = 1 from rfl] at c1 c2
  rw [le_I, show (0 : Int32).toInt = 0 from rfl] at c3
  rw [lt_I, show (99 : Int32).toInt = 99 from rfl] at d1
  rw [lt_I, show (999 : Int32).toInt = 999 from rfl] at d2
  rw [lt_I, show (9999 : Int32).toInt = 9999 from rfl] at d3
  obtain ⟨t, et, ht⟩ := nat_of (a := x1) (l := 0) (h := 99) (by omega) (by omega) (by omega)
  obtain ⟨r, er, hr⟩ := nat_of (a := x2) (l := 0) (h := 999) (by omega) (by omega) (by omega)
  obtain ⟨l, el, hl⟩ := nat_of (a := x3) (l := 0) (h := 9999) (by omega) (by omega) (by omega)
  have := ok t r l f p (by omega) (by omega) (by omega) et (by omega) (by omega) er (by omega) el hp f1 f2 f3 (fun z => by rw [← h63 (p - 1) (by omega)]; exact f4 z) (fun i hi hi2 => by rw [← h63 i hi2]; exact f5 i hi hi2)
  show P (nI n) (g 67 72 + 1 - 1) (gu (gu (gu (gu (gu (gc (gu (gu (gu g 62 n x1) 63 n x2) 64 n x3) 65 f) 61 3 (nI (n + 1))) 120 n x1) 121 n x2) 122 n x3) 67 72 (g 67 72 + 1))
  rw [hk3, inc_dec, show nI n + 1 = nI (n + 1) from (nI_succ n).symm]
  exact this
