/-! ===== texts: what is read, and how the class reads it ===== -/
def L9 (i : Nat) : Int32 := ([107, 119, 97, 104, 115, 117, 111, 98, 99] : List Int32).getD i 0
def dgt (x : Int32) : Prop := ¬ x < 48 ∧ ¬ 57 < x
def nv (B : Nat → Int32) (p : Nat) : Nat → Nat
  | 0 => 0
  | k + 1 => nv B p k * 10 + (tn (B (p + k)) - 48)
def Ut (B : Nat → Int32) (p q u : Nat) : Prop := (∃ i, i < 9 ∧ B p = L9 i ∧ q = p + 1 ∧ u = 10000 + i) ∨ ∃ k, 1 ≤ k ∧ k ≤ 4 ∧ (∀ i, i < k → dgt (B (p + i))) ∧ (k < 4 → ¬ dgt (B (p + k))) ∧ q = p + k ∧ u = nv B p k
def noU (B : Nat → Int32) (p : Nat) : Prop := (∀ i, i < 9 → B p ≠ L9 i) ∧ ¬ dgt (B p)
def uv (u : Nat) (φ : Nat → Int32) : Int32 := if 10000 ≤ u ∧ u < 10009 then φ (u - 10000) else nI u
def cmpS (s : Nat) (a b : Int32) : Bool := if s = 0 then decide (a < b) else if s = 1 then decide (a = b) else decide (b < a)
def encS (u s v : Nat) : Int32 := (((nI u <<< ((2 : Int32) &&& 31)) ||| nI s) <<< ((14 : Int32) &&& 31)) ||| nI v
abbrev PR : Type := Nat → Nat → Nat → Nat → List Int32 → ((Nat → Int32) → Bool) → Prop
/-- the rules: k how deep, then the level (0 a test, 1 joined by &, 2 joined by |), from, to, the steps, what it says -/
def PXc (B : Nat → Int32) (R : PR) : Prop :=
  (∀ k p q r u s v, B p ≠ 33 → B p ≠ 40 → Ut B p q u → u < 10009 → s < 3 → B q = nI (60 + s) → Ut B (q + 1) r v → v < 10009 → R k 0 p r [encS u s v] (fun φ => cmpS s (uv u φ) (uv v φ))) ∧
  (∀ k p q c f, B p = 33 → k < 5 → R (k + 1) 0 (p + 1) q c f → R k 0 p q (c ++ [-1]) (fun φ => !f φ)) ∧
  (∀ k p q c f, B p = 40 → k < 5 → R (k + 1) 2 (p + 1) q c f → B q = 41 → R k 0 p (q + 1) c f) ∧
  (∀ k p q c f, R k 0 p q c f → R k 1 p q c f) ∧
  (∀ k p q r c d f h, R k 1 p q c f → B q = 38 → R k 0 (q + 1) r d h → R k 1 p r (c ++ d ++ [-2]) (fun φ => f φ && h φ)) ∧
  (∀ k p q c f, R k 1 p q c f → R k 2 p q c f) ∧
  (∀ k p q r c d f h, R k 2 p q c f → B q = 124 → R k 1 (q + 1) r d h → R k 2 p r (c ++ d ++ [-3]) (fun φ => f φ || h φ))
def PX (B : Nat → Int32) (k l p q : Nat) (c : List Int32) (f : (Nat → Int32) → Bool) : Prop := ∀ R : PR, PXc B R → R k l p q c f
section
variable {B : Nat → Int32} {k p q r u s v : Nat} {c d : List Int32} {f h : (Nat → Int32) → Bool}
theorem PX_cmp (h1 : B p ≠ 33) (h2 : B p ≠ 40) (h3 : Ut B p q u) (h4 : u < 10009) (h5 : s < 3) (h6 : B q = nI (60 + s)) (h7 : Ut B (q + 1) r v) (h8 : v < 10009) : PX B k 0 p r [encS u s v] (fun φ => cmpS s (uv u φ) (uv v φ)) := fun _ H => H.1 k p q r u s v h1 h2 h3 h4 h5 h6 h7 h8
theorem PX_neg (h1 : B p = 33) (h2 : k < 5) (h3 : PX B (k + 1) 0 (p + 1) q c f) : PX B k 0 p q (c ++ [-1]) (fun φ => !f φ) := fun R H => H.2.1 k p q c f h1 h2 (h3 R H)
theorem PX_par (h1 : B p = 40) (h2 : k < 5) (h3 : PX B (k + 1) 2 (p + 1) q c f) (h4 : B q = 41) : PX B k 0 p (q + 1) c f := fun R H => H.2.2.1 k p q c f h1 h2 (h3 R H) h4
theorem PX_and1 (h1 : PX B k 0 p q c f) : PX B k 1 p q c f := fun R H => H.2.2.2.1 k p q c f (h1 R H)
theorem PX_and2 (h1 : PX B k 1 p q c f) (h2 : B q = 38) (h3 : PX B k 0 (q + 1) r d h) : PX B k 1 p r (c ++ d ++ [-2]) (fun φ => f φ && h φ) := fun R H => H.2.2.2.2.1 k p q r c d f h (h1 R H) h2 (h3 R H)
theorem PX_or1 (h1 : PX B k 1 p q c f) : PX B k 2 p q c f := fun R H => H.2.2.2.2.2.1 k p q c f (h1 R H)
theorem PX_or2 (h1 : PX B k 2 p q c f) (h2 : B q = 124) (h3 : PX B k 1 (q + 1) r d h) : PX B k 2 p r (c ++ d ++ [-3]) (fun φ => f φ || h φ) := fun R H => H.2.2.2.2.2.2 k p q r c d f h (h1 R H) h2 (h3 R H)
end
abbrev FR : Type := Nat → Nat → Nat → Nat → Prop
def FXc (B : Nat → Int32) (R : FR) : Prop :=
  (∀ k p, (B p = 33 ∨ B p = 40) → k = 5 → R k 0 p p) ∧
  (∀ k p, B p ≠ 33 → B p ≠ 40 → noU B p → R k 0 p p) ∧
  (∀ k p q u, B p ≠ 33 → B p ≠ 40 → Ut B p q u → (∀ s, s < 3 → B q ≠ nI (60 + s)) → R k 0 p q) ∧
  (∀ k p q u s, B p ≠ 33 → B p ≠ 40 → Ut B p q u → s < 3 → B q = nI (60 + s) → noU B (q + 1) → R k 0 p (q + 1)) ∧
  (∀ k p q, B p = 33 → k < 5 → R (k + 1) 0 (p + 1) q → R k 0 p q) ∧
  (∀ k p q, B p = 40 → k < 5 → R (k + 1) 2 (p + 1) q → R k 0 p q) ∧
  (∀ k p q c f, B p = 40 → k < 5 → PX B (k + 1) 2 (p + 1) q c f → B q ≠ 41 → B q ≠ 38 → B q ≠ 124 → R k 0 p q) ∧
  (∀ k p q, R k 0 p q → R k 1 p q) ∧
  (∀ k p q r c f, PX B k 1 p q c f → B q = 38 → R k 0 (q + 1) r → R k 1 p r) ∧
  (∀ k p q, R k 1 p q → R k 2 p q) ∧
  (∀ k p q r c f, PX B k 2 p q c f → B q = 124 → R k 1 (q + 1) r → R k 2 p r)
def FX (B : Nat → Int32) (k l p q : Nat) : Prop := ∀ R : FR, FXc B R → R k l p q
section
variable {B : Nat → Int32} {k p q r u s : Nat} {c : List Int32} {f : (Nat → Int32) → Bool}
theorem FX_deep (h1 : B p = 33 ∨ B p = 40) (h2 : k = 5) : FX B k 0 p p := fun _ H => H.1 k p h1 h2
theorem FX_u1 (h1 : B p ≠ 33) (h2 : B p ≠ 40) (h3 : noU B p) : FX B k 0 p p := fun _ H => H.2.1 k p h1 h2 h3
theorem FX_sg (h1 : B p ≠ 33) (h2 : B p ≠ 40) (h3 : Ut B p q u) (h4 : ∀ s, s < 3 → B q ≠ nI (60 + s)) : FX B k 0 p q := fun _ H => H.2.2.1 k p q u h1 h2 h3 h4
theorem FX_u2 (h1 : B p ≠ 33) (h2 : B p ≠ 40) (h3 : Ut B p q u) (h4 : s < 3) (h5 : B q = nI (60 + s)) (h6 : noU B (q + 1)) : FX B k 0 p (q + 1) := fun _ H => H.2.2.2.1 k p q u s h1 h2 h3 h4 h5 h6
theorem FX_neg (h1 : B p = 33) (h2 : k < 5) (h3 : FX B (k + 1) 0 (p + 1) q) : FX B k 0 p q := fun R H => H.2.2.2.2.1 k p q h1 h2 (h3 R H)
theorem FX_par (h1 : B p = 40) (h2 : k < 5) (h3 : FX B (k + 1) 2 (p + 1) q) : FX B k 0 p q := fun R H => H.2.2.2.2.2.1 k p q h1 h2 (h3 R H)
theorem FX_par2 (h1 : B p = 40) (h2 : k < 5) (h3 : PX B (k + 1) 2 (p + 1) q c f) (h4 : B q ≠ 41) (h5 : B q ≠ 38) (h6 : B q ≠ 124) : FX B k 0 p q := fun _ H => H.2.2.2.2.2.2.1 k p q c f h1 h2 h3 h4 h5 h6
theorem FX_and1 (h1 : FX B k 0 p q) : FX B k 1 p q := fun R H => H.2.2.2.2.2.2.2.1 k p q (h1 R H)
theorem FX_and2 (h1 : PX B k 1 p q c f) (h2 : B q = 38) (h3 : FX B k 0 (q + 1) r) : FX B k 1 p r := fun R H => H.2.2.2.2.2.2.2.2.1 k p q r c f h1 h2 (h3 R H)
theorem FX_or1 (h1 : FX B k 1 p q) : FX B k 2 p q := fun R H => H.2.2.2.2.2.2.2.2.2.1 k p q (h1 R H)
theorem FX_or2 (h1 : PX B k 2 p q c f) (h2 : B q = 124) (h3 : FX B k 1 (q + 1) r) : FX B k 2 p r := fun R H => H.2.2.2.2.2.2.2.2.2.2 k p q r c f h1 h2 (h3 R H)
end
/-- the reader's state -/
def RSf (g : fp_G) (n : Nat) (z pl ft he : Int32) : Nat → Int32 := fun i => if i = 2 then z else if i = 3 then nI n else if i = 4 then pl else if i = 5 then ft else if i = 6 then he else g 34 i
def RS (g : fp_G) (n : Nat) (z pl ft he : Int32) (st : Nat → Int32) : fp_G := gc (gc g 34 (RSf g n z pl ft he)) 36 st
theorem RS_2 (g : fp_G) (n : Nat) (z pl ft he : Int32) (st : Nat → Int32) (x : Int32) : gu (RS g n z pl ft he st) 34 2 x = RS g n x pl ft he st := by
  unfold RS
  rw [gcu_c _ _ _ _ (by decide), gcu_s]
  congr 2
  funext i
  by_cases h : i = 2 <;> simp [upd, RSf, h]
theorem RS_4 (g : fp_G) (n : Nat) (z pl ft he : Int32) (st : Nat → Int32) (x : Int32) : gu (RS g n z pl ft he st) 34 4 x = RS g n z x ft he st := by
  unfold RS
  rw [gcu_c _ _ _ _ (by decide), gcu_s]
  congr 2
  funext i
  by_cases h : i = 4 <;> simp [upd, RSf, h]
theorem RS_5 (g : fp_G) (n : Nat) (z pl ft he : Int32) (st : Nat → Int32) (x : Int32) : gu (RS g n z pl ft he st) 34 5 x = RS g n z pl x he st := by
  unfold RS
  rw [gcu_c _ _ _ _ (by decide), gcu_s]
  congr 2
  funext i
  by_cases h : i = 5 <;> simp [upd, RSf, h]
theorem RS_6 (g : fp_G) (n : Nat) (z pl ft he : Int32) (st : Nat → Int32) (x : Int32) : gu (RS g n z pl ft he st) 34 6 x = RS g n z pl ft x st := by
  unfold RS
  rw [gcu_c _ _ _ _ (by decide), gcu_s]
  congr 2
  funext i
  by_cases h : i = 6 <;> simp [upd, RSf, h]
theorem RS_st (g : fp_G) (n : Nat) (z pl ft he : Int32) (st : Nat → Int32) (k : Nat) (x : Int32) : gu (RS g n z pl ft he st) 36 k x = RS g n z pl ft he (upd st k x) := gcu_s _ _ _ _ _
/-- the tape -/
def TP (g : fp_G) (n : Nat) (B : Nat → Int32) : Prop := n ≤ 60 ∧ (∀ p, p < n → ∃ k, k ≤ 255 ∧ B p = nI k ∧ g 35 p &&& 255 = nI k) ∧ ∀ p, n ≤ p → B p = 0
theorem pc_k : ∀ k, k < 256 → ((nI k).toUInt32 % 65536).toInt32 = nI k ∧ narrow .char (.int (nI k)) = .int (nI k) ∧ fits .char (.int (nI k)) = true := by
  intro k hk
  have : ∀ k, k < 256 → ((nI k).toUInt32 % 65536).toInt32 = nI k := by decide +kernel
  have h2 : ∀ k, k < 256 → (nI k).toUInt32.toUInt16.toUInt32.toInt32 = nI k := by decide +kernel
  refine ⟨this k hk, ?_, ?_⟩
  · show Value.int (nI k).toUInt32.toUInt16.toUInt32.toInt32 = _
    rw [h2 k hk]
  · have h3 : ∀ k, k < 256 → fits .char (.int (nI k)) = true := by decide +kernel
    exact h3 k hk
theorem pc_i {g : fp_G} {q i k : Nat} {x : Int32} {P : fp_G → Prop} (hx : x = nI k) (hk : k < 256) (h : P (gu g q i x)) : fp_pc g q i x P := ⟨by rw [hx]; exact (pc_k k hk).2, h⟩
theorem s5_goTo {g : fp_G} {n p : Nat} {B : Nat → Int32} {z pl ft he : Int32} {st : Nat → Int32} {K : Int32 → fp_G → Prop} (hT : TP g n B) (hp : p ≤ 60) (k : K 0 (RS g n z (nI p) ft (B p) st)) : w_X5_goTo (nI p) (RS g n z pl ft he st) K := by
  obtain ⟨hn, h1, h2⟩ := hT
  unfold w_X5_goTo
  refine pf_i ?_
  rw [RS_4]
  refine j_I (ie ?_ (is (fun c => pc_i (k := 0) rfl (by omega) ?_) (fun c => rd_n (k := p) ?_ (by omega) ?_)))
  · rw [show (0 : Int32) = nI 0 from rfl, lt_n (by omega) (by omega)]
    omega
  · have c : nI n ≤ nI p := c
    rw [le_n (by omega) (by omega)] at c
    rw [RS_6]
    rw [h2 p c] at k
    exact k
  · have c : ¬ nI n ≤ nI p := c
    rw [le_n (by omega) (by omega)] at c
    omega
  · have c : ¬ nI n ≤ nI p := c
    rw [le_n (by omega) (by omega)] at c
    obtain ⟨j, hj, e1, e2⟩ := h1 p (by omega)
    have e3 : (((g 35 p) &&& 255 : Int32).toUInt32 % 65536).toInt32 = nI j := by rw [e2]; exact (pc_k j (by omega)).1
    refine pc_i (k := j) e3 (by omega) ?_
    show K 0 (gu (RS g n z (nI p) ft he st) 34 6 (((g 35 p) &&& 255 : Int32).toUInt32 % 65536).toInt32)
    rw [RS_6, e3, ← e1]
    exact k
def AL (g : fp_G) (n : Nat) (B : Nat → Int32) (p s : Nat) (st : Nat → Int32) : fp_G := RS g n (nI s) (nI p) (-1) (B p) st
def DD (g : fp_G) (n q s : Nat) (st : Nat → Int32) : fp_G := RS g n (nI s) (nI q) (nI q) 0 st
theorem s5_fail {g : fp_G} {n p s : Nat} {B : Nat → Int32} {st : Nat → Int32} {K : Int32 → fp_G → Prop} (k : K 0 (DD g n p s st)) : w_X5_fail (AL g n B p s st) K := by
  unfold w_X5_fail
  refine j_I (ie (show ¬ (0 : Int32) ≤ -1 by decide) (pf_i ?_))
  refine pc_i (k := 0) rfl (by omega) ?_
  unfold AL
  rw [RS_5, RS_6]
  exact k
theorem d5_fail {g : fp_G} {n q s : Nat} {st : Nat → Int32} {K : Int32 → fp_G → Prop} (hq : q ≤ 60) (k : K 0 (DD g n q s st)) : w_X5_fail (DD g n q s st) K := by
  unfold w_X5_fail
  refine j_I (it ?_ (pc_i (k := 0) rfl (by omega) ?_))
  · show (0 : Int32) ≤ nI q
    rw [show (0 : Int32) = nI 0 from rfl, le_n (by omega) (by omega)]
    omega
  · unfold DD
    rw [RS_6]
    exact k
theorem s5_takeT {g : fp_G} {n p s : Nat} {B : Nat → Int32} {st : Nat → Int32} {x : Int32} {K : Int32 → fp_G → Prop} (hT : TP g n B) (hp : p < 60) (h : B p = x) (k : K 1 (AL g n B (p + 1) s st)) : w_X5_take x (AL g n B p s st) K := by
  unfold w_X5_take
  refine it h ?_
  show w_X5_goTo (nI p + 1) _ _
  rw [show nI p + 1 = nI (p + 1) from (nI_succ p).symm]
  exact s5_goTo hT (by omega) k
theorem s5_takeF {g : fp_G} {n p s : Nat} {B : Nat → Int32} {st : Nat → Int32} {x : Int32} {K : Int32 → fp_G → Prop} (h : B p ≠ x) (k : K 0 (AL g n B p s st)) : w_X5_take x (AL g n B p s st) K := by
  unfold w_X5_take
  exact ie h k
theorem d5_take {g : fp_G} {n q s : Nat} {st : Nat → Int32} {x : Int32} {K : Int32 → fp_G → Prop} (h : (0 : Int32) ≠ x) (k : K 0 (DD g n q s st)) : w_X5_take x (DD g n q s st) K := by
  unfold w_X5_take
  exact ie h k
theorem s5_write {g : fp_G} {n s : Nat} {pl ft he x : Int32} {st : Nat → Int32} {K : Int32 → fp_G → Prop} (hs : s < 60) (k : K 0 (RS g n (nI (s + 1)) pl ft he (upd st s x))) : w_X5_write x (RS g n (nI s) pl ft he st) K := by
  unfold w_X5_write
  refine ie ?_ (wr_n (k := s) hs (by omega) (pf_i ?_))
  · show ¬ nI 60 ≤ nI s
    rw [le_n (by omega) (by omega)]
    omega
  · rw [RS_st, RS_2, show nI (s + 1) = nI s + 1 from nI_succ s] at *
    exact k
theorem d5_write {g : fp_G} {n q s : Nat} {x : Int32} {st : Nat → Int32} {K : Int32 → fp_G → Prop} (hs : s ≤ 60) (k : ∀ s' st', s' ≤ 60 → K 0 (DD g n q s' st')) : w_X5_write x (DD g n q s st) K := by
  by_cases c : s = 60
  · unfold w_X5_write
    refine it ?_ (k s st hs)
    show nI 60 ≤ nI s
    rw [le_n (by omega) (by omega)]
    omega
  · exact s5_write (by omega) (k (s + 1) _ (by omega))
theorem ixL_c (x : Int32) : (fp_ixf x (fp_str 0) 0 = -1 ∧ ∀ i, i < 9 → x ≠ L9 i) ∨ ∃ i, i < 9 ∧ x = L9 i ∧ fp_ixf x (fp_str 0) 0 = nI i := by
  show (fp_ixf x [107, 119, 97, 104, 115, 117, 111, 98, 99] 0 = -1 ∧ _) ∨ ∃ i, _ ∧ _ ∧ fp_ixf x [107, 119, 97, 104, 115, 117, 111, 98, 99] 0 = nI i
  simp only [fp_ixf]
  by_cases h0 : (107 : Int32) = x
  · exact Or.inr ⟨0, by omega, h0.symm, by rw [if_pos h0]; rfl⟩
  by_cases h1 : (119 : Int32) = x
  · exact Or.inr ⟨1, by omega, h1.symm, by rw [if_neg h0, if_pos h1]; rfl⟩
  by_cases h2 : (97 : Int32) = x
  · exact Or.inr ⟨2, by omega, h2.symm, by rw [if_neg h0, if_neg h1, if_pos h2]; rfl⟩
  by_cases h3 : (104 : Int32) = x
  · exact Or.inr ⟨3, by omega, h3.symm, by rw [if_neg h0, if_neg h1, if_neg h2, if_pos h3]; rfl⟩
  by_cases h4 : (115 : Int32) = x
  · exact Or.inr ⟨4, by omega, h4.symm, by rw [if_neg h0, if_neg h1, if_neg h2, if_neg h3, if_pos h4]; rfl⟩
  by_cases h5 : (117 : Int32) = x
  · exact Or.inr ⟨5, by omega, h5.symm, by rw [if_neg h0, if_neg h1, if_neg h2, if_neg h3, if_neg h4, if_pos h5]; rfl⟩
  by_cases h6 : (111 : Int32) = x
  · exact Or.inr ⟨6, by omega, h6.symm, by rw [if_neg h0, if_neg h1, if_neg h2, if_neg h3, if_neg h4, if_neg h5, if_pos h6]; rfl⟩
  by_cases h7 : (98 : Int32) = x
  · exact Or.inr ⟨7, by omega, h7.symm, by rw [if_neg h0, if_neg h1, if_neg h2, if_neg h3, if_neg h4, if_neg h5, if_neg h6, if_pos h7]; rfl⟩
  by_cases h8 : (99 : Int32) = x
  · exact Or.inr ⟨8, by omega, h8.symm, by rw [if_neg h0, if_neg h1, if_neg h2, if_neg h3, if_neg h4, if_neg h5, if_neg h6, if_neg h7, if_pos h8]; rfl⟩
  refine Or.inl ⟨by rw [if_neg h0, if_neg h1, if_neg h2, if_neg h3, if_neg h4, if_neg h5, if_neg h6, if_neg h7, if_neg h8], fun i hi e => ?_⟩
  have e := e.symm
  match i, hi with
  | 0, _ => exact h0 e
  | 1, _ => exact h1 e
  | 2, _ => exact h2 e
  | 3, _ => exact h3 e
  | 4, _ => exact h4 e
  | 5, _ => exact h5 e
  | 6, _ => exact h6 e
  | 7, _ => exact h7 e
  | 8, _ => exact h8 e
theorem ixS_c (x : Int32) : (fp_ixf x (fp_str 1) 0 = -1 ∧ ∀ i, i < 3 → x ≠ nI (60 + i)) ∨ ∃ i, i < 3 ∧ x = nI (60 + i) ∧ fp_ixf x (fp_str 1) 0 = nI i := by
  show (fp_ixf x [60, 61, 62] 0 = -1 ∧ _) ∨ ∃ i, _ ∧ _ ∧ fp_ixf x [60, 61, 62] 0 = nI i
  simp only [fp_ixf]
  by_cases h0 : (60 : Int32) = x
  · exact Or.inr ⟨0, by omega, h0.symm, by rw [if_pos h0]; rfl⟩
  by_cases h1 : (61 : Int32) = x
  · exact Or.inr ⟨1, by omega, h1.symm, by rw [if_neg h0, if_pos h1]; rfl⟩
  by_cases h2 : (62 : Int32) = x
  · exact Or.inr ⟨2, by omega, h2.symm, by rw [if_neg h0, if_neg h1, if_pos h2]; rfl⟩
  refine Or.inl ⟨by rw [if_neg h0, if_neg h1, if_neg h2], fun i hi e => ?_⟩
  have e := e.symm
  match i, hi with
  | 0, _ => exact h0 e
  | 1, _ => exact h1 e
  | 2, _ => exact h2 e
theorem TP.lt {g : fp_G} {n p : Nat} {B : Nat → Int32} (h : TP g n B) (hp : B p ≠ 0) : p < n := Nat.lt_of_not_le (fun z => hp (h.2.2 p z))
theorem TP.dg {g : fp_G} {n p : Nat} {B : Nat → Int32} (h : TP g n B) (hp : dgt (B p)) : p < n ∧ ∃ k, 48 ≤ k ∧ k ≤ 57 ∧ B p = nI k := by
  have hl : p < n := h.lt (fun z => by rw [z] at hp; exact hp.1 (by decide))
  obtain ⟨k, hk, e, _⟩ := h.2.1 p hl
  unfold dgt at hp
  rw [e, show (48 : Int32) = nI 48 from rfl, show (57 : Int32) = nI 57 from rfl, lt_n (by omega) (by omega), lt_n (by omega) (by omega)] at hp
  exact ⟨hl, k, by omega, by omega, e⟩
theorem nv_le {B : Nat → Int32} {p : Nat} : ∀ k, k ≤ 4 → (∀ i, i < k → tn (B (p + i)) ≤ 57) → nv B p k + 1 ≤ 10 ^ k
  | 0, _, _ => by simp [nv]
  | k + 1, h, d => by
    have h1 := nv_le k (by omega) (fun i hi => d i (by omega))
    have h2 := d k (by omega)
    rw [nv, Nat.pow_succ]
    omega
theorem d9 : ∀ k, k ≤ 4 → 10 ^ k ≤ 10000 := by
  intro k hk
  have : ∀ k, k < 5 → 10 ^ k ≤ 10000 := by decide
  exact this k (by omega)
theorem s5_unit {g : fp_G} {n p s : Nat} {B : Nat → Int32} {st : Nat → Int32} {K : Int32 → fp_G → Prop} (hT : TP g n B) (hp : p ≤ n) (k : ∀ q u, Ut B p q u → q ≤ n → p < q → u < 10009 → K (nI u) (AL g n B q s st)) (k2 : noU B p → K 0 (DD g n p s st)) : w_X5_unit (AL g n B p s st) K := by
  have hn := hT.1
  unfold w_X5_unit fp_ix
  show if fp_ixf (B p) (fp_str 0) 0 < 0 then _ else _
  rcases ixL_c (B p) with ⟨e, hno⟩ | ⟨i, hi, ei, e⟩
  · rw [e]
    refine it (by decide) (j_I (j_I ?_))
    have dead : ¬ dgt (B p) → w_X5_fail (AL g n B p s st) (fun _ g3 => ∃ n56, w_X5_unit_56 n56 0 0 g3 K) := by
      intro nd
      refine s5_fail ⟨1, ?_⟩
      rw [w_X5_unit_56]
      exact ie (by decide) (it (show (0 : Int32) < 48 by decide) (k2 ⟨hno, nd⟩))
    have loop : ∀ r j, j + r = 4 → (∀ i, i < j → dgt (B (p + i))) → (1 ≤ j ∨ dgt (B p)) → w_X5_unit_56 (r + 1) (nI (nv B p j)) (nI j) (AL g n B (p + j) s st) K := by
      intro r
      induction r with
      | zero =>
        intro j hj hd hf
        have hj : j = 4 := by omega
        subst hj
        rw [w_X5_unit_56]
        have hq := (hT.dg (hd 3 (by omega))).1
        have hb := nv_le (B := B) (p := p) 4 (by omega) (fun i hi => by obtain ⟨_, k, _, k2, e⟩ := hT.dg (hd i hi); rw [e, tn_n (by omega)]; exact k2)
        exact it (by decide) (k (p + 4) _ (Or.inr ⟨4, by omega, by omega, hd, fun z => absurd z (by omega), rfl, rfl⟩) (by omega) (by omega) (by omega))
      | succ r ih =>
        intro j hj hd hf
        rw [w_X5_unit_56]
        have hb := nv_le (B := B) (p := p) j (by omega) (fun i hi => by obtain ⟨_, k, _, k2, e⟩ := hT.dg (hd i hi); rw [e, tn_n (by omega)]; exact k2)
        have h9 := d9 j (by omega)
        have fin : ¬ dgt (B (p + j)) → K (nI (nv B p j)) (AL g n B (p + j) s st) := by
          intro nd
          have j1 : 1 ≤ j := by
            rcases hf with hf | hf
            · exact hf
            · refine Nat.pos_of_ne_zero (fun z => ?_)
              subst z
              exact nd hf
          have hq := (hT.dg (hd (j - 1) (by omega))).1
          exact k (p + j) _ (Or.inr ⟨j, j1, by omega, hd, fun _ => nd, rfl, rfl⟩) (by omega) (by omega) (by omega)
        refine ie ?_ (is (fun c => fin (fun z => z.1 c)) (fun c => is (fun c2 => fin (fun z => z.2 c2)) (fun c2 => ?_)))
        · show ¬ nI 4 ≤ nI j
          rw [le_n (by omega) (by omega)]
          omega
        obtain ⟨hl, m, m1, m2, em⟩ := hT.dg (p := p + j) ⟨c, c2⟩
        have ev : nI (nv B p j) * 10 + (B (p + j) - 48) = nI (nv B p (j + 1)) := by
          rw [nv, em, tn_n (by omega), show (10 : Int32) = nI 10 from rfl, pk_mul, show nI m - 48 = nI (m - 48) by rw [show m = (m - 48) + 48 by omega, ← nI_add, show (nI 48 : Int32) = 48 from rfl, Int32.add_sub_cancel, show m - 48 + 48 - 48 = m - 48 by omega], nI_add]
        show w_X5_goTo (nI (p + j) + 1) _ (fun _ g2 => w_X5_unit_56 (r + 1) (nI (nv B p j) * 10 + (B (p + j) - 48)) (nI j + 1) g2 K)
        rw [ev, show nI (p + j) + 1 = nI (p + (j + 1)) from (nI_succ (p + j)).symm, show nI j + 1 = nI (j + 1) from (nI_succ j).symm]
        refine s5_goTo hT (by omega) (ih (j + 1) (by omega) (fun i hi => ?_) (Or.inl (by omega)))
        by_cases z : i = j
        · subst z
          exact ⟨c, c2⟩
        · exact hd i (by omega)
    show if B p < 48 then _ else _
    refine is (fun c => dead (fun z => z.1 c)) (fun c => ?_)
    show if B p ≤ 57 then _ else _
    refine is (fun c2 => ⟨5, loop 4 0 rfl (fun i hi => absurd hi (by omega)) (Or.inr ⟨c, ?_⟩)⟩) (fun c2 => dead (fun z => z.2 ?_))
    · rw [le_I] at c2
      rw [lt_I]
      omega
    · rw [le_I] at c2
      rw [lt_I]
      omega
  · rw [e]
    have hl : p < n := hT.lt (by rw [ei]; match i, hi with | 0, _ => decide | 1, _ => decide | 2, _ => decide | 3, _ => decide | 4, _ => decide | 5, _ => decide | 6, _ => decide | 7, _ => decide | 8, _ => decide)
    refine ie ?_ ?_
    · rw [show (0 : Int32) = nI 0 from rfl, lt_n (by omega) (by omega)]
      omega
    · show w_X5_goTo (nI p + 1) _ _
      rw [show nI p + 1 = nI (p + 1) from (nI_succ p).symm]
      refine s5_goTo hT (by omega) ?_
      show K (10000 + fp_ixf (B p) (fp_str 0) 0) (AL g n B (p + 1) s st)
      rw [e, show (10000 : Int32) + nI i = nI (10000 + i) by rw [show (10000 : Int32) = nI 10000 from rfl, nI_add]]
      exact k (p + 1) (10000 + i) (Or.inl ⟨i, hi, ei, rfl, rfl⟩) (by omega) (by omega) (by omega)
theorem d5_unit {g : fp_G} {n q s : Nat} {st : Nat → Int32} {K : Int32 → fp_G → Prop} (hq : q ≤ 60) (k : K 0 (DD g n q s st)) : w_X5_unit (DD g n q s st) K := by
  unfold w_X5_unit fp_ix
  refine it (show fp_ixf 0 (fp_str 0) 0 < 0 by decide) (j_I (j_I (it (show (0 : Int32) < 48 by decide) (d5_fail hq ⟨1, ?_⟩))))
  rw [w_X5_unit_56]
  exact ie (by decide) (it (show (0 : Int32) < 48 by decide) k)
theorem s5_sign {g : fp_G} {n p s : Nat} {B : Nat → Int32} {st : Nat → Int32} {K : Int32 → fp_G → Prop} (hT : TP g n B) (k : ∀ i, i < 3 → B p = nI (60 + i) → p < n → K (nI i) (AL g n B (p + 1) s st)) (k2 : (∀ i, i < 3 → B p ≠ nI (60 + i)) → K 0 (DD g n p s st)) : w_X5_sign (AL g n B p s st) K := by
  have hn := hT.1
  unfold w_X5_sign fp_ix
  show if 0 ≤ fp_ixf (B p) (fp_str 1) 0 then _ else _
  rcases ixS_c (B p) with ⟨e, hno⟩ | ⟨i, hi, ei, e⟩
  · rw [e]
    exact ie (by decide) (s5_fail (k2 hno))
  · rw [e]
    have hl : p < n := hT.lt (by rw [ei, show (0 : Int32) = nI 0 from rfl]; intro z; rw [eq_n (by omega) (by omega)] at z; omega)
    refine it ?_ ?_
    · rw [show (0 : Int32) = nI 0 from rfl, le_n (by omega) (by omega)]
      omega
    · show w_X5_goTo (nI p + 1) _ _
      rw [show nI p + 1 = nI (p + 1) from (nI_succ p).symm]
      refine s5_goTo hT (by omega) ?_
      show K (fp_ixf (B p) (fp_str 1) 0) (AL g n B (p + 1) s st)
      rw [e]
      exact k i hi ei hl
theorem d5_sign {g : fp_G} {n q s : Nat} {st : Nat → Int32} {K : Int32 → fp_G → Prop} (hq : q ≤ 60) (k : K 0 (DD g n q s st)) : w_X5_sign (DD g n q s st) K := by
  unfold w_X5_sign fp_ix
  exact ie (show ¬ 0 ≤ fp_ixf 0 (fp_str 1) 0 by decide) (d5_fail hq k)
