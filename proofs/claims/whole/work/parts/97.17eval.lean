/-! ===== the class works the steps of an order ===== -/
theorem n_or (a b : Nat) : nI a ||| nI b = nI (a ||| b) := by
  rw [← Int32.toBitVec_inj]
  show BitVec.ofNat 32 a ||| BitVec.ofNat 32 b = BitVec.ofNat 32 (a ||| b)
  refine BitVec.eq_of_getLsbD_eq (fun i hi => ?_)
  simp [hi]
theorem n_and (a b : Nat) : nI a &&& nI b = nI (a &&& b) := by
  rw [← Int32.toBitVec_inj]
  show BitVec.ofNat 32 a &&& BitVec.ofNat 32 b = BitVec.ofNat 32 (a &&& b)
  refine BitVec.eq_of_getLsbD_eq (fun i hi => ?_)
  simp [hi]
theorem n_xor (a b : Nat) : nI a ^^^ nI b = nI (a ^^^ b) := by
  rw [← Int32.toBitVec_inj]
  show BitVec.ofNat 32 a ^^^ BitVec.ofNat 32 b = BitVec.ofNat 32 (a ^^^ b)
  refine BitVec.eq_of_getLsbD_eq (fun i hi => ?_)
  simp [hi]
theorem or_add {a k : Nat} (b : Nat) (h : a < 2 ^ k) : nI (2 ^ k * b) ||| nI a = nI (2 ^ k * b + a) := by rw [n_or, Nat.two_pow_add_eq_or_of_lt h]
theorem encS_n {u s v : Nat} (hu : u < 10009) (hs : s < 3) (hv : v < 10009) : encS u s v = nI (65536 * u + 16384 * s + v) := by
  unfold encS
  rw [pk_shlN ((2 : Int32) &&& 31) 2 (by decide) (by omega), show u * 2 ^ 2 = 2 ^ 2 * u by omega, or_add u (by omega : s < 2 ^ 2), pk_shlN ((14 : Int32) &&& 31) 14 (by decide) (by omega), show (2 ^ 2 * u + s) * 2 ^ 14 = 2 ^ 14 * (2 ^ 2 * u + s) by omega, or_add _ (by omega : v < 2 ^ 14), show 2 ^ 14 * (2 ^ 2 * u + s) + v = 65536 * u + 16384 * s + v by omega]
theorem s3_value {u : Nat} {x : Int32} {g : fp_G} {K : Int32 → fp_G → Prop} (hx : x = nI u) (hu : u < 10009) (k : K (uv u (g 5)) g) : w_X3_valueOf x g K := by
  unfold w_X3_valueOf
  unfold uv at k
  subst hx
  by_cases c : 10000 ≤ u
  · have e : nI u - 10000 = nI (u - 10000) := by
      rw [show u = (u - 10000) + 10000 by omega, ← nI_add, show (nI 10000 : Int32) = 10000 from rfl, Int32.add_sub_cancel, show u - 10000 + 10000 - 10000 = u - 10000 by omega]
    rw [if_pos ⟨c, hu⟩] at k
    refine j_I (ie ?_ (ie ?_ (rd_e e (by omega) (by omega) k)))
    · rw [e, show (0 : Int32) = nI 0 from rfl, lt_n (by omega) (by omega)]
      omega
    · rw [e, show (9 : Int32) = nI 9 from rfl, le_n (by omega) (by omega)]
      omega
  · rw [if_neg (fun z => c z.1)] at k
    refine j_I (it ?_ k)
    rw [lt_I, show (10000 : Int32) = nI 10000 from rfl, sub_n (by omega) (by omega), show (0 : Int32).toInt = 0 from rfl]
    omega
theorem s3_step {u s v : Nat} {g : fp_G} {K : Int32 → fp_G → Prop} (hu : u < 10009) (hs : s < 3) (hv : v < 10009) (k : K (bI (cmpS s (uv u (g 5)) (uv v (g 5)))) g) : w_X3_isTrueStep (encS u s v) g K := by
  unfold w_X3_isTrueStep
  rw [encS_n hu hs hv]
  have e1 : nI (65536 * u + 16384 * s + v) >>> ((16 : Int32) &&& 31) = nI u := by
    rw [pk_shrN (by omega) ((16 : Int32) &&& 31) 16 (by decide), show (65536 * u + 16384 * s + v) / 2 ^ 16 = u by omega]
  have e2 : nI (65536 * u + 16384 * s + v) &&& 16383 = nI v := by
    rw [pk_andN (by omega) 14 (by decide), show (65536 * u + 16384 * s + v) % 2 ^ 14 = v by omega]
  have e3 : (nI (65536 * u + 16384 * s + v) >>> ((14 : Int32) &&& 31)) &&& 3 = nI s := by
    rw [pk_shrN (by omega) ((14 : Int32) &&& 31) 14 (by decide), pk_andN (by omega) 2 (by decide), show (65536 * u + 16384 * s + v) / 2 ^ 14 % 2 ^ 2 = s by omega]
  refine s3_value e1 hu (s3_value e2 hv ?_)
  rw [e3]
  unfold cmpS at k
  match s, hs with
  | 0, _ =>
    rw [if_pos rfl] at k
    refine it rfl (is (fun c => ?_) (fun c => ?_))
    · rw [decide_eq_false (by rw [le_I] at c; rw [lt_I]; omega)] at k
      exact k
    · rw [decide_eq_true (by rw [le_I] at c; rw [lt_I]; omega)] at k
      exact k
  | 1, _ =>
    rw [if_neg (by omega), if_pos rfl] at k
    refine ie (by decide) (it rfl (is (fun c => ?_) (fun c => ?_)))
    · rw [decide_eq_true c] at k
      exact k
    · rw [decide_eq_false c] at k
      exact k
  | 2, _ =>
    rw [if_neg (by omega), if_neg (by omega)] at k
    refine ie (by decide) (ie (by decide) (is (fun c => ?_) (fun c => ?_)))
    · rw [decide_eq_false (by rw [le_I] at c; rw [lt_I]; omega)] at k
      exact k
    · rw [decide_eq_true (by rw [le_I] at c; rw [lt_I]; omega)] at k
      exact k
/-- the bits of what is not used up yet -/
def num : List Bool → Nat
  | [] => 0
  | b :: V => 2 * num V + (if b then 1 else 0)
theorem num_lt : ∀ V : List Bool, num V < 2 ^ V.length
  | [] => by decide
  | b :: V => by
    have := num_lt V
    show 2 * num V + (if b then 1 else 0) < 2 ^ (V.length + 1)
    rw [Nat.pow_succ]
    split <;> omega
theorem num_b {V : List Bool} {d : Nat} (h : V.length ≤ d) (hd : d ≤ 30) : num V < 2 ^ 30 := by
  have h1 := num_lt V
  have h2 : 2 ^ V.length ≤ 2 ^ 30 := Nat.pow_le_pow_right (by omega) (by omega)
  omega
theorem xor1 (m : Nat) : (2 * m) ^^^ 1 = 2 * m + 1 ∧ (2 * m + 1) ^^^ 1 = 2 * m := by
  have h1 := Nat.xor_div_two (a := 2 * m) (b := 1)
  have h2 := Nat.xor_mod_two_eq_one (a := 2 * m) (b := 1)
  have h3 := Nat.xor_div_two (a := 2 * m + 1) (b := 1)
  have h4 := Nat.xor_mod_two_eq_one (a := 2 * m + 1) (b := 1)
  rw [show (1 : Nat) / 2 = 0 from rfl, Nat.xor_zero] at h1 h3
  have a2 : ¬ (2 * m % 2 = 1 ↔ 1 % 2 = 1) := by omega
  have a4 : ¬ ¬ ((2 * m + 1) % 2 = 1 ↔ 1 % 2 = 1) := by omega
  have b2 := h2.mpr a2
  have b4 : ¬ ((2 * m + 1) ^^^ 1) % 2 = 1 := fun z => a4 (h4.mp z)
  omega
theorem o_not (b : Bool) (V : List Bool) : nI (num (b :: V)) ^^^ 1 = nI (num ((!b) :: V)) := by
  show nI (2 * num V + (if b then 1 else 0)) ^^^ nI 1 = nI (2 * num V + (if !b then 1 else 0))
  rw [n_xor]
  have := xor1 (num V)
  cases b
  · simp [this.1]
  · simp [this.2]
theorem o_low (b : Bool) (V : List Bool) (h : num (b :: V) < 2 ^ 30) : nI (num (b :: V)) &&& 1 = bI b := by
  rw [pk_andN (by omega) 1 (by decide)]
  show nI ((2 * num V + (if b then 1 else 0)) % 2 ^ 1) = bI b
  cases b
  · rw [if_neg (by decide), show (2 * num V + 0) % 2 ^ 1 = 0 by omega]
    rfl
  · rw [if_pos rfl, show (2 * num V + 1) % 2 ^ 1 = 1 by omega]
    rfl
theorem o_shr (b : Bool) (V : List Bool) (h : num (b :: V) < 2 ^ 30) : nI (num (b :: V)) >>> ((1 : Int32) &&& 31) = nI (num V) := by
  rw [pk_shrN (by omega) ((1 : Int32) &&& 31) 1 (by decide)]
  show nI ((2 * num V + (if b then 1 else 0)) / 2 ^ 1) = _
  rw [show (2 * num V + (if b then 1 else 0)) / 2 ^ 1 = num V by split <;> omega]
theorem o_clear (b : Bool) (V : List Bool) (h : num (b :: V) < 2 ^ 30) : nI (num (b :: V)) &&& (-2) = nI (num (false :: V)) := by
  rw [show (-2 : Int32) = nI 4294967294 from rfl, n_and]
  have h1 := Nat.and_div_two (a := num (b :: V)) (b := 4294967294)
  have h2 := Nat.and_mod_two_eq_one (a := num (b :: V)) (b := 4294967294)
  rw [show (4294967294 : Nat) / 2 = 2 ^ 31 - 1 from rfl, Nat.and_two_pow_sub_one_eq_mod, Nat.mod_eq_of_lt (by omega)] at h1
  have e : num (b :: V) / 2 = num V := by
    show (2 * num V + (if b then 1 else 0)) / 2 = num V
    split <;> omega
  have e2 : ¬ (num (b :: V) &&& 4294967294) % 2 = 1 := fun z => absurd (h2.mp z).2 (by decide)
  have : num (b :: V) &&& 4294967294 = num (false :: V) := by
    show _ = 2 * num V + 0
    omega
  rw [this]
theorem o_or (x y : Bool) (V : List Bool) : nI (num (x :: V)) ||| bI y = nI (num ((x || y) :: V)) := by
  cases y
  · show nI _ ||| nI 0 = _
    rw [n_or, Nat.or_zero, Bool.or_false]
  · show nI (2 * num V + (if x then 1 else 0)) ||| nI 1 = nI (2 * num V + (if (x || true) then 1 else 0))
    rw [n_or]
    have h1 := Nat.or_div_two (a := 2 * num V + (if x then 1 else 0)) (b := 1)
    have h2 := Nat.or_mod_two_eq_one (a := 2 * num V + (if x then 1 else 0)) (b := 1)
    rw [show (1 : Nat) / 2 = 0 from rfl, Nat.or_zero] at h1
    have h2 := h2.mpr (Or.inr rfl)
    rw [Bool.or_true, if_pos rfl]
    have : (2 * num V + (if x then 1 else 0)) / 2 = num V := by split <;> omega
    rw [show (2 * num V + if x = true then 1 else 0) ||| 1 = 2 * num V + 1 by omega]
theorem o_push (z : Bool) (V : List Bool) (h : num V < 2 ^ 30) : (nI (num V) <<< ((1 : Int32) &&& 31)) ||| bI z = nI (num (z :: V)) := by
  rw [pk_shlN ((1 : Int32) &&& 31) 1 (by decide) (by omega), show num V * 2 ^ 1 = num (false :: V) by show _ = 2 * num V + 0; omega, o_or, Bool.false_or]
section
variable {g : fp_G} {K : Int32 → fp_G → Prop} {t m : Nat} {C : List Int32}
def WT (g : fp_G) (K : Int32 → fp_G → Prop) (t m i : Nat) (V : List Bool) : Prop := w_X3_isTrue_11 (m - i + 1) (nI t) (nI (num V)) (nI (60 * t)) (nI i) g K
/-- one step -/
theorem WT_step (ht : t < 30) (hm : m ≤ 60) (h32 : g 32 t = nI m) {i : Nat} (hi : i < m) {V W : List Bool} (hV : V.length ≤ 30)
    (k : WT g K t m (i + 1) W)
    (h : (∃ b V', V = b :: V' ∧ W = (!b) :: V' ∧ g 33 (60 * t + i) = -1) ∨ (∃ y x V', V = y :: x :: V' ∧ W = (x && y) :: V' ∧ g 33 (60 * t + i) = -2) ∨ (∃ y x V', V = y :: x :: V' ∧ W = (x || y) :: V' ∧ g 33 (60 * t + i) = -3) ∨ (∃ u s v, u < 10009 ∧ s < 3 ∧ v < 10009 ∧ g 33 (60 * t + i) = encS u s v ∧ W = cmpS s (uv u (g 5)) (uv v (g 5)) :: V)) : WT g K t m i V := by
  unfold WT at k ⊢
  rw [show m - i + 1 = (m - (i + 1) + 1) + 1 by omega, w_X3_isTrue_11]
  have hb := num_b (V := V) hV (by omega)
  refine rd_v (v := nI m) rfl ht (by omega) h32 (ie ?_ (rd_e (k := 60 * t + i) (by rw [nI_add]) (by omega) (by omega) (j_I ?_)))
  · rw [le_n (by omega) (by omega)]
    omega
  rw [show nI i + 1 = nI (i + 1) from (nI_succ i).symm]
  rcases h with ⟨b, V', rfl, rfl, e⟩ | ⟨y, x, V', rfl, rfl, e⟩ | ⟨y, x, V', rfl, rfl, e⟩ | ⟨u, s, v, hu, hs, hv, e, rfl⟩ <;> rw [e]
  · refine it rfl ?_
    rw [o_not]
    exact k
  · have hb2 : num (x :: V') < 2 ^ 30 := num_b (V := x :: V') (d := 30) (by simp only [List.length_cons] at hV ⊢; omega) (by omega)
    refine ie (by decide) (it rfl (j_I ?_))
    rw [o_low _ _ hb, o_shr _ _ hb]
    cases y
    · refine ie (by decide) ?_
      rw [o_clear _ _ hb2]
      rw [Bool.and_false] at k
      exact k
    · refine it rfl ?_
      rw [Bool.and_true] at k
      exact k
  · refine ie (by decide) (ie (by decide) (it rfl ?_))
    rw [o_low _ _ hb, o_shr _ _ hb, o_or]
    exact k
  · have pos : ∀ w : Nat, 1 ≤ w → w ≤ 3 → ¬ encS u s v = - nI w := by
      intro w h1 h2 z
      rw [encS_n hu hs hv, eq_I, nI_I (by omega), Int32.toInt_neg, nI_I (by omega), Int.bmod_eq_of_le (by omega) (by omega)] at z
      omega
    refine ie (pos 1 (by omega) (by omega)) (ie (pos 2 (by omega) (by omega)) (ie (pos 3 (by omega) (by omega)) (s3_step hu hs hv (j_I ?_))))
    have fin : ∀ z : Int32, z = bI (cmpS s (uv u (g 5)) (uv v (g 5))) → w_X3_isTrue_11 (m - (i + 1) + 1) (nI t) ((nI (num V) <<< ((1 : Int32) &&& 31)) ||| z) (nI (60 * t)) (nI (i + 1)) g K := by
      rintro z rfl
      rw [o_push _ _ hb]
      exact k
    cases e5 : cmpS s (uv u (g 5)) (uv v (g 5))
    · exact it rfl (fin _ (by rw [e5]; rfl))
    · exact ie (by decide) (fin _ (by rw [e5]; rfl))
theorem getD_l {α : Type} (c d : List α) (x : α) {i : Nat} (h : i < c.length) : (c ++ d).getD i x = c.getD i x := by
  rw [List.getD_eq_getElem?_getD, List.getD_eq_getElem?_getD, List.getElem?_append_left h]
theorem getD_r {α : Type} (c d : List α) (x : α) (i : Nat) : (c ++ d).getD (c.length + i) x = d.getD i x := by
  rw [List.getD_eq_getElem?_getD, List.getD_eq_getElem?_getD, List.getElem?_append_right (by omega), show c.length + i - c.length = i by omega]
theorem PX_ev {B : Nat → Int32} (ht : t < 30) (hm : m ≤ 60) (h32 : g 32 t = nI m) {k l p q : Nat} {c : List Int32} {f : (Nat → Int32) → Bool} (hx : PX B k l p q c f) :
    k ≤ 5 → l ≤ 2 → ∀ i V, i + c.length ≤ m → (∀ j, j < c.length → g 33 (60 * t + (i + j)) = c.getD j 0) → V.length + (11 - 2 * k + l) ≤ 30 → WT g K t m (i + c.length) (f (g 5) :: V) → WT g K t m i V := by
  refine hx (fun k l p q c f => k ≤ 5 → l ≤ 2 → ∀ i V, i + c.length ≤ m → (∀ j, j < c.length → g 33 (60 * t + (i + j)) = c.getD j 0) → V.length + (11 - 2 * k + l) ≤ 30 → WT g K t m (i + c.length) (f (g 5) :: V) → WT g K t m i V) ⟨?_, ?_, ?_, ?_, ?_, ?_, ?_⟩
  · intro k p q r u s v _ _ _ h4 h5 _ _ h8 hk hl i V hi hc hV kk
    have hi : i + 1 ≤ m := hi
    refine WT_step ht hm h32 (by omega) (by omega) kk (Or.inr (Or.inr (Or.inr ⟨u, s, v, h4, h5, h8, hc 0 (by show 0 < 1; omega), rfl⟩)))
  · intro k p q c f _ h2 ih hk hl i V hi hc hV kk
    rw [List.length_append, List.length_singleton] at hi kk
    refine ih (by omega) (by omega) i V (by omega) (fun j hj => ?_) (by omega) ?_
    · rw [hc j (by rw [List.length_append]; omega), getD_l _ _ _ hj]
    · refine WT_step ht hm h32 (by omega) (by simp only [List.length_cons]; omega) kk (Or.inl ⟨_, V, rfl, rfl, ?_⟩)
      rw [hc c.length (by rw [List.length_append, List.length_singleton]; omega), show c.length = c.length + 0 from rfl, getD_r]
      rfl
  · intro k p q c f _ h2 ih _ hk hl i V hi hc hV kk
    exact ih (by omega) (by omega) i V hi hc (by omega) kk
  · intro k p q c f ih hk hl i V hi hc hV kk
    exact ih hk (by omega) i V hi hc (by omega) kk
  · intro k p q r c d f h ih1 _ ih2 hk hl i V hi hc hV kk
    rw [List.length_append, List.length_append, List.length_singleton] at hi kk
    rw [show i + (c.length + d.length + 1) = i + c.length + d.length + 1 by omega] at kk
    have ll : (c ++ d ++ [(-2 : Int32)]).length = c.length + d.length + 1 := by rw [List.length_append, List.length_append, List.length_singleton]
    refine ih1 hk hl i V (by omega) (fun j hj => ?_) (by omega) (ih2 hk (by omega) (i + c.length) (f (g 5) :: V) (by omega) (fun j hj => ?_) (by simp only [List.length_cons]; omega) ?_)
    · rw [hc j (by omega), getD_l _ _ _ (by rw [List.length_append]; omega), getD_l _ _ _ hj]
    · rw [Nat.add_assoc, hc (c.length + j) (by omega), getD_l _ _ _ (by rw [List.length_append]; omega), getD_r]
    · refine WT_step ht hm h32 (by omega) (by simp only [List.length_cons]; omega) kk (Or.inr (Or.inl ⟨_, _, V, rfl, rfl, ?_⟩))
      rw [Nat.add_assoc, hc (c.length + d.length) (by omega), show c.length + d.length = (c ++ d).length + 0 by rw [List.length_append]; rfl, getD_r]
      rfl
  · intro k p q c f ih hk hl i V hi hc hV kk
    exact ih hk (by omega) i V hi hc (by omega) kk
  · intro k p q r c d f h ih1 _ ih2 hk hl i V hi hc hV kk
    rw [List.length_append, List.length_append, List.length_singleton] at hi kk
    rw [show i + (c.length + d.length + 1) = i + c.length + d.length + 1 by omega] at kk
    have ll : (c ++ d ++ [(-3 : Int32)]).length = c.length + d.length + 1 := by rw [List.length_append, List.length_append, List.length_singleton]
    refine ih1 hk hl i V (by omega) (fun j hj => ?_) (by omega) (ih2 hk (by omega) (i + c.length) (f (g 5) :: V) (by omega) (fun j hj => ?_) (by simp only [List.length_cons]; omega) ?_)
    · rw [hc j (by omega), getD_l _ _ _ (by rw [List.length_append]; omega), getD_l _ _ _ hj]
    · rw [Nat.add_assoc, hc (c.length + j) (by omega), getD_l _ _ _ (by rw [List.length_append]; omega), getD_r]
    · refine WT_step ht hm h32 (by omega) (by simp only [List.length_cons]; omega) kk (Or.inr (Or.inr (Or.inl ⟨_, _, V, rfl, rfl, ?_⟩)))
      rw [Nat.add_assoc, hc (c.length + d.length) (by omega), show c.length + d.length = (c ++ d).length + 0 by rw [List.length_append]; rfl, getD_r]
      rfl
theorem s3_isTrue {B : Nat → Int32} (ht : t < 30) {c : List Int32} {f : (Nat → Int32) → Bool} {sz : Nat} (hx : PX B 0 2 0 sz c f) (hm : c.length ≤ 60) (h32 : g 32 t = nI c.length) (h33 : ∀ i, i < c.length → g 33 (60 * t + i) = c.getD i 0) (k : K (bI (f (g 5))) g) : w_X3_isTrue (nI t) g K := by
  unfold w_X3_isTrue
  refine ⟨c.length - 0 + 1, ?_⟩
  have main := PX_ev (K := K) ht hm h32 hx (by omega) (by omega) 0 [] (by omega) (fun j hj => by rw [Nat.zero_add]; exact h33 j hj) (by simp) ?_
  · rw [show nI t * 60 = nI (60 * t) by rw [show (60 : Int32) = nI 60 from rfl, pk_mul, Nat.mul_comm]]
    exact main
  · unfold WT
    rw [Nat.zero_add, Nat.sub_self, w_X3_isTrue_11]
    refine rd_v rfl ht (by omega) h32 (it ?_ ?_)
    · rw [le_n (by omega) (by omega)]
      omega
    rw [o_low _ _ (num_b (V := [f (g 5)]) (d := 30) (by simp) (by omega))]
    cases e : f (g 5) <;> rw [e] at k
    · exact ie (by decide) k
    · exact it rfl k
end
