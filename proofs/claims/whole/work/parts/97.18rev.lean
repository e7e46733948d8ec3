/-! ===== the reference works a text ===== -/
def ES (g : fp_G) (r w v : Nat) (f h : Nat → Int32) : fp_G := gu (gu (gu (gc (gc g 110 f) 111 h) 67 57 (nI r)) 67 58 (nI w)) 67 59 (nI v)
theorem ES_57 (g : fp_G) (r w v : Nat) (f h : Nat → Int32) (x : Nat) : gu (ES g r w v f h) 67 57 (nI x) = ES g x w v f h := by
  funext a i
  unfold ES
  by_cases h1 : a = 67 ∧ i = 57 <;> by_cases h2 : a = 67 ∧ i = 58 <;> by_cases h3 : a = 67 ∧ i = 59 <;> simp [gu, h1, h2, h3]
theorem ES_58 (g : fp_G) (r w v : Nat) (f h : Nat → Int32) (x : Nat) : gu (ES g r w v f h) 67 58 (nI x) = ES g r x v f h := by
  funext a i
  unfold ES
  by_cases h1 : a = 67 ∧ i = 57 <;> by_cases h2 : a = 67 ∧ i = 58 <;> by_cases h3 : a = 67 ∧ i = 59 <;> simp [gu, h1, h2, h3]
theorem ES_59 (g : fp_G) (r w v : Nat) (f h : Nat → Int32) (x : Nat) : gu (ES g r w v f h) 67 59 (nI x) = ES g r w x f h := guu_s _ _ _ _ _
theorem ES_w (g : fp_G) (r w v : Nat) (f h : Nat → Int32) (k : Nat) (x : Int32) : gu (ES g r w v f h) 110 k x = ES g r w v (upd f k x) h := by
  funext a i
  unfold ES
  by_cases h1 : a = 110
  · subst h1
    by_cases h2 : i = k <;> simp [gu, gc, upd, h2]
  · simp [gu, gc, h1]
theorem ES_v (g : fp_G) (r w v : Nat) (f h : Nat → Int32) (k : Nat) (x : Int32) : gu (ES g r w v f h) 111 k x = ES g r w v f (upd h k x) := by
  funext a i
  unfold ES
  by_cases h1 : a = 111
  · subst h1
    by_cases h2 : i = k <;> simp [gu, gc, upd, h2]
  · simp [gu, gc, h1]
/-- the text of order t -/
def TE (g : fp_G) (t n : Nat) (B : Nat → Int32) : Prop := t < 30 ∧ n ≤ 60 ∧ g 105 t = nI n ∧ (∀ p, p < n → g 104 (60 * t + p) = B p ∧ ∃ k, k ≤ 255 ∧ B p = nI k) ∧ ∀ p, n ≤ p → B p = 0
def negN : Nat → Bool → Bool
  | 0, v => v
  | k + 1, v => negN k (!v)
def zs (j : Nat) (W : List Int32) : List Int32 := List.replicate j 0 ++ W
theorem zs_len (j : Nat) (W : List Int32) : (zs j W).length = W.length + j := by
  unfold zs
  rw [List.length_append, List.length_replicate]
  omega
theorem zs_succ (j : Nat) (W : List Int32) : zs (j + 1) W = 0 :: zs j W := rfl
/-- on top stands what works(m) leaves -/
def hdm (m : Int32) (W : List Int32) : Prop := W = [] ∨ ∃ x W', W = x :: W' ∧ m < x
def pd1 (v : Bool) (W : List Int32) (V : List Bool) (W' : List Int32) (V' : List Bool) : Prop := (W' = W ∧ V' = v :: V) ∨ ∃ x y, W' = 1 :: W ∧ V' = y :: x :: V ∧ v = (x && y)
def pd2 (v : Bool) (W : List Int32) (V : List Bool) (W' : List Int32) (V' : List Bool) : Prop := pd1 v W V W' V' ∨ ∃ x w, v = (x || w) ∧ pd1 w (2 :: W) (x :: V) W' V'
theorem bI_and (x y : Bool) : bI x &&& bI y = bI (x && y) := by cases x <;> cases y <;> rfl
theorem bI_or (x y : Bool) : bI x ||| bI y = bI (x || y) := by cases x <;> cases y <;> rfl
theorem bI_not (x : Bool) : 1 - bI x = bI (!x) := by cases x <;> rfl
section
variable {g : fp_G} {K : Int32 → fp_G → Prop} {t n : Nat} {B : Nat → Int32}
def WK (g : fp_G) (K : Int32 → fp_G → Prop) (N : Nat) (m : Int32) (r : Nat) (W : List Int32) (V : List Bool) : Prop := ∀ f h, stk f W → stk h (V.map bI) → w_X9_works_0 N m (ES g r W.length V.length f h) K
/-- any state with these stacks -/
def AS (g : fp_G) (P : fp_G → Prop) (r : Nat) (W : List Int32) (V : List Bool) : Prop := ∀ f h, stk f W → stk h (V.map bI) → P (ES g r W.length V.length f h)
theorem wk_stop {N r : Nat} {m : Int32} {W : List Int32} {V : List Bool} (hW : W.length ≤ 60) (hm : hdm m W) (k : AS g (K 0) r W V) : WK g K (N + 1) m r W V := by
  intro f h h1 h2
  rw [w_X9_works_0]
  rcases hm with rfl | ⟨x, W', rfl, hx⟩
  · exact it (show nI 0 ≤ 0 by decide) (k f h h1 h2)
  · have hW : W'.length + 1 ≤ 60 := hW
    have e1 : nI (W'.length + 1) - 1 = nI W'.length := by rw [nI_succ]; exact inc_dec _
    refine ie ?_ (rd_v (k := W'.length) (v := x) e1 (by omega) (by omega) h1.1 (it hx (k f h h1 h2)))
    show ¬ nI (W'.length + 1) ≤ nI 0
    rw [le_n (by omega) (by omega)]
    omega
theorem map_len (V : List Bool) : (V.map bI).length = V.length := List.length_map _
theorem wk_go {N r : Nat} {m x : Int32} {W : List Int32} {V V' : List Bool} (hW : W.length < 60) (hV : V.length ≤ 60) (hm : ¬ m < x) (k : WK g K N m r W V')
    (h : (x = 0 ∧ ∃ v V0, V = v :: V0 ∧ V' = (!v) :: V0) ∨ (x = 1 ∧ ∃ b a V0, V = b :: a :: V0 ∧ V' = (a && b) :: V0) ∨ (x = 2 ∧ ∃ b a V0, V = b :: a :: V0 ∧ V' = (a || b) :: V0)) : WK g K (N + 1) m r (x :: W) V := by
  intro f hh h1 h2
  rw [w_X9_works_0]
  have e1 : nI (W.length + 1) - 1 = nI W.length := by rw [nI_succ]; exact inc_dec _
  refine ie ?_ (rd_v (k := W.length) (v := x) e1 (by omega) (by omega) h1.1 (ie hm (pf_i ?_)))
  · show ¬ nI (W.length + 1) ≤ nI 0
    rw [le_n (by omega) (by omega)]
    omega
  rw [show gu (ES g r (x :: W).length V.length f hh) 67 58 (ES g r (x :: W).length V.length f hh 67 58 - 1) = ES g r W.length V.length f hh by
    show gu (ES g r (W.length + 1) V.length f hh) 67 58 (nI (W.length + 1) - 1) = _
    rw [e1, ES_58]]
  refine rd_v (k := W.length) (v := x) rfl (by omega) (by omega) h1.1 (j_I ?_)
  rcases h with ⟨rfl, v, V0, rfl, rfl⟩ | ⟨rfl, b, a, V0, rfl, rfl⟩ | ⟨rfl, b, a, V0, rfl, rfl⟩
  · simp only [List.length_cons] at hV
    have e2 : nI (V0.length + 1) - 1 = nI V0.length := by rw [nI_succ]; exact inc_dec _
    have hv : hh V0.length = bI v := by have := h2.1; rw [map_len] at this; exact this
    refine it rfl (rd_v (k := V0.length) (v := bI v) e2 (by omega) (by omega) hv (wr_e (k := V0.length) e2 (by omega) (by omega) ?_))
    rw [ES_v, bI_not]
    refine k _ _ h1.2 ⟨?_, ?_⟩
    · rw [map_len]
      exact upd_s _ _ _
    · exact stk_upd (by rw [map_len]; exact Nat.le_refl _) h2.2
  · simp only [List.length_cons] at hV
    have e2 : nI (V0.length + 1 + 1) - 1 = nI (V0.length + 1) := by rw [nI_succ (V0.length + 1)]; exact inc_dec _
    have e3 : nI (V0.length + 1) - 1 = nI V0.length := by rw [nI_succ]; exact inc_dec _
    have hb : hh (V0.length + 1) = bI b := by have := h2.1; rw [map_len] at this; exact this
    have ha : hh V0.length = bI a := by have := h2.2.1; rw [map_len] at this; exact this
    refine ie (by decide) (pf_i ?_)
    rw [show gu (ES g r W.length (b :: a :: V0).length f hh) 67 59 (ES g r W.length (b :: a :: V0).length f hh 67 59 - 1) = ES g r W.length (V0.length + 1) f hh by
      show gu (ES g r W.length (V0.length + 1 + 1) f hh) 67 59 (nI (V0.length + 1 + 1) - 1) = _
      rw [e2, ES_59]]
    refine j_I (it rfl (rd_v (k := V0.length) (v := bI a) e3 (by omega) (by omega) ha (rd_v (k := V0.length + 1) (v := bI b) rfl (by omega) (by omega) hb (wr_e (k := V0.length) e3 (by omega) (by omega) ?_))))
    rw [ES_v, bI_and]
    refine k _ _ h1.2 ⟨?_, ?_⟩
    · rw [map_len]
      exact upd_s _ _ _
    · exact stk_upd (by rw [map_len]; exact Nat.le_refl _) h2.2.2
  · simp only [List.length_cons] at hV
    have e2 : nI (V0.length + 1 + 1) - 1 = nI (V0.length + 1) := by rw [nI_succ (V0.length + 1)]; exact inc_dec _
    have e3 : nI (V0.length + 1) - 1 = nI V0.length := by rw [nI_succ]; exact inc_dec _
    have hb : hh (V0.length + 1) = bI b := by have := h2.1; rw [map_len] at this; exact this
    have ha : hh V0.length = bI a := by have := h2.2.1; rw [map_len] at this; exact this
    refine ie (by decide) (pf_i ?_)
    rw [show gu (ES g r W.length (b :: a :: V0).length f hh) 67 59 (ES g r W.length (b :: a :: V0).length f hh 67 59 - 1) = ES g r W.length (V0.length + 1) f hh by
      show gu (ES g r W.length (V0.length + 1 + 1) f hh) 67 59 (nI (V0.length + 1 + 1) - 1) = _
      rw [e2, ES_59]]
    refine j_I (ie (by decide) (rd_v (k := V0.length) (v := bI a) e3 (by omega) (by omega) ha (rd_v (k := V0.length + 1) (v := bI b) rfl (by omega) (by omega) hb (wr_e (k := V0.length) e3 (by omega) (by omega) ?_))))
    rw [ES_v, bI_or]
    refine k _ _ h1.2 ⟨?_, ?_⟩
    · rw [map_len]
      exact upd_s _ _ _
    · exact stk_upd (by rw [map_len]; exact Nat.le_refl _) h2.2.2
def WKs (g : fp_G) (K : Int32 → fp_G → Prop) (m : Int32) (r : Nat) (W : List Int32) (V : List Bool) : Prop := AS g (fun G => w_X9_works m G K) r W V
theorem wk_ex {N r : Nat} {m : Int32} {W : List Int32} {V : List Bool} (h : WK g K N m r W V) : WKs g K m r W V := fun f hh h1 h2 => ⟨N, h f hh h1 h2⟩
theorem wk_zeros {r : Nat} {W : List Int32} {V : List Bool} : ∀ (j : Nat) (v : Bool), hdm 0 W → W.length + j ≤ 60 → V.length < 60 → AS g (K 0) r W (negN j v :: V) → WK g K (j + 1) 0 r (zs j W) (v :: V)
  | 0, v, hd, hW, hV, k => wk_stop (by rw [zs_len]; omega) hd k
  | j + 1, v, hd, hW, hV, k => by
    rw [zs_succ]
    exact wk_go (by rw [zs_len]; omega) (by simp only [List.length_cons]; omega) (by decide) (wk_zeros j (!v) hd (by omega) hV k) (Or.inl ⟨rfl, v, V, rfl, rfl⟩)
theorem wk_pd1 {r : Nat} {m : Int32} {v : Bool} {W W' : List Int32} {V V' : List Bool} (hm : ¬ m < 1) (hd : hdm m W) (hW : W.length < 60) (hV : V.length + 1 < 60) (h : pd1 v W V W' V') (k : AS g (K 0) r W (v :: V)) : WKs g K m r W' V' := by
  rcases h with ⟨rfl, rfl⟩ | ⟨x, y, rfl, rfl, rfl⟩
  · exact wk_ex (N := 1) (wk_stop (by omega) hd k)
  · exact wk_ex (N := 2) (wk_go hW (by simp only [List.length_cons]; omega) hm (wk_stop (by omega) hd k) (Or.inr (Or.inl ⟨rfl, y, x, V, rfl, rfl⟩)))
theorem wk_pd2 {r : Nat} {v : Bool} {W W' : List Int32} {V V' : List Bool} (hd : hdm 2 W) (hW : W.length + 1 < 60) (hV : V.length + 2 < 60) (h : pd2 v W V W' V') (k : AS g (K 0) r W (v :: V)) : WKs g K 2 r W' V' := by
  rcases h with h | ⟨x, w, rfl, h⟩
  · exact wk_pd1 (by decide) hd (by omega) (by omega) h k
  · have two : WK g K 2 2 r (2 :: W) (w :: x :: V) := wk_go (by omega) (by simp only [List.length_cons]; omega) (by decide) (wk_stop (by omega) hd k) (Or.inr (Or.inr ⟨rfl, w, x, V, rfl, rfl⟩))
    rcases h with ⟨rfl, rfl⟩ | ⟨a, b, rfl, rfl, rfl⟩
    · exact wk_ex two
    · exact wk_ex (N := 3) (wk_go (by simp only [List.length_cons]; omega) (by simp only [List.length_cons]; omega) (by decide) two (Or.inr (Or.inl ⟨rfl, b, a, x :: V, rfl, rfl⟩)))
theorem TE.sg (hT : TE g t n B) {p : Nat} {x : Int32} (h0 : x ≠ 0) (h1 : x ≠ -1) : sgn B n p = x ↔ B p = x := by
  unfold sgn
  by_cases c : p < n
  · rw [if_pos c]
  · rw [if_neg c, hT.2.2.2.2 p (by omega)]
    exact ⟨fun z => absurd z.symm h1, fun z => absurd z.symm h0⟩
theorem TE.lt (h : TE g t n B) {p : Nat} (hp : B p ≠ 0) : p < n := Nat.lt_of_not_le (fun z => hp (h.2.2.2.2 p z))
theorem TE.dgl (h : TE g t n B) {p : Nat} (hp : dgt (B p)) : p < n := h.lt (fun z => by rw [z] at hp; exact hp.1 (by decide))
theorem TE.dg (hT : TE g t n B) {p : Nat} : dgt (sgn B n p) ↔ dgt (B p) := by
  unfold sgn
  by_cases c : p < n
  · rw [if_pos c]
  · rw [if_neg c, hT.2.2.2.2 p (by omega)]
    exact ⟨fun z => absurd z.1 (by decide), fun z => absurd z.1 (by decide)⟩
theorem TE.dk (h : TE g t n B) {p : Nat} (hp : dgt (B p)) : ∃ k, 48 ≤ k ∧ k ≤ 57 ∧ B p = nI k := by
  obtain ⟨k, hk, e⟩ := (h.2.2.2.1 p (h.dgl hp)).2
  unfold dgt at hp
  rw [e, show (48 : Int32) = nI 48 from rfl, show (57 : Int32) = nI 57 from rfl, lt_n (by omega) (by omega), lt_n (by omega) (by omega)] at hp
  exact ⟨k, by omega, by omega, e⟩
theorem TE.pos (hT : TE g t n B) {p q u : Nat} (h : Ut B p q u) : p < q ∧ q ≤ n := by
  rcases h with ⟨i, hi, e, rfl, _⟩ | ⟨j, j1, j4, hd, hnd, rfl, _⟩
  · have := hT.lt (p := p) (by rw [e]; exact (L9_nz i hi).1)
    omega
  · have := hT.dgl (hd (j - 1) (by omega))
    omega
theorem s9_signOf (hT : TE g t n B) {p w v : Nat} {f h : Nat → Int32} {K : Int32 → fp_G → Prop} (hp : p ≤ 1000) (k : K (sgn B n p) (ES g p w v f h)) : w_X9_signOf (nI t) (ES g p w v f h) K := by
  obtain ⟨ht, hn, h105, h1, h2⟩ := hT
  unfold w_X9_signOf
  unfold sgn at k
  refine rd_v rfl ht (by omega) h105 ?_
  show if nI n ≤ nI p then _ else fp_rd (g 104) 1800 (60 * nI t + nI p) _
  refine is (fun c => ?_) (fun c => ?_)
  · rw [le_n (by omega) (by omega)] at c
    rw [if_neg (by omega)] at k
    exact k
  · rw [le_n (by omega) (by omega)] at c
    rw [if_pos (by omega)] at k
    exact rd_v (k := 60 * t + p) (by rw [show (60 : Int32) = nI 60 from rfl, pk_mul, nI_add]) (by omega) (by omega) (h1 p (by omega)).1 k
theorem L9_tn : ∀ i, i < 9 → tn (L9 i) < 128 ∧ L9 i = nI (tn (L9 i)) := by
  intro i hi
  match i, hi with
  | 0, _ => exact ⟨by decide, by decide⟩
  | 1, _ => exact ⟨by decide, by decide⟩
  | 2, _ => exact ⟨by decide, by decide⟩
  | 3, _ => exact ⟨by decide, by decide⟩
  | 4, _ => exact ⟨by decide, by decide⟩
  | 5, _ => exact ⟨by decide, by decide⟩
  | 6, _ => exact ⟨by decide, by decide⟩
  | 7, _ => exact ⟨by decide, by decide⟩
  | 8, _ => exact ⟨by decide, by decide⟩
theorem s9_unitOf (hT : TE g t n B) {φ : Nat → Int32} (hφ : ∀ i, i < 9 → g 109 (tn (L9 i)) = φ i) {p q u w v : Nat} {f h : Nat → Int32} {K : Int32 → fp_G → Prop} (hu : Ut B p q u) (hnd : ¬ dgt (B q)) (k : K (uv u φ) (ES g q w v f h)) : w_X9_unitOf (nI t) (ES g p w v f h) K := by
  have hn := hT.2.1
  have ht := hT.1
  unfold w_X9_unitOf
  rcases hu with ⟨i, hi, e, rfl, rfl⟩ | ⟨j, j1, j4, hd, _, rfl, rfl⟩
  · have nz := L9_nz i hi
    have hl : p < n := hT.lt (by rw [e]; exact nz.1)
    obtain ⟨l1, l2⟩ := L9_tn i hi
    have e1 : 60 * nI t + (nI p + 1) - 1 = nI (60 * t + p) := by
      rw [show nI p + 1 = nI (p + 1) from (nI_succ p).symm, show (60 : Int32) = nI 60 from rfl, pk_mul, nI_add, show 60 * t + (p + 1) = (60 * t + p) + 1 from rfl, nI_succ (60 * t + p)]
      exact inc_dec _
    refine s9_signOf hT (by omega) (s9_dgF (fun z => ?_) (it rfl (pf_i ?_)))
    · rw [hT.dg, e] at z
      exact nz.2.2 z
    · show fp_rd (g 104) 1800 (60 * nI t + (nI p + 1) - 1) (fun v6 => fp_rd (g 109) 128 v6 (fun v7 => K v7 (gu (ES g p w v f h) 67 57 (nI p + 1))))
      refine rd_v e1 (by omega) (by omega) (hT.2.2.2.1 p hl).1 (rd_v (k := tn (L9 i)) (by rw [e]; exact l2) l1 (by omega) (hφ i hi) ?_)
      rw [show nI p + 1 = nI (p + 1) from (nI_succ p).symm, ES_57]
      unfold uv at k
      rw [if_pos ⟨by omega, by omega⟩, show 10000 + i - 10000 = i by omega] at k
      exact k
  · have d0 := hd 0 (by omega)
    rw [Nat.add_zero] at d0
    have hl := hT.dgl d0
    refine s9_signOf hT (by omega) (s9_dgT (hT.dg.mpr d0) (ie (by decide) ⟨j + 1, ?_⟩))
    have loop : ∀ r i, i + r = j → w_X9_unitOf_45 (r + 1) (nI t) (nI (nv B p i)) (ES g (p + i) w v f h) K := by
      intro r
      induction r with
      | zero =>
        intro i hi
        have hi : i = j := by omega
        subst hi
        have hl2 := hT.dgl (hd (i - 1) (by omega))
        rw [w_X9_unitOf_45]
        refine s9_signOf hT (by omega) (s9_dgF (fun z => hnd (hT.dg.mp z)) (it rfl ?_))
        have hb := nv_le (B := B) (p := p) i j4 (fun a ha => by obtain ⟨k, _, k2, e⟩ := hT.dk (hd a ha); rw [e, tn_n (by omega)]; exact k2)
        have h9 := d9 i j4
        unfold uv at k
        rw [if_neg (fun z => by omega)] at k
        exact k
      | succ r ih =>
        intro i hi
        have hl2 := hT.dgl (hd i (by omega))
        obtain ⟨c, c1, c2, ec⟩ := hT.dk (hd i (by omega))
        have es : sgn B n (p + i) = nI c := by unfold sgn; rw [if_pos hl2, ec]
        rw [w_X9_unitOf_45]
        refine s9_signOf hT (by omega) (s9_dgT (hT.dg.mpr (hd i (by omega))) (ie (by decide) (s9_signOf hT (by omega) (pf_i ?_))))
        have ev : 10 * nI (nv B p i) + sgn B n (p + i) - 48 = nI (nv B p (i + 1)) := by
          rw [es, nv, ec, tn_n (by omega), show (10 : Int32) = nI 10 from rfl, pk_mul, nI_add, show 10 * nv B p i + c = (nv B p i * 10 + (c - 48)) + 48 by omega, ← nI_add (nv B p i * 10 + (c - 48)) 48, show (nI 48 : Int32) = 48 from rfl, Int32.add_sub_cancel]
        show w_X9_unitOf_45 (r + 1) (nI t) (10 * nI (nv B p i) + sgn B n (p + i) - 48) (gu (ES g (p + i) w v f h) 67 57 (nI (p + i) + 1)) K
        rw [ev, show nI (p + i) + 1 = nI (p + (i + 1)) from (nI_succ (p + i)).symm, ES_57]
        exact ih (i + 1) (by omega)
    exact loop j 0 (by omega)
theorem s9_waitsFor {x : Int32} {r : Nat} {W : List Int32} {V : List Bool} {K : Int32 → fp_G → Prop} (hW : W.length < 60) (k : AS g (K 0) r (x :: W) V) : AS g (fun G => w_X9_waitsFor x G K) r W V := by
  intro f h h1 h2
  unfold w_X9_waitsFor
  refine wr_e (k := W.length) rfl (by omega) (by omega) (pf_i ?_)
  show K 0 (gu (gu (ES g r W.length V.length f h) 110 W.length x) 67 58 (nI W.length + 1))
  rw [ES_w, show nI W.length + 1 = nI (W.length + 1) from (nI_succ _).symm, ES_58]
  exact k _ _ ⟨upd_s _ _ _, stk_upd (Nat.le_refl _) h1⟩ h2
def EM (t : Nat) (K : Int32 → fp_G → Prop) (N : Nat) : fp_G → Prop := fun g24 => w_X9_signOf (nI t) g24 fun v15 g25 =>
  fp_j (fun (g26 : fp_G) =>
      w_X9_signOf (nI t) g26 fun v16 g27 =>
      fp_j (fun (g28 : fp_G) =>
          fp_pf g28 67 57 ((g28 67 57) + 1) fun g29 =>
          w_X9_holdsText_15 N (nI t) g29 K) fun J258 =>
      if v16 = 124 then
        w_X9_works 2 g27 fun _ g30 =>
        w_X9_waitsFor 2 g30 fun _ g31 =>
        J258 g31
      else
        J258 g27) fun J238 =>
  if v15 = 38 then
    w_X9_works 1 g25 fun _ g32 =>
    w_X9_waitsFor 1 g32 fun _ g33 =>
    J238 g33
  else
    J238 g25
def CB (g : fp_G) (t : Nat) (K : Int32 → fp_G → Prop) (N q : Nat) (W : List Int32) (V : List Bool) : Prop := ∃ m, AS g (fun G => w_X9_holdsText_175 m (nI t) G K (EM t K N)) q W V
def EU (t : Nat) (K : Int32 → fp_G → Prop) (N : Nat) : fp_G → Prop := fun g11 => w_X9_unitOf (nI t) g11 fun v8 g12 =>
  w_X9_signOf (nI t) g12 fun v9 g13 =>
  fp_pf g13 67 57 ((g13 67 57) + 1) fun g14 =>
  w_X9_unitOf (nI t) g14 fun v10 g15 =>
  fp_j (fun (z0j159 : Int32) =>
      fp_wr g15 111 60 (g15 67 59) z0j159 fun g16 =>
      fp_pf g16 67 59 ((g16 67 59) + 1) fun g17 =>
      w_X9_works 0 g17 fun _ g18 =>
      ∃ n175, w_X9_holdsText_175 n175 (nI t) g18 K (EM t K N)) fun J159 =>
  fp_j (J159 1) fun J154 =>
  fp_j (J159 0) fun J158 =>
  if v9 = 60 then
    if v10 ≤ v8 then
      J158
    else
      J154
  else
    if v9 = 62 then
      if v8 ≤ v10 then
        J158
      else
        J154
    else
      if v8 = v10 then
        J154
      else
        J158
def HB (g : fp_G) (t : Nat) (K : Int32 → fp_G → Prop) (N p : Nat) (W : List Int32) (V : List Bool) : Prop := AS g (fun G => ∃ m, w_X9_holdsText_28 m (nI t) G K (EU t K N)) p W V
def MB (g : fp_G) (t : Nat) (K : Int32 → fp_G → Prop) (N p : Nat) (W : List Int32) (V : List Bool) : Prop := AS g (fun G => w_X9_holdsText_15 N (nI t) G K) p W V
theorem MB_in (hT : TE g t n B) {N p : Nat} {W : List Int32} {V : List Bool} (hp : p < n) (k : HB g t K N p W V) : MB g t K (N + 1) p W V := by
  intro f h h1 h2
  have hn := hT.2.1
  show w_X9_holdsText_15 (N + 1) (nI t) _ K
  rw [w_X9_holdsText_15]
  refine rd_v rfl hT.1 (by omega) hT.2.2.1 (ie ?_ (k f h h1 h2))
  show ¬ nI n ≤ nI p
  rw [le_n (by omega) (by omega)]
  omega
theorem MB_out (hT : TE g t n B) {N p : Nat} {v : Bool} {W' : List Int32} {V' : List Bool} (hp : n ≤ p) (hp2 : p ≤ 1000) (hd : pd2 v [] [] W' V') (k : ∀ r w vn f h, K (bI v) (ES g r w vn f h)) : MB g t K (N + 1) p W' V' := by
  intro f h h1 h2
  have hn := hT.2.1
  show w_X9_holdsText_15 (N + 1) (nI t) _ K
  rw [w_X9_holdsText_15]
  refine rd_v rfl hT.1 (by omega) hT.2.2.1 (it ?_ ?_)
  · show nI n ≤ nI p
    rw [le_n (by omega) (by omega)]
    omega
  · refine wk_pd2 (W := []) (V := []) (Or.inl rfl) (by decide) (by decide) hd (fun f h h1 h2 => ?_) f h h1 h2
    refine rd_v (k := 0) (v := bI v) rfl (by omega) (by omega) h2.1 ?_
    cases e : v
    · have := k p 0 1 f h
      rw [e] at this
      exact ie (by decide) this
    · have := k p 0 1 f h
      rw [e] at this
      exact it rfl this
theorem HB_open (hT : TE g t n B) {N p : Nat} {W : List Int32} {V : List Bool} {x : Int32} (hx : (B p = 33 ∧ x = 0) ∨ (B p = 40 ∧ x = 9)) (hW : W.length < 60) (k : HB g t K N (p + 1) (x :: W) V) : HB g t K N p W V := by
  intro f h h1 h2
  have hn := hT.2.1
  have hl : p < n := hT.lt (by rcases hx with ⟨e, _⟩ | ⟨e, _⟩ <;> rw [e] <;> decide)
  obtain ⟨m, hm⟩ := k (upd f W.length x) h ⟨upd_s _ _ _, stk_upd (Nat.le_refl _) h1⟩ h2
  refine ⟨m + 1, ?_⟩
  rw [w_X9_holdsText_28]
  have fin : ∀ z, z = x → (w_X9_waitsFor z (ES g p W.length V.length f h) fun _ g8 => fp_pf g8 67 57 ((g8 67 57) + 1) fun g9 => w_X9_holdsText_28 m (nI t) g9 K (EU t K N)) := by
    rintro z rfl
    unfold w_X9_waitsFor
    refine wr_e (k := W.length) rfl (by omega) (by omega) (pf_i (pf_i ?_))
    show w_X9_holdsText_28 m (nI t) (gu (gu (gu (ES g p W.length V.length f h) 110 W.length z) 67 58 (nI W.length + 1)) 67 57 (nI p + 1)) K (EU t K N)
    rw [ES_w, show nI W.length + 1 = nI (W.length + 1) from (nI_succ _).symm, ES_58, show nI p + 1 = nI (p + 1) from (nI_succ p).symm, ES_57]
    exact hm
  refine s9_signOf hT (by omega) (j_I ?_)
  rcases hx with ⟨e, e2⟩ | ⟨e, e2⟩
  · exact it ((hT.sg (by decide) (by decide)).mpr e) (s9_signOf hT (by omega) (j_I (it ((hT.sg (by decide) (by decide)).mpr e) (fin 0 e2.symm))))
  · have n33 : ¬ sgn B n p = 33 := by
      rw [hT.sg (by decide) (by decide), e]
      decide
    exact ie n33 (s9_signOf hT (by omega) (it ((hT.sg (by decide) (by decide)).mpr e) (s9_signOf hT (by omega) (j_I (ie n33 (fin 9 e2.symm))))))
theorem HB_cmp (hT : TE g t n B) {φ : Nat → Int32} (hφ : ∀ i, i < 9 → g 109 (tn (L9 i)) = φ i) {N p q r u s v j : Nat} {W : List Int32} {V : List Bool} (h1 : B p ≠ 33) (h2 : B p ≠ 40) (h3 : Ut B p q u) (h5 : s < 3) (h6 : B q = nI (60 + s)) (h7 : Ut B (q + 1) r v) (hnd : ¬ dgt (B r)) (hd : hdm 0 W) (hW : W.length + j ≤ p) (hV : V.length ≤ p)
    (k : CB g t K N r W (negN j (cmpS s (uv u φ) (uv v φ)) :: V)) : HB g t K N p (zs j W) V := by
  intro f h hf hh
  have hn := hT.2.1
  have p1 := hT.pos h3
  have p2 := hT.pos h7
  refine ⟨1, ?_⟩
  rw [w_X9_holdsText_28]
  refine s9_signOf hT (by omega) (j_I (ie ?_ (s9_signOf hT (by omega) (ie ?_ ?_))))
  · rw [hT.sg (by decide) (by decide)]
    exact h1
  · rw [hT.sg (by decide) (by decide)]
    exact h2
  unfold EU
  have hq : ¬ dgt (B q) := by
    rw [h6]
    intro z
    rw [dgt, show (57 : Int32) = nI 57 from rfl, lt_n (by omega) (by omega)] at z
    omega
  refine s9_unitOf hT hφ h3 hq (s9_signOf hT (by omega) (pf_i ?_))
  show w_X9_unitOf (nI t) (gu (ES g q (zs j W).length V.length f h) 67 57 (nI q + 1)) _
  rw [show nI q + 1 = nI (q + 1) from (nI_succ q).symm, ES_57]
  refine s9_unitOf hT hφ h7 hnd (j_I (j_I (j_I ?_)))
  have fin : ∀ z : Int32, z = bI (cmpS s (uv u φ) (uv v φ)) → (fp_wr (ES g r (zs j W).length V.length f h) 111 60 ((ES g r (zs j W).length V.length f h) 67 59) z fun g16 => fp_pf g16 67 59 ((g16 67 59) + 1) fun g17 => w_X9_works 0 g17 fun _ g18 => ∃ n175, w_X9_holdsText_175 n175 (nI t) g18 K (EM t K N)) := by
    rintro z rfl
    refine wr_e (k := V.length) rfl (by omega) (by omega) (pf_i ?_)
    show w_X9_works 0 (gu (gu (ES g r (zs j W).length V.length f h) 111 V.length (bI (cmpS s (uv u φ) (uv v φ)))) 67 59 (nI V.length + 1)) _
    rw [ES_v, show nI V.length + 1 = nI (V.length + 1) from (nI_succ _).symm, ES_59]
    obtain ⟨m, hm⟩ := k
    exact wk_ex (wk_zeros (K := fun _ g18 => ∃ n175, w_X9_holdsText_175 n175 (nI t) g18 K (EM t K N)) j (cmpS s (uv u φ) (uv v φ)) hd (by omega) (by omega) (fun f1 h1 a1 a2 => ⟨m, hm f1 h1 a1 a2⟩)) f _ hf ⟨by rw [map_len]; exact upd_s _ _ _, stk_upd (by rw [map_len]; exact Nat.le_refl _) hh⟩
  have es : sgn B n q = nI (60 + s) := by unfold sgn; rw [if_pos (by omega), h6]
  rw [es]
  unfold cmpS at fin
  match s, h5 with
  | 0, _ =>
    rw [if_pos rfl] at fin
    refine it rfl (is (fun c => fin _ ?_) (fun c => fin _ ?_))
    · rw [decide_eq_false (by rw [le_I] at c; rw [lt_I]; omega)]
      rfl
    · rw [decide_eq_true (by rw [le_I] at c; rw [lt_I]; omega)]
      rfl
  | 1, _ =>
    rw [if_neg (by omega), if_pos rfl] at fin
    refine ie (by decide) (ie (by decide) (is (fun c => fin _ ?_) (fun c => fin _ ?_)))
    · rw [decide_eq_true c]
      rfl
    · rw [decide_eq_false c]
      rfl
  | 2, _ =>
    rw [if_neg (by omega), if_neg (by omega)] at fin
    refine ie (by decide) (it rfl (is (fun c => fin _ ?_) (fun c => fin _ ?_)))
    · rw [decide_eq_false (by rw [le_I] at c; rw [lt_I]; omega)]
      rfl
    · rw [decide_eq_true (by rw [le_I] at c; rw [lt_I]; omega)]
      rfl
theorem CB_close (hT : TE g t n B) {N q j : Nat} {v : Bool} {W W' : List Int32} {V V' : List Bool} (hq : B q = 41) (hd : hdm 0 W) (hW : W.length + j + 3 ≤ q) (hV : V.length + 3 ≤ q) (hp : pd2 v (9 :: zs j W) V W' V') (k : CB g t K N (q + 1) W (negN j v :: V)) : CB g t K N q W' V' := by
  have hl : q < n := hT.lt (by rw [hq]; decide)
  have hn := hT.2.1
  obtain ⟨M, hM⟩ := k
  refine ⟨M + 1, fun f h h1 h2 => ?_⟩
  show w_X9_holdsText_175 (M + 1) (nI t) _ K (EM t K N)
  rw [w_X9_holdsText_175]
  refine s9_signOf hT (by omega) (it ((hT.sg (by decide) (by decide)).mpr hq) ?_)
  have zl := zs_len j W
  refine wk_pd2 (K := fun _ g20 => fp_pf g20 67 58 ((g20 67 58) - 1) fun g21 => fp_pf g21 67 57 ((g21 67 57) + 1) fun g22 => w_X9_works 0 g22 fun _ g23 => w_X9_holdsText_175 M (nI t) g23 K (EM t K N)) (W := 9 :: zs j W) (V := V) (Or.inr ⟨9, _, rfl, by decide⟩) (by simp only [List.length_cons]; omega) (by omega) hp (fun f h h1 h2 => pf_i (pf_i ?_)) f h h1 h2
  show w_X9_works 0 (gu (gu (ES g q ((zs j W).length + 1) (v :: V).length f h) 67 58 (nI ((zs j W).length + 1) - 1)) 67 57 (nI q + 1)) _
  rw [show nI ((zs j W).length + 1) - 1 = nI (zs j W).length by rw [nI_succ]; exact inc_dec _, ES_58, show nI q + 1 = nI (q + 1) from (nI_succ q).symm, ES_57]
  exact wk_ex (wk_zeros (K := fun _ g18 => w_X9_holdsText_175 M (nI t) g18 K (EM t K N)) j v hd (by omega) (by omega) hM) f h h1.2 h2
theorem CB_else (hT : TE g t n B) {N q : Nat} {W : List Int32} {V : List Bool} (hq : B q ≠ 41) (hq2 : q ≤ 1000) (k : AS g (EM t K N) q W V) : CB g t K N q W V := by
  refine ⟨1, fun f h h1 h2 => ?_⟩
  show w_X9_holdsText_175 1 (nI t) _ K (EM t K N)
  rw [w_X9_holdsText_175]
  refine s9_signOf hT hq2 (ie ?_ (k f h h1 h2))
  rw [hT.sg (by decide) (by decide)]
  exact hq
theorem EM_next {N q : Nat} {W : List Int32} {V : List Bool} (k : MB g t K N (q + 1) W V) : AS g (fun G => fp_pf G 67 57 ((G 67 57) + 1) fun g29 => w_X9_holdsText_15 N (nI t) g29 K) q W V := by
  intro f h h1 h2
  refine pf_i ?_
  show w_X9_holdsText_15 N (nI t) (gu (ES g q W.length V.length f h) 67 57 (nI q + 1)) K
  rw [show nI q + 1 = nI (q + 1) from (nI_succ q).symm, ES_57]
  exact k f h h1 h2
theorem EM_and (hT : TE g t n B) {N q : Nat} {v : Bool} {W W' : List Int32} {V V' : List Bool} (hq : B q = 38) (hd : hdm 1 W) (hW : W.length + 2 < 60) (hV : V.length + 2 < 60) (hp : pd1 v W V W' V') (k : MB g t K N (q + 1) (1 :: W) (v :: V)) : AS g (EM t K N) q W' V' := by
  intro f h h1 h2
  have hl : q < n := hT.lt (by rw [hq]; decide)
  have hn := hT.2.1
  unfold EM
  refine s9_signOf hT (by omega) (j_I (it ((hT.sg (by decide) (by decide)).mpr hq) ?_))
  refine wk_pd1 (K := fun _ g32 => w_X9_waitsFor 1 g32 fun _ g33 => w_X9_signOf (nI t) g33 fun v16 g27 => fp_j (fun (g28 : fp_G) => fp_pf g28 67 57 ((g28 67 57) + 1) fun g29 => w_X9_holdsText_15 N (nI t) g29 K) fun J258 => if v16 = 124 then (w_X9_works 2 g27 fun _ g30 => w_X9_waitsFor 2 g30 fun _ g31 => J258 g31) else J258 g27) (by decide) hd (by omega) (by omega) hp ?_ f h h1 h2
  refine s9_waitsFor (K := fun _ g33 => w_X9_signOf (nI t) g33 fun v16 g27 => fp_j (fun (g28 : fp_G) => fp_pf g28 67 57 ((g28 67 57) + 1) fun g29 => w_X9_holdsText_15 N (nI t) g29 K) fun J258 => if v16 = 124 then (w_X9_works 2 g27 fun _ g30 => w_X9_waitsFor 2 g30 fun _ g31 => J258 g31) else J258 g27) (by omega) (fun f h h1 h2 => ?_)
  refine s9_signOf hT (by omega) (j_I (ie ?_ (EM_next k f h h1 h2)))
  rw [hT.sg (by decide) (by decide), hq]
  decide
theorem EM_or (hT : TE g t n B) {N q : Nat} {v : Bool} {W W' : List Int32} {V V' : List Bool} (hq : B q = 124) (hd : hdm 2 W) (hW : W.length + 2 < 60) (hV : V.length + 2 < 60) (hp : pd2 v W V W' V') (k : MB g t K N (q + 1) (2 :: W) (v :: V)) : AS g (EM t K N) q W' V' := by
  intro f h h1 h2
  have hl : q < n := hT.lt (by rw [hq]; decide)
  have hn := hT.2.1
  unfold EM
  have n38 : ¬ sgn B n q = 38 := by
    rw [hT.sg (by decide) (by decide), hq]
    decide
  refine s9_signOf hT (by omega) (j_I (ie n38 (s9_signOf hT (by omega) (j_I (it ((hT.sg (by decide) (by decide)).mpr hq) ?_)))))
  refine wk_pd2 (K := fun _ g30 => w_X9_waitsFor 2 g30 fun _ g31 => fp_pf g31 67 57 ((g31 67 57) + 1) fun g29 => w_X9_holdsText_15 N (nI t) g29 K) hd (by omega) (by omega) hp ?_ f h h1 h2
  exact s9_waitsFor (K := fun _ g31 => fp_pf g31 67 57 ((g31 67 57) + 1) fun g29 => w_X9_holdsText_15 N (nI t) g29 K) (by omega) (EM_next k)
theorem EM_end (hT : TE g t n B) {N q : Nat} {W : List Int32} {V : List Bool} (hq2 : q ≤ 1000) (h38 : B q ≠ 38) (h124 : B q ≠ 124) (k : MB g t K N (q + 1) W V) : AS g (EM t K N) q W V := by
  intro f h h1 h2
  unfold EM
  refine s9_signOf hT hq2 (j_I (ie ?_ (s9_signOf hT hq2 (j_I (ie ?_ (EM_next k f h h1 h2))))))
  · rw [hT.sg (by decide) (by decide)]
    exact h38
  · rw [hT.sg (by decide) (by decide)]
    exact h124
theorem pd1_len {v : Bool} {W W' : List Int32} {V V' : List Bool} (h : pd1 v W V W' V') : W'.length ≤ W.length + 1 ∧ V'.length ≤ V.length + 2 := by
  rcases h with ⟨rfl, rfl⟩ | ⟨x, y, rfl, rfl, _⟩ <;> simp only [List.length_cons] <;> omega
theorem nd_op {x : Int32} (h : x = 38 ∨ x = 124 ∨ x = 41 ∨ x = 0) : ¬ dgt x := by
  rcases h with rfl | rfl | rfl | rfl
  · exact fun z => z.1 (by decide)
  · exact fun z => z.2 (by decide)
  · exact fun z => z.1 (by decide)
  · exact fun z => z.1 (by decide)
theorem PX_rev (hT : TE g t n B) {φ : Nat → Int32} (hφ : ∀ i, i < 9 → g 109 (tn (L9 i)) = φ i) {k l p q : Nat} {c : List Int32} {f : (Nat → Int32) → Bool} (hx : PX B k l p q c f) :
    p + 3 ≤ q ∧ q ≤ n ∧ (¬ dgt (B q) →
      (l = 0 → ∀ j W V, hdm 0 W → W.length + j ≤ p → V.length ≤ p → (∀ N, n - q + 1 ≤ N → CB g t K N q W (negN j (f φ) :: V)) → ∀ N, n - p ≤ N → HB g t K N p (zs j W) V) ∧
      (l = 1 → ∀ W V, hdm 1 W → W.length ≤ p → V.length ≤ p → (∀ N W' V', pd1 (f φ) W V W' V' → n - q + 1 ≤ N → CB g t K N q W' V') → ∀ N, n - p ≤ N → HB g t K N p W V) ∧
      (l = 2 → ∀ W V, hdm 2 W → W.length ≤ p → V.length ≤ p → (∀ N W' V', pd2 (f φ) W V W' V' → n - q + 1 ≤ N → CB g t K N q W' V') → ∀ N, n - p ≤ N → HB g t K N p W V)) := by
  have hn := hT.2.1
  have lo : ∀ (a b : Int32) (W : List Int32), a < b → hdm b W → hdm a W := by
    intro a b W hab h
    rcases h with h | ⟨x, W', e, h⟩
    · exact Or.inl h
    · exact Or.inr ⟨x, W', e, by rw [lt_I] at *; omega⟩
  refine hx (fun k l p q c f => p + 3 ≤ q ∧ q ≤ n ∧ (¬ dgt (B q) →
      (l = 0 → ∀ j W V, hdm 0 W → W.length + j ≤ p → V.length ≤ p → (∀ N, n - q + 1 ≤ N → CB g t K N q W (negN j (f φ) :: V)) → ∀ N, n - p ≤ N → HB g t K N p (zs j W) V) ∧
      (l = 1 → ∀ W V, hdm 1 W → W.length ≤ p → V.length ≤ p → (∀ N W' V', pd1 (f φ) W V W' V' → n - q + 1 ≤ N → CB g t K N q W' V') → ∀ N, n - p ≤ N → HB g t K N p W V) ∧
      (l = 2 → ∀ W V, hdm 2 W → W.length ≤ p → V.length ≤ p → (∀ N W' V', pd2 (f φ) W V W' V' → n - q + 1 ≤ N → CB g t K N q W' V') → ∀ N, n - p ≤ N → HB g t K N p W V))) ⟨?_, ?_, ?_, ?_, ?_, ?_, ?_⟩
  · intro k p q r u s v h1 h2 h3 _ h5 h6 h7 _
    have p1 := hT.pos h3
    have p2 := hT.pos h7
    refine ⟨by omega, by omega, fun nd => ⟨fun _ j W V hd hW hV hc N hN => ?_, fun z => absurd z (by omega), fun z => absurd z (by omega)⟩⟩
    exact HB_cmp hT hφ h1 h2 h3 h5 h6 h7 nd hd hW hV (hc N (by omega))
  · intro k p q c f h1 h2 ih
    obtain ⟨i1, i2, i3⟩ := ih
    refine ⟨by omega, i2, fun nd => ⟨fun _ j W V hd hW hV hc N hN => ?_, fun z => absurd z (by omega), fun z => absurd z (by omega)⟩⟩
    exact HB_open hT (Or.inl ⟨h1, rfl⟩) (by rw [zs_len]; omega) ((i3 nd).1 rfl (j + 1) W V hd (by omega) (by omega) hc N (by omega))
  · intro k p q c f h1 h2 ih h4
    obtain ⟨i1, i2, i3⟩ := ih
    have hl := hT.lt (p := q) (by rw [h4]; decide)
    refine ⟨by omega, by omega, fun nd => ⟨fun _ j W V hd hW hV hc N hN => ?_, fun z => absurd z (by omega), fun z => absurd z (by omega)⟩⟩
    refine HB_open hT (Or.inr ⟨h1, rfl⟩) (by rw [zs_len]; omega) ((i3 (nd_op (Or.inr (Or.inr (Or.inl h4))))).2.2 rfl (9 :: zs j W) V (Or.inr ⟨9, _, rfl, by decide⟩) (by simp only [List.length_cons, zs_len]; omega) (by omega) (fun N W' V' hp hN => ?_) N (by omega))
    exact CB_close hT h4 hd (by omega) (by omega) hp (hc N (by omega))
  · intro k p q c f ih
    obtain ⟨i1, i2, i3⟩ := ih
    refine ⟨i1, i2, fun nd => ⟨fun z => absurd z (by omega), fun _ W V hd hW hV hc N hN => ?_, fun z => absurd z (by omega)⟩⟩
    exact (i3 nd).1 rfl 0 W V (lo 0 1 W (by decide) hd) (by omega) hV (fun N hN => hc N _ _ (Or.inl ⟨rfl, rfl⟩) hN) N hN
  · intro k p q r c d f h ih1 h2 ih2
    obtain ⟨i1, i2, i3⟩ := ih1
    obtain ⟨j1, j2, j3⟩ := ih2
    refine ⟨by omega, j2, fun nd => ⟨fun z => absurd z (by omega), fun _ W V hd hW hV hc N hN => ?_, fun z => absurd z (by omega)⟩⟩
    refine (i3 (nd_op (Or.inl h2))).2.1 rfl W V hd hW hV (fun N W' V' hp hN => ?_) N hN
    refine CB_else hT (by rw [h2]; decide) (by omega) (EM_and hT h2 hd (by omega) (by omega) hp ?_)
    match N, hN with
    | N + 1, hN =>
      exact MB_in hT (by omega) ((j3 nd).1 rfl 0 (1 :: W) (f φ :: V) (Or.inr ⟨1, W, rfl, by decide⟩) (by simp only [List.length_cons]; omega) (by simp only [List.length_cons]; omega) (fun N hN => hc N _ _ (Or.inr ⟨f φ, h φ, rfl, rfl, rfl⟩) hN) N (by omega))
  · intro k p q c f ih
    obtain ⟨i1, i2, i3⟩ := ih
    refine ⟨i1, i2, fun nd => ⟨fun z => absurd z (by omega), fun z => absurd z (by omega), fun _ W V hd hW hV hc N hN => ?_⟩⟩
    exact (i3 nd).2.1 rfl W V (lo 1 2 W (by decide) hd) hW hV (fun N W' V' hp hN => hc N W' V' (Or.inl hp) hN) N hN
  · intro k p q r c d f h ih1 h2 ih2
    obtain ⟨i1, i2, i3⟩ := ih1
    obtain ⟨j1, j2, j3⟩ := ih2
    refine ⟨by omega, j2, fun nd => ⟨fun z => absurd z (by omega), fun z => absurd z (by omega), fun _ W V hd hW hV hc N hN => ?_⟩⟩
    refine (i3 (nd_op (Or.inr (Or.inl h2)))).2.2 rfl W V hd hW hV (fun N W' V' hp hN => ?_) N hN
    refine CB_else hT (by rw [h2]; decide) (by omega) (EM_or hT h2 hd (by omega) (by omega) hp ?_)
    match N, hN with
    | N + 1, hN =>
      exact MB_in hT (by omega) ((j3 nd).2.1 rfl (2 :: W) (f φ :: V) (Or.inr ⟨2, W, rfl, by decide⟩) (by simp only [List.length_cons]; omega) (by simp only [List.length_cons]; omega) (fun N W' V' hp hN => hc N _ _ (Or.inr ⟨f φ, h φ, rfl, hp⟩) hN) N (by omega))
theorem s9_holdsText (hT : TE g t n B) {φ : Nat → Int32} (hφ : ∀ i, i < 9 → g 109 (tn (L9 i)) = φ i) {c : List Int32} {f : (Nat → Int32) → Bool} (hx : PX B 0 2 0 n c f) (k : ∀ r w v ff hh, K (bI (f φ)) (ES g r w v ff hh)) : w_X9_holdsText (nI t) g K := by
  have hn := hT.2.1
  unfold w_X9_holdsText
  refine pf_i (pf_i (pf_i ⟨n + 1, ?_⟩))
  obtain ⟨i1, i2, i3⟩ := PX_rev (K := K) hT hφ hx
  have b0 := hT.2.2.2.2 n (Nat.le_refl _)
  have main := MB_in (N := n) hT (show 0 < n by omega) ((i3 (nd_op (Or.inr (Or.inr (Or.inr b0))))).2.2 rfl [] [] (Or.inl rfl) (by simp) (by simp) (fun N W' V' hp hN => ?_) n (by omega)) (g 110) (g 111) trivial trivial
  · unfold ES at main
    rw [gc_id, show gc g 111 (g 111) = g from gc_id g 111] at main
    exact main
  · match N, hN with
    | N + 1, hN => exact CB_else hT (by rw [b0]; decide) (by omega) (EM_end hT (by omega) (by rw [b0]; decide) (by rw [b0]; decide) (MB_out hT (by omega) (by omega) hp k))
end
