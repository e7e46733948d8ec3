/-! ===== the reference reads the same text ===== -/
def PS (g : fp_G) (p t : Nat) (st : Nat → Int32) : fp_G := gu (gu (gc g 108 st) 67 53 (nI p)) 67 54 (nI t)
theorem PS_53 (g : fp_G) (p t : Nat) (st : Nat → Int32) (x : Nat) : gu (PS g p t st) 67 53 (nI x) = PS g x t st := by
  funext a i
  unfold PS
  by_cases h1 : a = 67 ∧ i = 54 <;> by_cases h2 : a = 67 ∧ i = 53 <;> simp [gu, h1, h2]
theorem PS_54 (g : fp_G) (p t : Nat) (st : Nat → Int32) (x : Nat) : gu (PS g p t st) 67 54 (nI x) = PS g p x st := guu_s _ _ _ _ _
theorem PS_st (g : fp_G) (p t : Nat) (st : Nat → Int32) (k : Nat) (v : Int32) : gu (PS g p t st) 108 k v = PS g p t (upd st k v) := by
  unfold PS
  rw [guu_c (gu (gc g 108 st) 67 53 (nI p)) 54 k (nI t) v (by decide : (67 : Nat) ≠ 108), guu_c (gc g 108 st) 53 k (nI p) v (by decide : (67 : Nat) ≠ 108), gcu_s]
def stk (f : Nat → Int32) : List Int32 → Prop
  | [] => True
  | x :: W => f W.length = x ∧ stk f W
theorem stk_upd {f : Nat → Int32} {k : Nat} {x : Int32} : ∀ {W : List Int32}, W.length ≤ k → stk f W → stk (upd f k x) W
  | [], _, _ => trivial
  | y :: W, h, ⟨h1, h2⟩ => by
    have h : W.length + 1 ≤ k := h
    exact ⟨by rw [upd_n _ _ (by omega)]; exact h1, stk_upd (by omega) h2⟩
def cl : List Int32 → List Int32
  | [] => []
  | x :: s => if x = 1 then cl s else x :: s
theorem cl_stk {f : Nat → Int32} : ∀ {s : List Int32}, stk f s → stk f (cl s) ∧ (cl s).length ≤ s.length
  | [], _ => ⟨trivial, Nat.le_refl _⟩
  | x :: s, h => by
    rw [cl]
    split
    · have := cl_stk h.2
      exact ⟨this.1, Nat.le_trans this.2 (Nat.le_succ _)⟩
    · exact ⟨h, Nat.le_refl _⟩
theorem cl_cl : ∀ s : List Int32, cl (cl s) = cl s
  | [] => rfl
  | x :: s => by
    rw [cl]
    split
    · exact cl_cl s
    · rename_i h
      rw [cl, if_neg h]
section
variable {g : fp_G} {n : Nat} {B : Nat → Int32} {K : Int32 → fp_G → Prop}
/-- the tape, as the reference has it -/
def TQ (g : fp_G) (n : Nat) (B : Nat → Int32) : Prop := n ≤ 60 ∧ g 67 51 = nI n ∧ (∀ p, p < n → g 103 p = B p ∧ ∃ k, k ≤ 255 ∧ B p = nI k) ∧ ∀ p, n ≤ p → B p = 0
def sgn (B : Nat → Int32) (n p : Nat) : Int32 := if p < n then B p else -1
theorem TQ.sg (hT : TQ g n B) {p : Nat} {x : Int32} (h0 : x ≠ 0) (h1 : x ≠ -1) : sgn B n p = x ↔ B p = x := by
  unfold sgn
  by_cases c : p < n
  · rw [if_pos c]
  · rw [if_neg c, hT.2.2.2 p (by omega)]
    exact ⟨fun z => absurd z.symm h1, fun z => absurd z.symm h0⟩
theorem TQ.lt (h : TQ g n B) {p : Nat} (hp : B p ≠ 0) : p < n := Nat.lt_of_not_le (fun z => hp (h.2.2.2 p z))
theorem TQ.dgl (h : TQ g n B) {p : Nat} (hp : dgt (B p)) : p < n := h.lt (fun z => by rw [z] at hp; exact hp.1 (by decide))
theorem s9_sign (hT : TQ g n B) {p t : Nat} {st : Nat → Int32} {K : Int32 → fp_G → Prop} (hp : p ≤ 1000) (k : K (sgn B n p) (PS g p t st)) : w_X9_sign (PS g p t st) K := by
  obtain ⟨hn, h51, h1, h2⟩ := hT
  unfold w_X9_sign
  unfold sgn at k
  show if g 67 51 ≤ nI p then _ else fp_rd (g 103) 60 (nI p) _
  rw [h51]
  refine is (fun c => ?_) (fun c => ?_)
  · rw [le_n (by omega) (by omega)] at c
    rw [if_neg (by omega)] at k
    exact k
  · rw [le_n (by omega) (by omega)] at c
    rw [if_pos (by omega)] at k
    exact rd_v rfl (by omega) (by omega) (h1 p (by omega)).1 k
theorem s9_dgT {x : Int32} {g : fp_G} {K : Int32 → fp_G → Prop} (h : dgt x) (k : K 1 g) : w_X9_isDigit x g K := by
  unfold w_X9_isDigit
  exact j_I (ie h.1 (ie h.2 k))
theorem s9_dgF {x : Int32} {g : fp_G} {K : Int32 → fp_G → Prop} (h : ¬ dgt x) (k : K 0 g) : w_X9_isDigit x g K := by
  unfold w_X9_isDigit
  exact j_I (is (fun _ => k) (fun c => is (fun _ => k) (fun c2 => absurd ⟨c, c2⟩ h)))
theorem s9_faT {x : Int32} {i : Nat} {g : fp_G} {K : Int32 → fp_G → Prop} (hi : i < 9) (h : x = L9 i) (k : K 1 g) : w_X9_isFact x g K := by
  unfold w_X9_isFact
  refine j_I (is (fun _ => k) (fun h0 => is (fun _ => k) (fun h1 => is (fun _ => k) (fun h2 => is (fun _ => k) (fun h3 => is (fun _ => k) (fun h4 => is (fun _ => k) (fun h5 => is (fun _ => k) (fun h6 => is (fun _ => k) (fun h7 => is (fun _ => k) (fun h8 => ?_))))))))))
  match i, hi with
  | 0, _ => exact absurd h h0
  | 1, _ => exact absurd h h1
  | 2, _ => exact absurd h h2
  | 3, _ => exact absurd h h3
  | 4, _ => exact absurd h h4
  | 5, _ => exact absurd h h5
  | 6, _ => exact absurd h h6
  | 7, _ => exact absurd h h7
  | 8, _ => exact absurd h h8
theorem s9_faF {x : Int32} {g : fp_G} {K : Int32 → fp_G → Prop} (h : ∀ i, i < 9 → x ≠ L9 i) (k : K 0 g) : w_X9_isFact x g K := by
  unfold w_X9_isFact
  exact j_I (ie (h 0 (by omega)) (ie (h 1 (by omega)) (ie (h 2 (by omega)) (ie (h 3 (by omega)) (ie (h 4 (by omega)) (ie (h 5 (by omega)) (ie (h 6 (by omega)) (ie (h 7 (by omega)) (ie (h 8 (by omega)) k)))))))))
theorem L9_nz : ∀ i, i < 9 → L9 i ≠ 0 ∧ L9 i ≠ -1 ∧ ¬ dgt (L9 i) := by
  intro i hi
  match i, hi with
  | 0, _ => exact ⟨by decide, by decide, fun z => z.2 (by decide)⟩
  | 1, _ => exact ⟨by decide, by decide, fun z => z.2 (by decide)⟩
  | 2, _ => exact ⟨by decide, by decide, fun z => z.2 (by decide)⟩
  | 3, _ => exact ⟨by decide, by decide, fun z => z.2 (by decide)⟩
  | 4, _ => exact ⟨by decide, by decide, fun z => z.2 (by decide)⟩
  | 5, _ => exact ⟨by decide, by decide, fun z => z.2 (by decide)⟩
  | 6, _ => exact ⟨by decide, by decide, fun z => z.2 (by decide)⟩
  | 7, _ => exact ⟨by decide, by decide, fun z => z.2 (by decide)⟩
  | 8, _ => exact ⟨by decide, by decide, fun z => z.2 (by decide)⟩
theorem TQ.dg (hT : TQ g n B) {p : Nat} : dgt (sgn B n p) ↔ dgt (B p) := by
  unfold sgn
  by_cases c : p < n
  · rw [if_pos c]
  · rw [if_neg c, hT.2.2.2 p (by omega)]
    exact ⟨fun z => absurd z.1 (by decide), fun z => absurd z.1 (by decide)⟩
theorem s9_unitT (hT : TQ g n B) {p q u t : Nat} {st : Nat → Int32} {K : Int32 → fp_G → Prop} (h : Ut B p q u) (k : K 1 (PS g q t st)) : w_X9_unit (PS g p t st) K := by
  have hn := hT.1
  unfold w_X9_unit
  rcases h with ⟨i, hi, e, rfl, _⟩ | ⟨j, j1, j4, hd, hnd, rfl, _⟩
  · have nz := L9_nz i hi
    have hl : p < n := hT.lt (by rw [e]; exact nz.1)
    refine s9_sign hT (by omega) (s9_faT hi ((hT.sg nz.1 nz.2.1).mpr e) (ie (by decide) (pf_i ?_)))
    show K 1 (gu (PS g p t st) 67 53 (nI p + 1))
    rw [show nI p + 1 = nI (p + 1) from (nI_succ p).symm, PS_53]
    exact k
  · have d0 := hd 0 (by omega)
    have hl := hT.dgl d0
    rw [Nat.add_zero] at d0 hl
    have nf : ∀ i, i < 9 → sgn B n p ≠ L9 i := fun i hi z => by
      have nz := L9_nz i hi
      rw [(hT.sg nz.1 nz.2.1).mp z] at d0
      exact nz.2.2 d0
    refine s9_sign hT (by omega) (s9_faF nf (it rfl (s9_sign hT (by omega) (s9_dgT (hT.dg.mpr d0) (ie (by decide) ⟨j + 1, ?_⟩)))))
    have loop : ∀ r i, i + r = j → w_X9_unit_36 (r + 1) (nI i) (PS g (p + i) t st) K := by
      intro r
      induction r with
      | zero =>
        intro i hi
        have hi : i = j := by omega
        subst hi
        rw [w_X9_unit_36]
        by_cases c4 : i = 4
        · subst c4
          exact it (by decide) k
        · have hl2 := hT.dgl (hd (i - 1) (by omega))
          refine ie ?_ (s9_sign hT (by omega) (s9_dgF (fun z => hnd (by omega) (hT.dg.mp z)) (it rfl k)))
          show ¬ nI 4 ≤ nI i
          rw [le_n (by omega) (by omega)]
          omega
      | succ r ih =>
        intro i hi
        rw [w_X9_unit_36]
        have hl2 := hT.dgl (hd i (by omega))
        refine ie ?_ (s9_sign hT (by omega) (s9_dgT (hT.dg.mpr (hd i (by omega))) (ie (by decide) (pf_i ?_))))
        · show ¬ nI 4 ≤ nI i
          rw [le_n (by omega) (by omega)]
          omega
        · show w_X9_unit_36 (r + 1) (nI i + 1) (gu (PS g (p + i) t st) 67 53 (nI (p + i) + 1)) K
          rw [show nI i + 1 = nI (i + 1) from (nI_succ i).symm, show nI (p + i) + 1 = nI (p + (i + 1)) from (nI_succ (p + i)).symm, PS_53]
          exact ih (i + 1) (by omega)
    exact loop j 0 (by omega)
theorem s9_unitF (hT : TQ g n B) {p t : Nat} {st : Nat → Int32} {K : Int32 → fp_G → Prop} (hp : p ≤ 1000) (h : noU B p) (k : K 0 (PS g p t st)) : w_X9_unit (PS g p t st) K := by
  unfold w_X9_unit
  refine s9_sign hT hp (s9_faF (fun i hi z => ?_) (it rfl (s9_sign hT hp (s9_dgF (fun z => h.2 (hT.dg.mp z)) (it rfl k)))))
  have nz := L9_nz i hi
  exact h.1 i hi ((hT.sg nz.1 nz.2.1).mp z)
theorem s9_closes {p : Nat} {st : Nat → Int32} {K : Int32 → fp_G → Prop} : ∀ {s : List Int32}, s.length ≤ 8 → stk st s → K 0 (PS g p (cl s).length st) → w_X9_closes (PS g p s.length st) K := by
  intro s hl hs k
  unfold w_X9_closes
  have loop : ∀ s : List Int32, s.length ≤ 8 → stk st s → K 0 (PS g p (cl s).length st) → w_X9_closes_0 (s.length + 1) (PS g p s.length st) K := by
    intro s
    induction s with
    | nil =>
      intro _ _ k
      rw [w_X9_closes_0]
      exact it (show nI 0 ≤ 0 by decide) k
    | cons x s ih =>
      intro hl hs k
      have hl : s.length + 1 ≤ 8 := hl
      rw [w_X9_closes_0]
      have e1 : nI (s.length + 1) - 1 = nI s.length := by rw [nI_succ]; exact inc_dec _
      refine ie ?_ (rd_v (k := s.length) (v := x) e1 (by omega) (by omega) hs.1 ?_)
      · show ¬ nI (s.length + 1) ≤ nI 0
        rw [le_n (by omega) (by omega)]
        omega
      rw [cl] at k
      refine is (fun c => pf_i ?_) (fun c => ?_)
      · rw [if_pos c] at k
        show w_X9_closes_0 (s.length + 1) (gu (PS g p (s.length + 1) st) 67 54 (nI (s.length + 1) - 1)) K
        rw [e1, PS_54]
        exact ih (by omega) hs.2 k
      · rw [if_neg c] at k
        exact k
  exact ⟨s.length + 1, loop s hl hs k⟩
def HA (g : fp_G) (K : Int32 → fp_G → Prop) (N p : Nat) (s : List Int32) : Prop := ∀ st, stk st s → w_X9_parses_10 N (PS g p s.length st) K
def EE (K : Int32 → fp_G → Prop) (N : Nat) : fp_G → Prop := fun g20 => w_X9_sign g20 fun v10 g21 =>
  fp_j (w_X9_sign g21 fun v11 g22 =>
      fp_j (fun (g23 : fp_G) =>
          fp_pf g23 67 53 ((g23 67 53) + 1) fun g24 =>
          w_X9_parses_10 N g24 K) fun J225 =>
      if v11 = 124 then
        J225 g22
      else
        w_X9_sign g22 fun v12 g25 =>
        if v12 = 38 then
          J225 g25
        else
          K 0 g25) fun J205 =>
  if v10 = (-1) then
    if (g21 67 54) = 0 then
      K 1 g21
    else
      J205
  else
    J205
def CA (g : fp_G) (K : Int32 → fp_G → Prop) (N q : Nat) (s : List Int32) : Prop := ∀ st, stk st s → ∃ m, w_X9_parses_145 m (PS g q s.length st) K (EE K N)
theorem EE_op (hT : TQ g n B) {N q : Nat} {s : List Int32} (hq : q < 1000) (h : B q = 38 ∨ B q = 124) (k : HA g K N (q + 1) s) : ∀ st, stk st s → EE K N (PS g q s.length st) := by
  intro st hs
  unfold EE
  have fin : (fp_pf (PS g q s.length st) 67 53 ((PS g q s.length st 67 53) + 1) fun g24 => w_X9_parses_10 N g24 K) := by
    refine pf_i ?_
    show w_X9_parses_10 N (gu (PS g q s.length st) 67 53 (nI q + 1)) K
    rw [show nI q + 1 = nI (q + 1) from (nI_succ q).symm, PS_53]
    exact k st hs
  have hl : q < n := hT.lt (by rcases h with h | h <;> rw [h] <;> decide)
  refine s9_sign hT (by omega) (j_I (ie ?_ (s9_sign hT (by omega) (j_I ?_))))
  · unfold sgn
    rw [if_pos hl]
    rcases h with h | h <;> rw [h] <;> decide
  rcases h with h | h
  · refine ie ?_ (s9_sign hT (by omega) (it ((hT.sg (by decide) (by decide)).mpr h) fin))
    rw [hT.sg (by decide) (by decide), h]
    decide
  · exact it ((hT.sg (by decide) (by decide)).mpr h) fin
theorem EE_rej (hT : TQ g n B) {N q : Nat} {s : List Int32} (hq : q < 1000) (h1 : B q ≠ 38) (h2 : B q ≠ 124) (h3 : q < n ∨ s ≠ []) (hs8 : s.length ≤ 8) (k : ∀ st, K 0 (PS g q s.length st)) : ∀ st, stk st s → EE K N (PS g q s.length st) := by
  intro st hs
  have hn := hT.1
  unfold EE
  have fin : (w_X9_sign (PS g q s.length st) fun v11 g22 => fp_j (fun (g23 : fp_G) => fp_pf g23 67 53 ((g23 67 53) + 1) fun g24 => w_X9_parses_10 N g24 K) fun J225 => if v11 = 124 then J225 g22 else w_X9_sign g22 fun v12 g25 => if v12 = 38 then J225 g25 else K 0 g25) := by
    refine s9_sign hT (by omega) (j_I (ie ?_ (s9_sign hT (by omega) (ie ?_ (k st)))))
    · rw [hT.sg (by decide) (by decide)]
      exact h2
    · rw [hT.sg (by decide) (by decide)]
      exact h1
  refine s9_sign hT (by omega) (j_I (is (fun c => ie ?_ fin) (fun c => fin)))
  show ¬ nI s.length = nI 0
  rw [eq_n (by omega) (by omega)]
  rcases h3 with h3 | h3
  · unfold sgn at c
    rw [if_pos h3] at c
    obtain ⟨_, k, hk, e⟩ := hT.2.2.1 q h3
    rw [e, eq_I, nI_I (by omega), show (-1 : Int32).toInt = -1 from rfl] at c
    omega
  · intro z
    exact h3 (List.eq_nil_of_length_eq_zero z)
theorem EE_acc (hT : TQ g n B) {N : Nat} (k : ∀ st, K 1 (PS g n 0 st)) : ∀ st, EE K N (PS g n 0 st) := by
  intro st
  have hn := hT.1
  unfold EE
  refine s9_sign hT (by omega) (j_I (it ?_ (it rfl (k st))))
  unfold sgn
  rw [if_neg (by omega)]
theorem CA_else (hT : TQ g n B) {N q : Nat} {s : List Int32} (hq : q < 1000) (hs8 : s.length ≤ 8) (h : B q ≠ 41 ∨ s = []) (k : ∀ st, stk st s → EE K N (PS g q s.length st)) : CA g K N q s := by
  intro st hs
  refine ⟨1, ?_⟩
  rw [w_X9_parses_145]
  refine s9_sign hT (by omega) (is (fun c => it ?_ (k st hs)) (fun _ => k st hs))
  rw [hT.sg (by decide) (by decide)] at c
  rcases h with h | h
  · exact absurd c h
  · subst h
    exact (show nI 0 ≤ 0 by decide)
theorem CA_close (hT : TQ g n B) {N q : Nat} {s : List Int32} (hs8 : s.length ≤ 7) (h : B q = 41) (k : CA g K N (q + 1) (cl s)) : CA g K N q (2 :: s) := by
  intro st hs
  have hl : q < n := hT.lt (by rw [h]; decide)
  have hn := hT.1
  obtain ⟨c1, c2⟩ := cl_stk hs.2
  obtain ⟨m, hm⟩ := k st c1
  refine ⟨m + 1, ?_⟩
  rw [w_X9_parses_145]
  refine s9_sign hT (by omega) (it ((hT.sg (by decide) (by decide)).mpr h) (ie ?_ (pf_i (pf_i ?_))))
  · show ¬ nI (s.length + 1) ≤ nI 0
    rw [le_n (by omega) (by omega)]
    omega
  · show w_X9_closes (gu (gu (PS g q (s.length + 1) st) 67 53 (nI q + 1)) 67 54 (nI (s.length + 1) - 1)) _
    rw [show nI q + 1 = nI (q + 1) from (nI_succ q).symm, PS_53, show nI (s.length + 1) - 1 = nI s.length by rw [nI_succ]; exact inc_dec _, PS_54]
    exact s9_closes (by omega) hs.2 hm
theorem H_open (hT : TQ g n B) {N p : Nat} {s : List Int32} {x : Int32} (hx : (B p = 33 ∧ x = 1) ∨ (B p = 40 ∧ x = 2)) (hs : s.length < 5) (k : HA g K N (p + 1) (x :: s)) : HA g K (N + 1) p s := by
  intro st hst
  have hn := hT.1
  have hl : p < n := hT.lt (by rcases hx with ⟨h, _⟩ | ⟨h, _⟩ <;> rw [h] <;> decide)
  rw [w_X9_parses_10]
  have body : (if ((PS g p s.length st) 67 54) = 5 then K 0 (PS g p s.length st) else w_X9_sign (PS g p s.length st) fun v2 g5 => fp_j (fun (z0j60 : Int32) => fp_wr g5 108 8 ((PS g p s.length st) 67 54) z0j60 fun g6 => fp_pf g6 67 54 ((g6 67 54) + 1) fun g7 => fp_pf g7 67 53 ((g7 67 53) + 1) fun g8 => w_X9_parses_10 N g8 K) fun J60 => if v2 = 33 then J60 1 else J60 2) := by
    refine ie ?_ (s9_sign hT (by omega) (j_I ?_))
    · show ¬ nI s.length = nI 5
      rw [eq_n (by omega) (by omega)]
      omega
    have fin : ∀ z, z = x → (fp_wr (PS g p s.length st) 108 8 ((PS g p s.length st) 67 54) z fun g6 => fp_pf g6 67 54 ((g6 67 54) + 1) fun g7 => fp_pf g7 67 53 ((g7 67 53) + 1) fun g8 => w_X9_parses_10 N g8 K) := by
      intro z hz
      subst hz
      refine wr_e (k := s.length) rfl (by omega) (by omega) (pf_i (pf_i ?_))
      show w_X9_parses_10 N (gu (gu (gu (PS g p s.length st) 108 s.length z) 67 54 (nI s.length + 1)) 67 53 (nI p + 1)) K
      rw [PS_st, show nI s.length + 1 = nI (s.length + 1) from (nI_succ _).symm, PS_54, show nI p + 1 = nI (p + 1) from (nI_succ p).symm, PS_53]
      exact k _ ⟨upd_s _ _ _, stk_upd (Nat.le_refl _) hst⟩
    rcases hx with ⟨h, hz⟩ | ⟨h, hz⟩
    · exact it ((hT.sg (by decide) (by decide)).mpr h) (fin 1 hz.symm)
    · refine ie ?_ (fin 2 hz.symm)
      rw [hT.sg (by decide) (by decide), h]
      decide
  refine s9_sign hT (by omega) (j_I ?_)
  rcases hx with ⟨h, hz⟩ | ⟨h, hz⟩
  · exact it ((hT.sg (by decide) (by decide)).mpr h) body
  · refine ie ?_ (s9_sign hT (by omega) (it ((hT.sg (by decide) (by decide)).mpr h) body))
    rw [hT.sg (by decide) (by decide), h]
    decide
theorem H_deep (hT : TQ g n B) {N p : Nat} {s : List Int32} (hx : B p = 33 ∨ B p = 40) (hs : s.length = 5) (k : ∀ t st, K 0 (PS g p t st)) : HA g K (N + 1) p s := by
  intro st hst
  have hn := hT.1
  have hl : p < n := hT.lt (by rcases hx with h | h <;> rw [h] <;> decide)
  rw [w_X9_parses_10]
  have h5 : (PS g p s.length st) 67 54 = 5 := by
    show nI s.length = 5
    rw [hs]
    rfl
  refine s9_sign hT (by omega) (j_I (is (fun _ => it h5 (k _ _)) (fun c => s9_sign hT (by omega) (it ?_ (it h5 (k _ _))))))
  rw [hT.sg (by decide) (by decide)] at c ⊢
  exact hx.elim (fun z => absurd z c) id
/-- a test that opens nothing -/
theorem H_tst (hT : TQ g n B) {N p : Nat} {s : List Int32} (hp : p ≤ 900) (h1 : B p ≠ 33) (h2 : B p ≠ 40) (hs : s.length ≤ 8)
    (k : (noU B p ∧ ∀ t st, K 0 (PS g p t st)) ∨ ∃ q u, Ut B p q u ∧ (((∀ i, i < 3 → B q ≠ nI (60 + i)) ∧ ∀ t st, K 0 (PS g q t st)) ∨ ∃ i, i < 3 ∧ B q = nI (60 + i) ∧ ((noU B (q + 1) ∧ ∀ t st, K 0 (PS g (q + 1) t st)) ∨ ∃ r v, Ut B (q + 1) r v ∧ CA g K N r (cl s)))) : HA g K (N + 1) p s := by
  intro st hst
  have hn := hT.1
  rw [w_X9_parses_10]
  refine s9_sign hT (by omega) (j_I (ie ?_ (s9_sign hT (by omega) (ie ?_ ?_))))
  · rw [hT.sg (by decide) (by decide)]
    exact h1
  · rw [hT.sg (by decide) (by decide)]
    exact h2
  rcases k with ⟨hno, k⟩ | ⟨q, u, hu, k⟩
  · exact s9_unitF hT (by omega) hno (it rfl (k _ _))
  · have hq : q ≤ 1000 := by
      rcases hu with ⟨i, hi, e, rfl, _⟩ | ⟨j, _, _, _, _, rfl, _⟩ <;> omega
    refine s9_unitT hT hu (ie (by decide) (s9_sign hT hq (j_I ?_)))
    have c60 : ∀ i, i < 3 → (sgn B n q = nI (60 + i) ↔ B q = nI (60 + i)) := by
      intro i hi
      refine hT.sg ?_ ?_
      · rw [show (0 : Int32) = nI 0 from rfl, Ne, eq_n (by omega) (by omega)]
        omega
      · intro z
        rw [eq_I, nI_I (by omega), show (-1 : Int32).toInt = -1 from rfl] at z
        omega
    rcases k with ⟨hno, k⟩ | ⟨i, hi, ei, k⟩
    · exact ie (fun z => hno 0 (by omega) ((c60 0 (by omega)).mp z)) (s9_sign hT hq (ie (fun z => hno 1 (by omega) ((c60 1 (by omega)).mp z)) (s9_sign hT hq (ie (fun z => hno 2 (by omega) ((c60 2 (by omega)).mp z)) (k _ _)))))
    · have hl : q < n := hT.lt (by rw [ei, show (0 : Int32) = nI 0 from rfl, Ne, eq_n (by omega) (by omega)]; omega)
      have body : (fp_pf (PS g q s.length st) 67 53 (((PS g q s.length st) 67 53) + 1) fun g13 => w_X9_unit g13 fun v6 g14 => if v6 = 0 then K 0 g14 else w_X9_closes g14 fun _ g15 => ∃ n145, w_X9_parses_145 n145 g15 K (EE K N)) := by
        refine pf_i ?_
        show w_X9_unit (gu (PS g q s.length st) 67 53 (nI q + 1)) _
        rw [show nI q + 1 = nI (q + 1) from (nI_succ q).symm, PS_53]
        rcases k with ⟨hno, k⟩ | ⟨r, v, hv, k⟩
        · exact s9_unitF hT (by omega) hno (it rfl (k _ _))
        · exact s9_unitT hT hv (ie (by decide) (s9_closes hs hst (k st (cl_stk hst).1)))
      have e := (c60 i hi).mpr ei
      match i, hi with
      | 0, _ => exact it e body
      | 1, _ => exact ie (by rw [e]; decide) (s9_sign hT hq (it e body))
      | 2, _ => exact ie (by rw [e]; decide) (s9_sign hT hq (ie (by rw [e]; decide) (s9_sign hT hq (it e body))))
theorem Ut_pos (hT : TQ g n B) {p q u : Nat} (h : Ut B p q u) : p < q ∧ q ≤ n := by
  rcases h with ⟨i, hi, e, rfl, _⟩ | ⟨j, j1, j4, hd, hnd, rfl, _⟩
  · have := hT.lt (p := p) (by rw [e]; exact (L9_nz i hi).1)
    omega
  · have := hT.dgl (hd (j - 1) (by omega))
    omega
theorem cl_2 (s : List Int32) : cl (2 :: s) = 2 :: s := by rw [cl, if_neg (by decide)]
theorem cl_1 (s : List Int32) : cl (1 :: s) = cl s := by rw [cl, if_pos rfl]
theorem cl_len : ∀ s : List Int32, (cl s).length ≤ s.length
  | [] => Nat.le_refl _
  | x :: s => by
    rw [cl]
    split
    · exact Nat.le_trans (cl_len s) (Nat.le_succ _)
    · exact Nat.le_refl _
theorem PX_ref (hT : TQ g n B) {k l p q : Nat} {c : List Int32} {f : (Nat → Int32) → Bool} (hx : PX B k l p q c f) :
    k ≤ 5 → p < q ∧ q ≤ n ∧ ∀ s : List Int32, s.length = k → (1 ≤ l → cl s = s) → (∀ N, n - q + 1 ≤ N → CA g K N q (cl s)) → ∀ N, n - p + 1 ≤ N → HA g K N p s := by
  have hn := hT.1
  refine hx (fun k l p q c f => k ≤ 5 → p < q ∧ q ≤ n ∧ ∀ s : List Int32, s.length = k → (1 ≤ l → cl s = s) → (∀ N, n - q + 1 ≤ N → CA g K N q (cl s)) → ∀ N, n - p + 1 ≤ N → HA g K N p s) ⟨?_, ?_, ?_, ?_, ?_, ?_, ?_⟩
  · intro k p q r u s v h1 h2 h3 _ h5 h6 h7 _ hk
    have p1 := Ut_pos hT h3
    have p2 := Ut_pos hT h7
    refine ⟨by omega, by omega, fun s' hs _ hc N hN => ?_⟩
    match N, hN with
    | N + 1, hN => exact H_tst hT (by omega) h1 h2 (by omega) (Or.inr ⟨q, u, h3, Or.inr ⟨s, h5, h6, Or.inr ⟨r, v, h7, hc N (by omega)⟩⟩⟩)
  · intro k p q c f h1 h2 ih hk
    obtain ⟨i1, i2, i3⟩ := ih (by omega)
    refine ⟨by omega, i2, fun s hs _ hc N hN => ?_⟩
    match N, hN with
    | N + 1, hN => exact H_open hT (Or.inl ⟨h1, rfl⟩) (by omega) (i3 (1 :: s) (by simp [hs]) (fun z => absurd z (by omega)) (fun N hN => by rw [cl_1]; exact hc N hN) N (by omega))
  · intro k p q c f h1 h2 ih h4 hk
    obtain ⟨i1, i2, i3⟩ := ih (by omega)
    have hl := hT.lt (p := q) (by rw [h4]; decide)
    refine ⟨by omega, by omega, fun s hs _ hc N hN => ?_⟩
    match N, hN with
    | N + 1, hN =>
      refine H_open hT (Or.inr ⟨h1, rfl⟩) (by omega) (i3 (2 :: s) (by simp [hs]) (fun _ => cl_2 s) (fun N hN => ?_) N (by omega))
      rw [cl_2]
      exact CA_close hT (by omega) h4 (hc N (by omega))
  · intro k p q c f ih hk
    obtain ⟨i1, i2, i3⟩ := ih hk
    exact ⟨i1, i2, fun s hs _ hc N hN => i3 s hs (fun z => absurd z (by omega)) hc N hN⟩
  · intro k p q r c d f h ih1 h2 ih3 hk
    obtain ⟨i1, i2, i3⟩ := ih1 hk
    obtain ⟨j1, j2, j3⟩ := ih3 hk
    refine ⟨by omega, j2, fun s hs hcl hc N hN => i3 s hs hcl (fun N hN => ?_) N hN⟩
    rw [hcl (by omega)] at hc ⊢
    exact CA_else hT (by omega) (by omega) (Or.inl (by rw [h2]; decide)) (EE_op hT (by omega) (Or.inl h2) (j3 s hs (fun z => absurd z (by omega)) (by rw [hcl (by omega)]; exact hc) N (by omega)))
  · intro k p q c f ih hk
    obtain ⟨i1, i2, i3⟩ := ih hk
    exact ⟨i1, i2, fun s hs hcl hc N hN => i3 s hs (fun _ => hcl (by omega)) hc N hN⟩
  · intro k p q r c d f h ih1 h2 ih3 hk
    obtain ⟨i1, i2, i3⟩ := ih1 hk
    obtain ⟨j1, j2, j3⟩ := ih3 hk
    refine ⟨by omega, j2, fun s hs hcl hc N hN => i3 s hs hcl (fun N hN => ?_) N hN⟩
    rw [hcl (by omega)] at hc ⊢
    exact CA_else hT (by omega) (by omega) (Or.inl (by rw [h2]; decide)) (EE_op hT (by omega) (Or.inr h2) (j3 s hs (fun _ => hcl (by omega)) (by rw [hcl (by omega)]; exact hc) N (by omega)))
theorem FX_ref (hT : TQ g n B) {k l p q : Nat} (hx : FX B k l p q) :
    p ≤ n → k ≤ 5 → ∀ s : List Int32, s.length = k → (1 ≤ l → cl s = s) → (∀ t st, K 0 (PS g q t st)) → ∀ N, n - p + 1 ≤ N → HA g K N p s := by
  have hn := hT.1
  refine hx (fun k l p q => p ≤ n → k ≤ 5 → ∀ s : List Int32, s.length = k → (1 ≤ l → cl s = s) → (∀ t st, K 0 (PS g q t st)) → ∀ N, n - p + 1 ≤ N → HA g K N p s) ⟨?_, ?_, ?_, ?_, ?_, ?_, ?_, ?_, ?_, ?_, ?_⟩
  · intro k p h1 h2 hp hk s hs _ hr N hN
    match N, hN with
    | N + 1, hN => exact H_deep hT h1 (by omega) hr
  · intro k p h1 h2 h3 hp hk s hs _ hr N hN
    match N, hN with
    | N + 1, hN => exact H_tst hT (by omega) h1 h2 (by omega) (Or.inl ⟨h3, hr⟩)
  · intro k p q u h1 h2 h3 h4 hp hk s hs _ hr N hN
    match N, hN with
    | N + 1, hN => exact H_tst hT (by omega) h1 h2 (by omega) (Or.inr ⟨q, u, h3, Or.inl ⟨h4, hr⟩⟩)
  · intro k p q u i h1 h2 h3 h4 h5 h6 hp hk s hs _ hr N hN
    match N, hN with
    | N + 1, hN => exact H_tst hT (by omega) h1 h2 (by omega) (Or.inr ⟨q, u, h3, Or.inr ⟨i, h4, h5, Or.inl ⟨h6, hr⟩⟩⟩)
  · intro k p q h1 h2 ih hp hk s hs _ hr N hN
    have hl := hT.lt (p := p) (by rw [h1]; decide)
    match N, hN with
    | N + 1, hN => exact H_open hT (Or.inl ⟨h1, rfl⟩) (by omega) (ih (by omega) (by omega) (1 :: s) (by simp [hs]) (fun z => absurd z (by omega)) hr N (by omega))
  · intro k p q h1 h2 ih hp hk s hs _ hr N hN
    have hl := hT.lt (p := p) (by rw [h1]; decide)
    match N, hN with
    | N + 1, hN => exact H_open hT (Or.inr ⟨h1, rfl⟩) (by omega) (ih (by omega) (by omega) (2 :: s) (by simp [hs]) (fun _ => cl_2 s) hr N (by omega))
  · intro k p q c f h1 h2 h3 h4 h5 h6 hp hk s hs _ hr N hN
    have hl := hT.lt (p := p) (by rw [h1]; decide)
    obtain ⟨i1, i2, i3⟩ := PX_ref (K := K) hT h3 (by omega)
    match N, hN with
    | N + 1, hN =>
      refine H_open hT (Or.inr ⟨h1, rfl⟩) (by omega) (i3 (2 :: s) (by simp [hs]) (fun _ => cl_2 s) (fun N hN => ?_) N (by omega))
      rw [cl_2]
      exact CA_else hT (by omega) (by simp only [List.length_cons]; omega) (Or.inl h4) (EE_rej hT (by omega) h5 h6 (Or.inr (by simp)) (by simp only [List.length_cons]; omega) (fun st => hr _ st))
  · intro k p q ih hp hk s hs _ hr N hN
    exact ih hp hk s hs (fun z => absurd z (by omega)) hr N hN
  · intro k p q r c f h1 h2 ih hp hk s hs hcl hr N hN
    obtain ⟨i1, i2, i3⟩ := PX_ref (K := K) hT h1 (by omega)
    have hl := hT.lt (p := q) (by rw [h2]; decide)
    refine i3 s hs hcl (fun N hN => ?_) N hN
    rw [hcl (by omega)]
    exact CA_else hT (by omega) (by omega) (Or.inl (by rw [h2]; decide)) (EE_op hT (by omega) (Or.inl h2) (ih (by omega) hk s hs (fun z => absurd z (by omega)) hr N (by omega)))
  · intro k p q ih hp hk s hs hcl hr N hN
    exact ih hp hk s hs (fun _ => hcl (by omega)) hr N hN
  · intro k p q r c f h1 h2 ih hp hk s hs hcl hr N hN
    obtain ⟨i1, i2, i3⟩ := PX_ref (K := K) hT h1 (by omega)
    have hl := hT.lt (p := q) (by rw [h2]; decide)
    refine i3 s hs hcl (fun N hN => ?_) N hN
    rw [hcl (by omega)]
    exact CA_else hT (by omega) (by omega) (Or.inl (by rw [h2]; decide)) (EE_op hT (by omega) (Or.inr h2) (ih (by omega) hk s hs (fun _ => hcl (by omega)) hr N (by omega)))
theorem s9_parses (hT : TQ g n B) (h : HA g K (n + 1) 0 []) : w_X9_parses g K := by
  unfold w_X9_parses
  refine pf_i (pf_i ⟨n + 1, ?_⟩)
  have := h (g 108) trivial
  unfold PS at this
  rw [gc_id] at this
  exact this
theorem s9_parsesT (hT : TQ g n B) {c : List Int32} {f : (Nat → Int32) → Bool} (hx : PX B 0 2 0 n c f) (k : ∀ st, K 1 (PS g n 0 st)) : w_X9_parses g K := by
  have hn := hT.1
  obtain ⟨_, _, i3⟩ := PX_ref (K := K) hT hx (by omega)
  refine s9_parses hT (i3 [] rfl (fun _ => rfl) (fun N hN => ?_) (n + 1) (by omega))
  exact CA_else (s := []) hT (by omega) (by simp) (Or.inr rfl) (fun st _ => EE_acc hT k st)
theorem s9_parsesF (hT : TQ g n B) {q : Nat} (hx : FX B 0 2 0 q ∨ (∃ c f, PX B 0 2 0 q c f ∧ q < n ∧ B q ≠ 38 ∧ B q ≠ 124)) (k : ∀ t st, K 0 (PS g q t st)) : w_X9_parses g K := by
  have hn := hT.1
  rcases hx with hx | ⟨c, f, hx, hq, h1, h2⟩
  · exact s9_parses hT (FX_ref hT hx (by omega) (by omega) [] rfl (fun _ => rfl) k (n + 1) (by omega))
  · obtain ⟨_, _, i3⟩ := PX_ref (K := K) hT hx (by omega)
    refine s9_parses hT (i3 [] rfl (fun _ => rfl) (fun N hN => ?_) (n + 1) (by omega))
    exact CA_else (s := []) hT (by omega) (by simp) (Or.inr rfl) (EE_rej (s := []) hT (by omega) h1 h2 (Or.inl hq) (by simp) (fun st => k 0 st))
end
