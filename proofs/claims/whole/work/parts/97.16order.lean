/-! ===== order ===== -/
def nTa (g : fp_G) : Nat := tn (g 29 1)
def nOr (g : fp_G) : Nat := tn (g 29 6)
theorem Cnt.Ta {g : fp_G} (h : Cnt g) : nTa g ≤ 60 ∧ g 29 1 = nI (nTa g) ∧ g 67 51 = nI (nTa g) := ctr.n h.2.2.2.1.1 (by decide)
theorem Cnt.Or {g : fp_G} (h : Cnt g) : nOr g ≤ 30 ∧ g 29 6 = nI (nOr g) ∧ g 67 52 = nI (nOr g) := ctr.n h.2.2.2.1.2 (by decide)
def VTape (g : fp_G) : Prop := ∀ i, i < nTa g → g 35 i &&& 255 = g 103 i
theorem and255 (x : Int32) : ∃ k, k ≤ 255 ∧ x &&& 255 = nI k := by
  refine ⟨(x &&& 255).toBitVec.toNat, ?_, ?_⟩
  · rw [Int32.toBitVec_and, BitVec.toNat_and]
    exact Nat.and_le_right
  · rw [← Int32.toBitVec_inj]
    show _ = BitVec.ofNat 32 _
    rw [BitVec.ofNat_toNat, BitVec.setWidth_eq]
/-- an order that was told: its text and its steps say the same -/
def VOrd (g : fp_G) (t : Nat) : Prop := ∃ (B : Nat → Int32) (sz : Nat) (c : List Int32) (f : (Nat → Int32) → Bool), PX B 0 2 0 sz c f ∧ sz ≤ 60 ∧ g 105 t = nI sz ∧ (∀ i, i < sz → g 104 (60 * t + i) = B i ∧ ∃ k, k ≤ 255 ∧ B i = nI k) ∧ (∀ i, sz ≤ i → B i = 0) ∧ c.length ≤ sz ∧ g 32 t = nI c.length ∧ ∀ i, i < c.length → g 33 (60 * t + i) = c.getD i 0
def VOrders (g : fp_G) : Prop := ∀ t, t < nOr g → VOrd g t ∧ ∃ h, h ≤ 2000 ∧ g 31 t = nI h
theorem ht_X8_isPurpose {x : Int32} {g : fp_G} {K : Int32 → fp_G → Prop} (h : 0 ≤ x.toInt ∧ x.toInt ≤ 2) (k : K 1 g) : w_X8_isPurpose x g K := by
  unfold w_X8_isPurpose
  refine j_I (ie ?_ (ie ?_ k))
  · rw [lt_I, show (0 : Int32).toInt = 0 from rfl]
    omega
  · rw [lt_I, show (2 : Int32).toInt = 2 from rfl]
    omega
theorem hf_X8_isPurpose {x : Int32} {g : fp_G} {K : Int32 → fp_G → Prop} (h : ¬ (0 ≤ x.toInt ∧ x.toInt ≤ 2)) (k : K 0 g) : w_X8_isPurpose x g K := by
  unfold w_X8_isPurpose
  refine j_I (is (fun _ => k) (fun c => is (fun _ => k) (fun c2 => ?_)))
  rw [lt_I, show (0 : Int32).toInt = 0 from rfl] at c
  rw [lt_I, show (2 : Int32).toInt = 2 from rfl] at c2
  exact absurd ⟨by omega, by omega⟩ h
theorem l_order65 {g : fp_G} {x : Int32} {K : Int32 → fp_G → Prop} {n o : Nat} (hn : n ≤ 60) (ho : o < 30) (h52 : g 67 52 = nI o)
    (k : ∀ s, (∀ i, i < 60 * o → s i = g 104 i) → (∀ i, i < n → s (60 * o + i) = g 103 i) → K (nI (o + 1)) (gu (gu (gu (gu (gc g 104 s) 105 o (nI n)) 106 o x) 107 o (g 67 15)) 67 52 (nI (o + 1)))) :
    ∀ r j s, j + r = n → (∀ i, i < 60 * o → s i = g 104 i) → (∀ i, i < j → s (60 * o + i) = g 103 i) → w_X9_order_65 (r + 1) x (nI n) (nI j) (gc g 104 s) K := by
  intro r
  induction r with
  | zero =>
    intro j s hj h1 h2
    have hj : j = n := by omega
    subst hj
    rw [w_X9_order_65]
    refine it (end_c rfl) (wr_e h52 (by omega) (by omega) (wr_e h52 (by omega) (by omega) (wr_e h52 (by omega) (by omega) (pf_i ?_))))
    have := k s h1 h2
    show K (g 67 52 + 1) (gu (gu (gu (gu (gc g 104 s) 105 o (nI j)) 106 o x) 107 o (g 67 15)) 67 52 (g 67 52 + 1))
    rw [h52, show nI o + 1 = nI (o + 1) from (nI_succ o).symm]
    exact this
  | succ r ih =>
    intro j s hj h1 h2
    rw [w_X9_order_65]
    have ei : 60 * (gc g 104 s 67 52) + nI j = nI (60 * o + j) := by
      show 60 * g 67 52 + nI j = _
      rw [h52, show (60 : Int32) = nI 60 from rfl, pk_mul, nI_add]
    refine ie (nend_c rfl (by omega) (by omega)) (rd_n (k := j) (by omega) (by omega) (wr_e ei (by omega) (by omega) ?_))
    rw [gcu_s, show nI j + 1 = nI (j + 1) from (nI_succ j).symm]
    refine ih (j + 1) _ (by omega) (fun i hi => ?_) (fun i hi => ?_)
    · rw [upd_n _ _ (by omega)]
      exact h1 i hi
    · by_cases z : i = j
      · subst z
        rw [upd_s]
        rfl
      · rw [upd_n _ _ (by omega)]
        exact h2 i (by omega)
def ordC (g : fp_G) (o : Nat) (x t m : Int32) (a b s33 : Nat → Int32) : fp_G := gu (gc (gu (gu (gu (gu (gc (gc g 34 a) 36 b) 29 1 0) 30 o x) 31 o t) 32 o m) 33 s33) 29 6 (nI (o + 1))
def ordG (g : fp_G) (n o : Nat) (x t m p : Int32) (a b s33 st s104 : Nat → Int32) : fp_G := gu (gu (gu (gu (gc (gu (gu (gu (gc (ordC g o x t m a b s33) 108 st) 67 53 p) 67 54 0) 67 51 0) 104 s104) 105 o (nI n)) 106 o x) 107 o t) 67 52 (nI (o + 1))
def ordF (g : fp_G) (p t : Int32) (a b st : Nat → Int32) : fp_G := gu (gu (gu (gc (gu (gc (gc g 34 a) 36 b) 29 1 0) 108 st) 67 53 p) 67 54 t) 67 51 0
theorem c_order {x : Int32} {g : fp_G} {P : Int32 → Int32 → fp_G → Prop} (h : Q g) (hN : Now g) (hT : VTape g)
    (ok : ∀ B c f m p a b s33 st s104, nOr g < 30 → PX B 0 2 0 (nTa g) c f → (∀ i, i < nTa g → g 103 i = B i ∧ ∃ k, k ≤ 255 ∧ B i = nI k) → (∀ i, nTa g ≤ i → B i = 0) → c.length ≤ nTa g → m = nI c.length → (∀ i, i < 60 * nOr g → s33 i = g 33 i) → (∀ i, i < c.length → s33 (60 * nOr g + i) = c.getD i 0) → (∀ i, i < 60 * nOr g → s104 i = g 104 i) → (∀ i, i < nTa g → s104 (60 * nOr g + i) = g 103 i) → P (nI (nOr g + 1)) (nI (nOr g + 1)) (ordG g (nTa g) (nOr g) x (nI (nNow g)) m p a b s33 st s104))
    (okF : ∀ r p t a b st, P r r (ordF g p t a b st)) (no : ∀ r k, P r r (refG g k)) : w_X8_order x g (fun r g1 => w_X9_order x g1 (fun r2 g2 => P r r2 g2)) := by
  obtain ⟨hTa, h1, hk1⟩ := h.2.1.Ta
  obtain ⟨hOr, h6, hk6⟩ := h.2.1.Or
  obtain ⟨hNow, h9, hk9⟩ := hN.n
  unfold w_X8_order
  by_cases hx : 0 ≤ x.toInt ∧ x.toInt ≤ 2
  · refine ht_X8_isPurpose hx (ie (by decide) ?_)
    by_cases c30 : nOr g = 30
    · refine ie ?_ (e_refuse (k := 6) rfl (by decide) ?_)
      · rw [h6, c30]
        decide
      · unfold w_X9_order
        refine e_isIn (l := 0) (h := 2) rfl rfl ?_
        rw [bi_t hx]
        refine ie (by decide) (it ?_ (e_no (k := 6) rfl (by decide) (no _ 6)))
        show g 67 52 = 30
        rw [hk6, c30]
        rfl
    · refine it (lt_c (b := 30) h6 (by decide) (by omega)) ?_
      unfold w_X3_addOrder
      rw [h1]
      have hTP : TP g (nTa g) (fun i => if i < nTa g then g 103 i else 0) := by
        refine ⟨hTa, fun p hp => ?_, fun p hp => if_neg (by omega)⟩
        obtain ⟨k, hk, e⟩ := and255 (g 35 p)
        refine ⟨k, hk, ?_, e⟩
        show (if p < nTa g then g 103 p else 0) = nI k
        rw [if_pos hp, ← hT p hp, e]
      have hB1 : ∀ i, i < nTa g → g 103 i = (fun i => if i < nTa g then g 103 i else 0) i ∧ ∃ k, k ≤ 255 ∧ (fun i => if i < nTa g then g 103 i else 0) i = nI k := by
        intro i hi
        obtain ⟨k, hk, e, _⟩ := hTP.2.1 i hi
        exact ⟨(if_pos hi).symm, k, hk, e⟩
      have pre9 : ∀ (G : fp_G) (K : Int32 → fp_G → Prop), G 67 52 = nI (nOr g) → (w_X9_parses G fun v2 g2 => fp_pf g2 67 51 0 fun g3 => if v2 = 0 then K ((-20) - (g3 67 53)) g3 else ∃ n65, w_X9_order_65 n65 x (g2 67 51) 0 g3 K) → w_X9_order x G K := by
        intro G K hG hh
        unfold w_X9_order
        refine e_isIn (l := 0) (h := 2) rfl rfl ?_
        rw [bi_t hx]
        refine ie (by decide) (ie ?_ hh)
        rw [hG, show (30 : Int32) = nI 30 from rfl, eq_n (by omega) (by omega)]
        exact c30
      refine s5_readText hTP (fun c f st hpx hc => pf_i ?_) (fun q s st hfx hq hs => pf_i ?_)
      · refine ie (by decide) ?_
        have e34 : (gu (AL g (nTa g) (fun i => if i < nTa g then g 103 i else 0) (nTa g) c.length (app st 0 c)) 29 1 0) 29 6 = nI (nOr g) := h6
        refine wr_e e34 (by omega) (by omega) (wr_e e34 (by omega) (by omega) (wr_e e34 (by omega) (by omega) ?_))
        have dp : g 29 6 * 60 = nI (60 * nOr g) := by rw [h6, show (60 : Int32) = nI 60 from rfl, pk_mul, Nat.mul_comm]
        unfold fp_cp
        refine ⟨⟨by decide, ?_, ?_, ?_, ?_, fun _ _ => rfl⟩, pf_i ?_⟩
        · show ¬ g 29 6 * 60 < 0
          rw [dp, show (0 : Int32) = nI 0 from rfl, lt_n (by omega) (by omega)]
          omega
        · show ¬ nI c.length < nI 0
          rw [lt_n (by omega) (by omega)]
          omega
        · show tn 0 + tn (nI c.length) ≤ 60
          rw [tn_n (by omega), show tn 0 = 0 from rfl]
          omega
        · show tn (g 29 6 * 60) + tn (nI c.length) ≤ 1800
          rw [dp, tn_n (by omega), tn_n (by omega)]
          omega
        have s1 : ∀ i, i < 60 * nOr g → va_cpy (app st 0 c) (g 33) 0 (60 * nOr g) c.length i = g 33 i := fun i hi => pk_cpy_out (Or.inl hi)
        have s2 : ∀ i, i < c.length → va_cpy (app st 0 c) (g 33) 0 (60 * nOr g) c.length (60 * nOr g + i) = c.getD i 0 := by
          intro i hi
          rw [pk_cpy_in (by omega) (by omega), show 60 * nOr g + i - 60 * nOr g = i by omega]
          exact app_at c st 0 i hi
        show w_X9_order x (gu (gc (gu (gu (gu (gu (gc (gc g 34 (RSf g (nTa g) (nI c.length) (nI (nTa g)) (-1) (if nTa g < nTa g then g 103 (nTa g) else 0))) 36 (app st 0 c)) 29 1 0) 30 (nOr g) x) 31 (nOr g) (g 0 9)) 32 (nOr g) (nI c.length)) 33 (va_cpy (app st 0 c) (g 33) (tn 0) (tn (g 29 6 * 60)) (tn (nI c.length)))) 29 6 (g 29 6 + 1)) (fun r2 g2 => P (g 29 6 + 1) r2 g2)
        rw [dp, tn_n (by omega), tn_n (by omega), show tn 0 = 0 from rfl, h6, h9, show nI (nOr g) + 1 = nI (nOr g + 1) from (nI_succ _).symm]
        refine pre9 _ _ hk6 (s9_parsesT (g := ordC g (nOr g) x (nI (nNow g)) (nI c.length) (RSf g (nTa g) (nI c.length) (nI (nTa g)) (-1) (if nTa g < nTa g then g 103 (nTa g) else 0)) (app st 0 c) (va_cpy (app st 0 c) (g 33) 0 (60 * nOr g) c.length)) (n := nTa g) (B := fun i => if i < nTa g then g 103 i else 0) ⟨hTa, hk1, hB1, fun p hp => if_neg (by omega)⟩ hpx (fun st2 => pf_i (ie (by decide) ?_)))
        show ∃ n65, w_X9_order_65 n65 x (g 67 51) 0 _ _
        rw [hk1]
        refine ⟨nTa g + 1, ?_⟩
        have main := l_order65 (g := gu (PS (ordC g (nOr g) x (nI (nNow g)) (nI c.length) (RSf g (nTa g) (nI c.length) (nI (nTa g)) (-1) (if nTa g < nTa g then g 103 (nTa g) else 0)) (app st 0 c) (va_cpy (app st 0 c) (g 33) 0 (60 * nOr g) c.length)) (nTa g) 0 st2) 67 51 0) (x := x) (K := fun r2 g2 => P (nI (nOr g + 1)) r2 g2) (n := nTa g) (o := nOr g) hTa (by omega) hk6 ?_ (nTa g) 0 (g 104) (by omega) (fun i hi => rfl) (fun i hi => absurd hi (by omega))
        · rw [show gc (gu (PS (ordC g (nOr g) x (nI (nNow g)) (nI c.length) (RSf g (nTa g) (nI c.length) (nI (nTa g)) (-1) (if nTa g < nTa g then g 103 (nTa g) else 0)) (app st 0 c) (va_cpy (app st 0 c) (g 33) 0 (60 * nOr g) c.length)) (nTa g) 0 st2) 67 51 0) 104 (g 104) = gu (PS (ordC g (nOr g) x (nI (nNow g)) (nI c.length) (RSf g (nTa g) (nI c.length) (nI (nTa g)) (-1) (if nTa g < nTa g then g 103 (nTa g) else 0)) (app st 0 c) (va_cpy (app st 0 c) (g 33) 0 (60 * nOr g) c.length)) (nTa g) 0 st2) 67 51 0 from gc_id (gu (PS (ordC g (nOr g) x (nI (nNow g)) (nI c.length) (RSf g (nTa g) (nI c.length) (nI (nTa g)) (-1) (if nTa g < nTa g then g 103 (nTa g) else 0)) (app st 0 c) (va_cpy (app st 0 c) (g 33) 0 (60 * nOr g) c.length)) (nTa g) 0 st2) 67 51 0) 104] at main
          exact main
        intro s104 t1 t2
        have := ok (fun i => if i < nTa g then g 103 i else 0) c f (nI c.length) (nI (nTa g)) (RSf g (nTa g) (nI c.length) (nI (nTa g)) (-1) (if nTa g < nTa g then g 103 (nTa g) else 0)) (app st 0 c) (va_cpy (app st 0 c) (g 33) 0 (60 * nOr g) c.length) st2 s104 (by omega) hpx hB1 (fun i hi => if_neg (by omega)) hc rfl s1 s2 t1 t2
        rw [← hk9] at this ⊢
        exact this
      · refine it ?_ ?_
        · show nI 0 ≤ nI q
          rw [le_n (by omega) (by omega)]
          omega
        refine it ?_ ?_
        · show nI 0 ≤ nI q
          rw [le_n (by omega) (by omega)]
          omega
        refine pre9 _ _ hk6 (s9_parsesF (g := gu (DD g (nTa g) q s st) 29 1 0) (n := nTa g) (B := fun i => if i < nTa g then g 103 i else 0) ⟨hTa, hk1, hB1, fun p hp => if_neg (by omega)⟩ hfx (fun t st2 => pf_i (it rfl ?_)))
        exact okF ((-20) - nI q) (nI q) (nI t) _ _ st2
  · refine hf_X8_isPurpose hx (it rfl (e_refuse (k := 2) rfl (by decide) ?_))
    unfold w_X9_order
    refine e_isIn (l := 0) (h := 2) rfl rfl ?_
    rw [bi_f hx]
    exact it rfl (e_no (k := 2) rfl (by decide) (no _ 2))
