/-! ===== feed ===== -/
theorem m255_32 : ∀ i, i < 32 → (255#32).getLsbD i = decide (i < 8) := by decide
theorem m255_64 : ∀ i, i < 64 → (255#64).getLsbD i = decide (i < 8) := by decide
theorem by_low (z : Int64) : (vp_nar .byte (z.toInt32.toInt8.toInt32)) &&& 255 = (z &&& 255).toInt32 := by
  show (z.toInt32.toInt8.toInt32.toInt8.toInt32) &&& 255 = (z &&& 255).toInt32
  rw [← Int32.toBitVec_inj]
  simp only [Int32.toBitVec_and, Int8.toBitVec_toInt32, Int32.toBitVec_toInt8, Int64.toBitVec_toInt32, Int64.toBitVec_and]
  apply BitVec.eq_of_getLsbD_eq
  intro i hi
  have h32 := m255_32 i hi
  have h64 := m255_64 i (by omega)
  simp only [BitVec.getLsbD_and, BitVec.getLsbD_setWidth, BitVec.getLsbD_signExtend]
  rw [show (255 : Int32).toBitVec.getLsbD i = decide (i < 8) from h32, show (255 : Int64).toBitVec.getLsbD i = decide (i < 8) from h64]
  by_cases c : i < 8
  · simp [c, hi, show i < 64 by omega]
  · simp [c, show i < 64 by omega]
def fdZ (b : Int64) (j : Nat) : Int64 := b >>> ((8 * nI j : Int32).toInt64 &&& 63)
theorem l_feed8 {x1 : Int32} {x2 : Int64} {g : fp_G} {K : Int32 → fp_G → Prop} {t n : Nat} (hn : t + n ≤ 60) (hx : x1 = nI n)
    (k : ∀ f, (∀ i, i < t → f i = g 35 i) → (∀ i, i < n → f (t + i) = vp_nar .byte ((fdZ x2 i).toInt32.toInt8.toInt32)) → K (nI (t + n)) (gu (gc g 35 f) 29 1 (nI (t + n)))) :
    ∀ r j f, j + r = n → (∀ i, i < t → f i = g 35 i) → (∀ i, i < j → f (t + i) = vp_nar .byte ((fdZ x2 i).toInt32.toInt8.toInt32)) → w_X3_addBytes_3 (r + 1) x1 x2 (nI j) (gu (gc g 35 f) 29 1 (nI (t + j))) K := by
  intro r
  induction r with
  | zero =>
    intro j f hj h1 h2
    have hj : j = n := by omega
    subst hj
    rw [w_X3_addBytes_3]
    exact it (end_c hx) (k f h1 h2)
  | succ r ih =>
    intro j f hj h1 h2
    rw [w_X3_addBytes_3]
    refine ie (nend_c hx (by omega) (by omega)) (wr_e (k := t + j) rfl (by omega) (by omega) (pf_i ?_))
    show w_X3_addBytes_3 (r + 1) x1 x2 (nI j + 1) (gu (gu (gu (gc g 35 f) 29 1 (nI (t + j))) 35 (t + j) (vp_nar .byte ((fdZ x2 j).toInt32.toInt8.toInt32))) 29 1 (nI (t + j) + 1)) K
    rw [guu_c (gc g 35 f) 1 (t + j) _ _ (by decide : (29 : Nat) ≠ 35), guu_s, gcu_s, show nI j + 1 = nI (j + 1) from (nI_succ j).symm, show nI (t + j) + 1 = nI (t + (j + 1)) from (nI_succ (t + j)).symm]
    refine ih (j + 1) _ (by omega) (fun i hi => ?_) (fun i hi => ?_)
    · rw [upd_n _ _ (by omega)]
      exact h1 i hi
    · by_cases z : i = j
      · subst z
        rw [upd_s]
      · rw [upd_n _ _ (by omega)]
        exact h2 i (by omega)
theorem l_feed9 {x1 : Int32} {x2 : Int64} {g : fp_G} {K : Int32 → fp_G → Prop} {t n : Nat} (hn : t + n ≤ 60) (hx : x1 = nI n)
    (k : ∀ f, (∀ i, i < t → f i = g 103 i) → (∀ i, i < n → f (t + i) = ((fdZ x2 i) &&& 255).toInt32) → K (nI (t + n)) (gu (gc g 103 f) 67 51 (nI (t + n)))) :
    ∀ r j f, j + r = n → (∀ i, i < t → f i = g 103 i) → (∀ i, i < j → f (t + i) = ((fdZ x2 i) &&& 255).toInt32) → w_X9_feed_46 (r + 1) x1 x2 (nI j) (gu (gc g 103 f) 67 51 (nI (t + j))) K := by
  intro r
  induction r with
  | zero =>
    intro j f hj h1 h2
    have hj : j = n := by omega
    subst hj
    rw [w_X9_feed_46]
    exact it (end_c hx) (k f h1 h2)
  | succ r ih =>
    intro j f hj h1 h2
    rw [w_X9_feed_46]
    refine ie (nend_c hx (by omega) (by omega)) (wr_e (k := t + j) rfl (by omega) (by omega) (pf_i ?_))
    show w_X9_feed_46 (r + 1) x1 x2 (nI j + 1) (gu (gu (gu (gc g 103 f) 67 51 (nI (t + j))) 103 (t + j) (((fdZ x2 j) &&& 255).toInt32)) 67 51 (nI (t + j) + 1)) K
    rw [guu_c (gc g 103 f) 51 (t + j) _ _ (by decide : (67 : Nat) ≠ 103), guu_s, gcu_s, show nI j + 1 = nI (j + 1) from (nI_succ j).symm, show nI (t + j) + 1 = nI (t + (j + 1)) from (nI_succ (t + j)).symm]
    refine ih (j + 1) _ (by omega) (fun i hi => ?_) (fun i hi => ?_)
    · rw [upd_n _ _ (by omega)]
      exact h1 i hi
    · by_cases z : i = j
      · subst z
        rw [upd_s]
      · rw [upd_n _ _ (by omega)]
        exact h2 i (by omega)
def feedG (g : fp_G) (m : Nat) (f h : Nat → Int32) : fp_G := gu (gc (gu (gc g 35 f) 29 1 (nI m)) 103 h) 67 51 (nI m)
theorem gu_id (g : fp_G) {q i : Nat} {v : Int32} (h : g q i = v) : gu g q i v = g := by
  funext c d
  by_cases h1 : c = q ∧ d = i
  · simp [gu, h1, h]
  · simp [gu, h1]
theorem c_feed {x1 : Int32} {x2 : Int64} {g : fp_G} {P : Int32 → Int32 → fp_G → Prop} {t : Nat} (ht : t ≤ 60) (h1 : g 29 1 = nI t) (hk1 : g 67 51 = nI t)
    (ok : ∀ n f h, t + n ≤ 60 → (∀ i, i < t → f i = g 35 i) → (∀ i, i < t → h i = g 103 i) → (∀ i, t ≤ i → i < t + n → f i &&& 255 = h i) → P (nI (t + n)) (nI (t + n)) (feedG g (t + n) f h))
    (no : ∀ r k, P r r (refG g k)) : w_X8_feed x1 x2 g (fun r g1 => w_X9_feed x1 x2 g1 (fun r2 g2 => P r r2 g2)) := by
  unfold w_X8_feed
  dsimp only [fp_j]
  have z1 : (1 : Int32).toInt = 1 := rfl
  have z8 : (8 : Int32).toInt = 8 := rfl
  have room : (outS x1 1 8 = -6 ∨ (outS x1 1 8 = 0 ∧ ¬ nI t + x1 ≤ 60)) → w_X8_refuse (-6) g (fun r g1 => w_X9_feed x1 x2 g1 (fun r2 g2 => P r r2 g2)) := by
    intro c
    refine e_refuse (k := 6) rfl (by decide) ?_
    unfold w_X9_feed
    refine e_out (l := 1) (h := 8) rfl rfl ?_
    dsimp only [fp_j]
    rcases c with c | ⟨c, d⟩ <;> rw [c]
    · exact ie (by decide) (ie (by decide) (e_no (k := 6) rfl (by decide) (no _ 6)))
    · refine it rfl (ie ?_ (ie (by decide) (e_no (k := 6) rfl (by decide) (no _ 6))))
      show ¬ g 67 51 + x1 ≤ 60
      rw [hk1]
      exact d
  rcases outS_c x1 1 8 with ⟨h, c⟩ | ⟨h, c⟩ | ⟨h, c⟩
  · refine ie (by rw [le_I]; omega) (e_refuse (k := 4) rfl (by decide) ?_)
    unfold w_X9_feed
    refine e_out (l := 1) (h := 8) rfl rfl ?_
    dsimp only [fp_j]
    rw [h]
    exact ie (by decide) (ie (by decide) (e_no (k := 4) rfl (by decide) (no _ 4)))
  · exact it (by rw [le_I]; omega) (it (by rw [lt_I]; omega) (room (Or.inl h)))
  · obtain ⟨n, e, hn⟩ := nat_of (by omega) c.1 c.2
    refine it (by rw [le_I]; omega) (ie (by rw [lt_I]; omega) ?_)
    have e60 : (60 - g 29 1 : Int32) = nI (60 - t) := by
      rw [h1, show (60 : Int32) = nI ((60 - t) + t) by rw [show 60 - t + t = 60 by omega]; rfl, ← nI_add]
      exact Int32.add_sub_cancel _ _
    have ea : nI t + x1 = nI (t + n) := by rw [e, nI_add]
    by_cases cr : t + n ≤ 60
    · refine it ?_ ?_
      · rw [e60, e, le_I, nI_I (by omega), nI_I (by omega)]
        omega
      unfold w_X3_addBytes
      refine ⟨n + 1, ?_⟩
      have main := l_feed8 (x1 := x1) (x2 := x2) (g := g) (K := fun r g1 => w_X9_feed x1 x2 g1 (fun r2 g2 => P r r2 g2)) (t := t) (n := n) cr e ?_ n 0 (g 35) (by omega) (fun i hi => rfl) (fun i hi => absurd hi (by omega))
      · rw [gc_id, gu_id g (by rw [h1]; rfl)] at main
        exact main
      intro f f1 f2
      unfold w_X9_feed
      refine e_out (l := 1) (h := 8) rfl rfl ?_
      dsimp only [fp_j]
      rw [h]
      refine it rfl (it ?_ (it rfl ⟨n + 1, ?_⟩))
      · show g 67 51 + x1 ≤ 60
        rw [hk1, ea, show (60 : Int32) = nI 60 from rfl, le_I, nI_I (by omega), nI_I (by omega)]
        omega
      have main := l_feed9 (x1 := x1) (x2 := x2) (g := gu (gc g 35 f) 29 1 (nI (t + n))) (K := fun r2 g2 => P (nI (t + n)) r2 g2) (t := t) (n := n) cr e ?_ n 0 (g 103) (by omega) (fun i hi => rfl) (fun i hi => absurd hi (by omega))
      · rw [show gc (gu (gc g 35 f) 29 1 (nI (t + n))) 103 (g 103) = gu (gc g 35 f) 29 1 (nI (t + n)) from gc_id (gu (gc g 35 f) 29 1 (nI (t + n))) 103, gu_id (gu (gc g 35 f) 29 1 (nI (t + n))) (q := 67) (i := 51) (by show g 67 51 = nI (t + 0); rw [hk1]; rfl)] at main
        exact main
      intro h h1' h2
      refine ok n f h cr f1 h1' (fun i hi hi2 => ?_)
      have a1 := f2 (i - t) (by omega)
      have a2 := h2 (i - t) (by omega)
      rw [show t + (i - t) = i by omega] at a1 a2
      rw [a1, a2]
      exact by_low _
    · refine ie ?_ (room (Or.inr ⟨h, ?_⟩))
      · rw [e60, e, le_I, nI_I (by omega), nI_I (by omega)]
        omega
      · rw [ea, show (60 : Int32) = nI 60 from rfl, le_I, nI_I (by omega), nI_I (by omega)]
        omega
