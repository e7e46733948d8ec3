/-! ===== what an hour leaves as it is; leaves; orders in force ===== -/
def chg (q i : Nat) : Bool := (((q == 0 && i == 9) || q == 3 || (q == 4 || q == 5)) || ((Nat.ble 44 q && Nat.ble q 51) || (Nat.ble 53 q && Nat.ble q 60))) || ((q == 78 || (Nat.ble 95 q && Nat.ble q 102)) || ((Nat.ble 108 q && Nat.ble q 119) || (q == 67 && (i == 15 || i == 53 || (i == 54 || (i == 57 || (i == 58 || i == 59)))))))
def Stc (g g' : fp_G) : Prop := ∀ q i, chg q i = false → g' q i = g q i
def ov (g X : fp_G) : fp_G := fun q i => bif chg q i then X q i else g q i
theorem Stc_ov {g g' : fp_G} (h : Stc g g') : g' = ov g g' := by
  funext q i
  unfold ov
  cases e : chg q i
  · exact h q i e
  · rfl
theorem Stc_refl (g : fp_G) : Stc g g := fun _ _ _ => rfl
theorem Stc_trans {a b c : fp_G} (h1 : Stc a b) (h2 : Stc b c) : Stc a c := fun q i e => by rw [h2 q i e, h1 q i e]
theorem Stc_gu {g g' : fp_G} (h : Stc g g') {q i : Nat} (v : Int32) (e : chg q i = true) : Stc g (gu g' q i v) := by
  intro a b e2
  by_cases z : a = q ∧ b = i
  · obtain ⟨rfl, rfl⟩ := z
    rw [e] at e2
    cases e2
  · have : gu g' q i v a b = g' a b := by simp [gu, z]
    rw [this]
    exact h a b e2
theorem Stc_gc {g g' : fp_G} (h : Stc g g') {q : Nat} (f : Nat → Int32) (e : ∀ i, chg q i = true) : Stc g (gc g' q f) := by
  intro a b e2
  by_cases z : a = q
  · subst z
    rw [e b] at e2
    cases e2
  · rw [gc_k _ _ z]
    exact h a b e2
theorem Stc_Same {g g' : fp_G} (H : Stc g g') (h : Same g) : Same g' := by rw [Stc_ov H]; exact h
theorem Stc_Cnt {g g' : fp_G} (H : Stc g g') (h : Cnt g) : Cnt g' := by rw [Stc_ov H]; exact h
theorem Stc_VNet {g g' : fp_G} (H : Stc g g') (h : VNet g) : VNet g' := by rw [Stc_ov H]; exact h
theorem Stc_VRoll {g g' : fp_G} (H : Stc g g') (h : VRoll g) : VRoll g' := by rw [Stc_ov H]; exact h
theorem Stc_VFar {g g' : fp_G} (H : Stc g g') (h : VFar g) : VFar g' := by rw [Stc_ov H]; exact h
theorem Stc_Q {g g' : fp_G} (H : Stc g g') (h : Q g) : Q g' := ⟨Stc_Same H h.1, Stc_Cnt H h.2.1, Stc_VNet H h.2.2.1, Stc_VRoll H h.2.2.2.1, Stc_VFar H h.2.2.2.2⟩
theorem Stc_VM {g g' : fp_G} (H : Stc g g') (h : VM g) : VM g' := by rw [Stc_ov H]; exact h
theorem Stc_late {g g' : fp_G} (H : Stc g g') : lateN g' = lateN g := by rw [Stc_ov H]; rfl
theorem Stc_nMa {g g' : fp_G} (H : Stc g g') : nMa g' = nMa g := by rw [Stc_ov H]; rfl
theorem Stc_nO {g g' : fp_G} (H : Stc g g') : nO g' = nO g := by rw [Stc_ov H]; rfl
theorem Stc_nW {g g' : fp_G} (H : Stc g g') : nW g' = nW g := by rw [Stc_ov H]; rfl
theorem Stc_nMe {g g' : fp_G} (H : Stc g g') : nMe g' = nMe g := by rw [Stc_ov H]; rfl
theorem Stc_nSt {g g' : fp_G} (H : Stc g g') : nSt g' = nSt g := by rw [Stc_ov H]; rfl
theorem Stc_pS {g g' : fp_G} (H : Stc g g') : pS g' = pS g := by rw [Stc_ov H]; rfl
theorem Stc_c {g g' : fp_G} (H : Stc g g') {q : Nat} (e : ∀ i, chg q i = false) : g' q = g q := funext (fun i => H q i (e i))
theorem Stc_stB {g g' : fp_G} (H : Stc g g') (m : Int32) (h l : Nat) : stB g' m h l = stB g m h l := by
  unfold stB
  rw [Stc_pS H, Stc_nSt H, Stc_c H (q := 26) (fun _ => rfl)]
theorem Stc_uAt {g g' : fp_G} (H : Stc g g') (u : Int32) (h l : Nat) : uAt g' u h l = uAt g u h l := by
  unfold uAt
  rw [show pM g' = pM g by rw [Stc_ov H]; rfl, show nMo g' = nMo g by rw [Stc_ov H]; rfl, Stc_c H (q := 20) (fun _ => rfl), Stc_c H (q := 21) (fun _ => rfl)]
theorem Stc_whB {g g' : fp_G} (H : Stc g g') (m h : Nat) : whB g' m h = whB g m h := by
  unfold whB
  simp only [Stc_uAt H]
  rw [Stc_pS H, Stc_nSt H, Stc_c H (q := 26) (fun _ => rfl), Stc_c H (q := 27) (fun _ => rfl), Stc_c H (q := 23) (fun _ => rfl)]
theorem Stc_gS {g g' : fp_G} (H : Stc g g') (tu : Int32) (m o h : Nat) : gS g' tu m o h = gS g tu m o h := by
  unfold gS
  simp only [Stc_uAt H]
  rw [Stc_pS H, Stc_nSt H, Stc_c H (q := 26) (fun _ => rfl), Stc_c H (q := 27) (fun _ => rfl), Stc_c H (q := 23) (fun _ => rfl), Stc_c H (q := 39) (fun _ => rfl), Stc_c H (q := 40) (fun _ => rfl), Stc_late H]
theorem Stc_oth {g g' : fp_G} (H : Stc g g') (o w : Nat) : oth g' o w = oth g o w := by rw [Stc_ov H]; rfl
theorem Stc_wS {g g' : fp_G} (H : Stc g g') (o : Nat) (gl : Int32) : wS g' o gl = wS g o gl := by
  unfold wS
  rw [show dN g' = dN g by rw [Stc_ov H]; rfl, show wayP g' = wayP g by rw [Stc_ov H]; rfl, Stc_nW H]
def anyF (p : Nat → Bool) : Nat → Nat → Bool
  | 0, _ => false
  | r + 1, j => p j || anyF p r (j + 1)
def shB (g : fp_G) (w h k : Nat) : Bool := decide (g 15 k = nI w) && (decide (¬ nI h < g 16 k) && decide (¬ g 17 k < nI h))
def nSh (g : fp_G) : Nat := tn (g 6 13)
theorem Cnt.Sh {g : fp_G} (h : Cnt g) : nSh g ≤ 40 ∧ g 6 13 = nI (nSh g) ∧ g 67 14 = nI (nSh g) := ctr.n h.1.2.2 (by decide)
def lvS (g : fp_G) (w h : Nat) : Bool := decide (¬ nI h < g 13 w) && (decide ((nI h - g 13 w) - (nI h - g 13 w) / g 14 w * g 14 w = 0) && !(anyF (shB g w h) (nSh g) 0))
theorem Stc_lvS {g g' : fp_G} (H : Stc g g') (w h : Nat) : lvS g' w h = lvS g w h := by
  unfold lvS
  rw [show shB g' = shB g by rw [Stc_ov H]; rfl, show nSh g' = nSh g by rw [Stc_ov H]; rfl, Stc_c H (q := 13) (fun _ => rfl), Stc_c H (q := 14) (fun _ => rfl)]
theorem l_leaves2 {g : fp_G} {K : Int32 → fp_G → Prop} {w h : Nat} (hC : Cnt g) : ∀ r j, j + r = nSh g → K (bI (!(anyF (shB g w h) r j))) g → w_X2_leaves_40 (r + 1) (nI w) (nI h) (nI j) g K := by
  obtain ⟨hn, h13, _⟩ := hC.Sh
  intro r
  induction r with
  | zero =>
    intro j hj k
    have hj : j = nSh g := by omega
    rw [w_X2_leaves_40]
    exact it (by rw [hj]; exact end_c h13) k
  | succ r ih =>
    intro j hj k
    rw [w_X2_leaves_40]
    rw [anyF] at k
    have nx : shB g w h j = false → w_X2_leaves_40 (r + 1) (nI w) (nI h) (nI j + 1) g K := by
      intro z
      rw [z, Bool.false_or] at k
      rw [show nI j + 1 = nI (j + 1) from (nI_succ j).symm]
      exact ih (j + 1) (by omega) k
    refine ie (nend_c h13 (by omega) (by omega)) (rd_n (by omega) (by omega) (j_I (is (fun c => rd_n (by omega) (by omega) (is (fun c2 => nx ?_) (fun c2 => rd_n (by omega) (by omega) (is (fun c3 => nx ?_) (fun c3 => ?_))))) (fun c => nx ?_))))
    · unfold shB
      rw [decide_eq_false (p := ¬ nI h < g 16 j) (fun z => z c2), Bool.false_and, Bool.and_false]
    · unfold shB
      rw [decide_eq_false (p := ¬ g 17 j < nI h) (fun z => z c3), Bool.and_false, Bool.and_false]
    · have : shB g w h j = true := by
        unfold shB
        rw [decide_eq_true c, decide_eq_true c2, decide_eq_true c3]
        rfl
      rw [this, Bool.true_or] at k
      exact k
    · unfold shB
      rw [decide_eq_false c, Bool.false_and]
theorem VNet.ev {g : fp_G} (h : VNet g) {w : Nat} (hw : w < nW g) : ∃ e, 1 ≤ e ∧ e ≤ 48 ∧ g 14 w = nI e := (h.2.2 w hw).2.2.2
theorem s2_leaves {g : fp_G} {K : Int32 → fp_G → Prop} {w h : Nat} (hC : Cnt g) (hN : VNet g) (hw : w < nW g) (k : K (bI (lvS g w h)) g) : w_X2_leaves (nI w) (nI h) g K := by
  obtain ⟨hW, _, _⟩ := hC.W
  obtain ⟨e, e1, e2, ee⟩ := hN.ev hw
  unfold w_X2_leaves
  unfold lvS at k
  refine rd_n (by omega) (by omega) (ie ?_ (rd_n (by omega) (by omega) (is (fun c => ?_) (fun c => rd_n (by omega) (by omega) (dv_i ?_ (is (fun c2 => ⟨nSh g + 1, l_leaves2 hC (nSh g) 0 (by omega) ?_⟩) (fun c2 => ?_)))))))
  · rw [ee, show (1 : Int32) = nI 1 from rfl, lt_n (by omega) (by omega)]
    omega
  · rw [decide_eq_false (fun z => z c), Bool.false_and] at k
    exact k
  · rw [ee, show (0 : Int32) = nI 0 from rfl, eq_n (by omega) (by omega)]
    omega
  · rw [decide_eq_true c, decide_eq_true c2, Bool.true_and, Bool.true_and] at k
    exact k
  · rw [decide_eq_false c2, Bool.false_and, Bool.and_false] at k
    exact k
theorem l_leaves9 {g : fp_G} {K : Int32 → fp_G → Prop} {w h : Nat} (hS : Same g) (hC : Cnt g) : ∀ r j, j + r = nSh g → K (bI (!(anyF (shB g w h) r j))) g → w_X9_leaves_32 (r + 1) (nI w) (nI h) (nI j) g K := by
  obtain ⟨hn, _, h13⟩ := hC.Sh
  obtain ⟨s75, s76, s77⟩ := hS.2.2.2.2.1
  intro r
  induction r with
  | zero =>
    intro j hj k
    have hj : j = nSh g := by omega
    rw [w_X9_leaves_32]
    exact it (by rw [hj]; exact end_c h13) k
  | succ r ih =>
    intro j hj k
    rw [w_X9_leaves_32]
    rw [anyF] at k
    have nx : shB g w h j = false → w_X9_leaves_32 (r + 1) (nI w) (nI h) (nI j + 1) g K := by
      intro z
      rw [z, Bool.false_or] at k
      rw [show nI j + 1 = nI (j + 1) from (nI_succ j).symm]
      exact ih (j + 1) (by omega) k
    refine ie (nend_c h13 (by omega) (by omega)) (rd_v (v := g 15 j) rfl (by omega) (by omega) (by rw [s75]) (j_I (is (fun c => rd_v (v := g 16 j) rfl (by omega) (by omega) (by rw [s76]) (rd_v (v := g 17 j) rfl (by omega) (by omega) (by rw [s77]) (e_isIn (l := (g 16 j).toInt) (h := (g 17 j).toInt) (L64 _) (L64 _) ?_))) (fun c => nx ?_))))
    · by_cases c2 : (g 16 j).toInt ≤ (nI h).toInt ∧ (nI h).toInt ≤ (g 17 j).toInt
      · rw [bi_t c2]
        have : shB g w h j = true := by
          unfold shB
          rw [decide_eq_true c, decide_eq_true (p := ¬ nI h < g 16 j) (by rw [lt_I]; omega), decide_eq_true (p := ¬ g 17 j < nI h) (by rw [lt_I]; omega)]
          rfl
        rw [this, Bool.true_or] at k
        exact ie (by decide) k
      · rw [bi_f c2]
        refine it rfl (nx ?_)
        unfold shB
        by_cases c3 : (g 16 j).toInt ≤ (nI h).toInt
        · rw [decide_eq_false (p := ¬ g 17 j < nI h) (by rw [lt_I]; omega), Bool.and_false, Bool.and_false]
        · rw [decide_eq_false (p := ¬ nI h < g 16 j) (by rw [lt_I]; omega), Bool.false_and, Bool.and_false]
    · unfold shB
      rw [decide_eq_false c, Bool.false_and]
theorem s9_leaves {g : fp_G} {K : Int32 → fp_G → Prop} {w h : Nat} (hS : Same g) (hC : Cnt g) (hN : VNet g) (hw : w < nW g) (k : K (bI (lvS g w h)) g) : w_X9_leaves (nI w) (nI h) g K := by
  obtain ⟨hW, _, _⟩ := hC.W
  obtain ⟨e, e1, e2, ee⟩ := hN.ev hw
  obtain ⟨_, _, _, s73, s74⟩ := hS.2.2.2.1
  unfold w_X9_leaves
  unfold lvS at k
  refine rd_v (v := g 13 w) rfl (by omega) (by omega) (by rw [s73]) (is (fun c => ?_) (fun c => rd_v (v := g 13 w) rfl (by omega) (by omega) (by rw [s73]) (rd_v (v := g 14 w) rfl (by omega) (by omega) (by rw [s74]) (dv_i ?_ (is (fun c2 => ⟨nSh g + 1, l_leaves9 hS hC (nSh g) 0 (by omega) ?_⟩) (fun c2 => ?_))))))
  · rw [decide_eq_false (fun z => z c), Bool.false_and] at k
    exact k
  · rw [ee, show (0 : Int32) = nI 0 from rfl, eq_n (by omega) (by omega)]
    omega
  · rw [decide_eq_true c, decide_eq_true c2, Bool.true_and, Bool.true_and] at k
    exact k
  · rw [decide_eq_false c2, Bool.false_and, Bool.and_false] at k
    exact k
/-! orders in force -/
def pO (g : fp_G) (u : Int32) (h l k : Nat) : Bool := decide (g 30 k = u) && decide (tn (g 31 k) + l ≤ h)
def VOrdF (g : fp_G) (t : Nat) (f : (Nat → Int32) → Bool) : Prop := ∃ (B : Nat → Int32) (sz : Nat) (c : List Int32), PX B 0 2 0 sz c f ∧ sz ≤ 60 ∧ g 105 t = nI sz ∧ (∀ i, i < sz → g 104 (60 * t + i) = B i ∧ ∃ k, k ≤ 255 ∧ B i = nI k) ∧ (∀ i, sz ≤ i → B i = 0) ∧ c.length ≤ sz ∧ g 32 t = nI c.length ∧ ∀ i, i < c.length → g 33 (60 * t + i) = c.getD i 0
def VOF (g : fp_G) (F : Nat → (Nat → Int32) → Bool) : Prop := ∀ t, t < nOr g → VOrdF g t (F t) ∧ ∃ h, h ≤ 2000 ∧ g 31 t = nI h
theorem VOF_ex {g : fp_G} (h : VOrders g) : ∃ F, VOF g F := by
  have : ∀ t, ∃ f, t < nOr g → VOrdF g t f ∧ ∃ h, h ≤ 2000 ∧ g 31 t = nI h := by
    intro t
    by_cases c : t < nOr g
    · obtain ⟨⟨B, sz, c, f, hx⟩, h2⟩ := h t c
      exact ⟨f, fun _ => ⟨⟨B, sz, c, hx⟩, h2⟩⟩
    · exact ⟨fun _ => false, fun z => absurd z c⟩
  exact ⟨fun t => Classical.choose (this t), fun t ht => Classical.choose_spec (this t) ht⟩
theorem Stc_VOF {g g' : fp_G} (H : Stc g g') {F : Nat → (Nat → Int32) → Bool} (h : VOF g F) : VOF g' F := by rw [Stc_ov H]; exact h
theorem VOF.told {g : fp_G} {F : Nat → (Nat → Int32) → Bool} (h : VOF g F) (hC : Cnt g) {k : Nat} (hk : k < nOr g) : tn (g 31 k) ≤ 2000 ∧ g 31 k = nI (tn (g 31 k)) := by
  obtain ⟨_, t, ht, e⟩ := h k hk
  rw [e, tn_n (by omega)]
  exact ⟨by omega, rfl⟩
theorem s3_inForce {g : fp_G} {K : Int32 → fp_G → Prop} {F : Nat → (Nat → Int32) → Bool} {u : Int32} {h l : Nat} (hC : Cnt g) (hF : VOF g F) (hh : h ≤ 5000) (hl : l ≤ 1000000) (k : K ((lastO (pO g u h l) (nOr g)).elim (-1) nI) g) : w_X3_inForce u (nI h) (nI l) g K := by
  unfold w_X3_inForce
  refine ⟨nOr g + 1, ?_⟩
  rw [hC.Or.2.1]
  have hn := hC.Or.1
  have loop : ∀ r, r ≤ nOr g → K ((lastO (pO g u h l) r).elim (-1) nI) g → w_X3_inForce_8 (r + 1) u (nI h) (nI l) (nI r - 1) g K := by
    intro r
    induction r with
    | zero =>
      intro hr k
      rw [w_X3_inForce_8]
      exact it (by decide) k
    | succ r ih =>
      intro hr k
      rw [w_X3_inForce_8]
      rw [show nI (r + 1) - 1 = nI r by rw [nI_succ]; exact inc_dec r]
      obtain ⟨ht, et⟩ := hF.told hC (k := r) (by omega)
      rw [lastO] at k
      rw [show nI r + -1 = nI r - 1 from (Int32.sub_eq_add_neg _ _).symm]
      have nx : pO g u h l r = false → w_X3_inForce_8 (r + 1) u (nI h) (nI l) (nI r - 1) g K := by
        intro z
        rw [z] at k
        exact ih (by omega) k
      refine ie ?_ (rd_n (by omega) (by omega) ?_)
      · rw [show (0 : Int32) = nI 0 from rfl, lt_n (by omega) (by omega)]
        omega
      refine j_I ?_
      refine is (fun c => rd_v rfl (by omega) (by omega) et ?_) (fun c => nx ?_)
      · rw [nI_add]
        refine is (fun c2 => nx ?_) (fun c2 => ?_)
        · rw [lt_n (by omega) (by omega)] at c2
          unfold pO
          rw [decide_eq_false (p := tn (g 31 r) + l ≤ h) (by omega), Bool.and_false]
        · rw [lt_n (by omega) (by omega)] at c2
          have : pO g u h l r = true := by
            unfold pO
            rw [decide_eq_true c, decide_eq_true (p := tn (g 31 r) + l ≤ h) (by omega)]
            rfl
          rw [this] at k
          exact k
      · unfold pO
        rw [decide_eq_false c, Bool.false_and]
  exact loop (nOr g) (Nat.le_refl _) k
def holdV (g : fp_G) (F : Nat → (Nat → Int32) → Bool) (u : Int32) (o h : Nat) (φ : Nat → Int32) : Bool := (lastO (pO g u h (lateN g o)) (nOr g)).elim false (fun t => F t φ)
theorem Stc_holdV {g g' : fp_G} (H : Stc g g') (F : Nat → (Nat → Int32) → Bool) (u : Int32) (o h : Nat) (φ : Nat → Int32) : holdV g' F u o h φ = holdV g F u o h φ := by
  unfold holdV
  rw [show pO g' = pO g by rw [Stc_ov H]; rfl, show nOr g' = nOr g by rw [Stc_ov H]; rfl, Stc_late H]
theorem uv_ext {φ ψ : Nat → Int32} (h : ∀ i, i < 9 → φ i = ψ i) (u : Nat) : uv u φ = uv u ψ := by
  unfold uv
  by_cases c : 10000 ≤ u ∧ u < 10009
  · rw [if_pos c, if_pos c, h _ (by omega)]
  · rw [if_neg c, if_neg c]
theorem PX_ext {B : Nat → Int32} {φ ψ : Nat → Int32} (h : ∀ i, i < 9 → φ i = ψ i) {k l p q : Nat} {c : List Int32} {f : (Nat → Int32) → Bool} (hx : PX B k l p q c f) : f φ = f ψ := by
  refine hx (fun _ _ _ _ _ f => f φ = f ψ) ⟨?_, ?_, ?_, ?_, ?_, ?_, ?_⟩
  · intro k p q r u s v _ _ _ _ _ _ _ _
    show cmpS s (uv u φ) (uv v φ) = cmpS s (uv u ψ) (uv v ψ)
    rw [uv_ext h, uv_ext h]
  · intro k p q c f _ _ ih
    show (!f φ) = (!f ψ)
    rw [ih]
  · exact fun k p q c f _ _ ih _ => ih
  · exact fun k p q c f ih => ih
  · intro k p q r c d f g ih1 _ ih2
    show (f φ && g φ) = (f ψ && g ψ)
    rw [ih1, ih2]
  · exact fun k p q c f ih => ih
  · intro k p q r c d f g ih1 _ ih2
    show (f φ || g φ) = (f ψ || g ψ)
    rw [ih1, ih2]
theorem holdV_ext {g : fp_G} {F : Nat → (Nat → Int32) → Bool} (hF : VOF g F) {u : Int32} {o h : Nat} {φ ψ : Nat → Int32} (e : ∀ i, i < 9 → φ i = ψ i) : holdV g F u o h φ = holdV g F u o h ψ := by
  unfold holdV
  cases e2 : lastO (pO g u h (lateN g o)) (nOr g) with
  | none => rfl
  | some t =>
    obtain ⟨⟨B, sz, c, hx, _⟩, _⟩ := hF t (lastO_lt e2).1
    exact PX_ext e hx
theorem s4_purpose {g : fp_G} {K : Int32 → fp_G → Prop} {F : Nat → (Nat → Int32) → Bool} {u : Int32} {o h : Nat} (hC : Cnt g) (hB : FarB g) (hF : VOF g F) (ho : o < 12) (hh : h ≤ 5000) (k : K (bI (holdV g F u o h (g 5))) g) : w_X4_purposeHolds u (nI o) (nI h) g K := by
  unfold w_X4_purposeHolds
  unfold holdV at k
  refine s2_late hB ho (s3_inForce hC hF hh (hB.late ho) (j_I ?_))
  cases e : lastO (pO g u h (lateN g o)) (nOr g) with
  | none =>
    rw [e] at k
    exact it (by decide) k
  | some t =>
    rw [e] at k
    have k : K (bI (F t (g 5))) g := k
    have ht := (lastO_lt e).1
    have hn := hC.Or.1
    obtain ⟨⟨B, sz, c, hx, hsz, _, _, _, hcl, h32, h33⟩, _⟩ := hF t ht
    refine ie ?_ (s3_isTrue (by omega) hx (by omega) h32 h33 ?_)
    · show ¬ nI t < nI 0
      rw [lt_n (by omega) (by omega)]
      omega
    cases e2 : F t (g 5) <;> rw [e2] at k
    · exact it rfl k
    · exact ie (by decide) k
