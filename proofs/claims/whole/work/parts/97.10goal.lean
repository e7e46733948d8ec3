/-! ===== goal and next ===== -/
def VM (g : fp_G) : Prop := ∀ m, m < nMa g → (∃ o, o < nO g ∧ g 39 m = nI o) ∧ ∃ p, p < nMe g ∧ g 40 m = nI p
def gS (g : fp_G) (tu : Int32) (m o h : Nat) : Int32 := if tu = 0 then (lastO (pS g (g 40 m) h (lateN g o)) (nSt g)).elim (uAt g (g 23 (tn (g 40 m))) h (lateN g o)) (fun k => if g 26 k = 1 then g 27 k else uAt g (g 23 (tn (g 40 m))) h (lateN g o)) else g 39 m
theorem s4_goalOf {g : fp_G} {K : Int32 → fp_G → Prop} {c m o h p : Nat} (hC : Cnt g) (hR : VRoll g) (hB : FarB g) (hm : m < 60) (ho : o < 12) (hh : h ≤ 5000) (e2 : g (c + 2) m = nI o) (hp : p < 40) (ep : g 40 m = nI p) (k : K (gS g (g (c + 4) m) m o h) g) : w_X4_goalOf c (nI m) (nI h) g K := by
  unfold w_X4_goalOf
  unfold gS at k
  refine rd_n hm (by omega) (is (fun z => ?_) (fun z => rd_n hm (by omega) ?_))
  · rw [if_pos z, ep, tn_n (by omega)] at k
    refine rd_v rfl hm (by omega) ep (rd_v rfl hm (by omega) e2 (s2_late hB ho (s6_lastState hC hR hh (hB.late ho) (j_I ?_))))
    cases e : lastO (pS g (nI p) h (lateN g o)) (nSt g) with
    | none =>
      rw [e] at k
      exact it (by decide) (rd_n hp (by omega) (s6_unitAt hC hR hh (hB.late ho) k))
    | some b =>
      rw [e] at k
      have hb := (lastO_lt e).1
      have hn := hC.St.1
      have k : K (if g 26 b = 1 then g 27 b else uAt g (g 23 p) h (lateN g o)) g := k
      refine ie ?_ (rd_n (k := b) (by omega) (by omega) (is (fun c1 => rd_n (k := b) (by omega) (by omega) ?_) (fun c1 => rd_n hp (by omega) (s6_unitAt hC hR hh (hB.late ho) ?_))))
      · show ¬ nI b < nI 0
        rw [lt_n (by omega) (by omega)]
        omega
      · rw [if_pos c1] at k
        exact k
      · rw [if_neg c1] at k
        exact k
  · rw [if_neg z] at k
    exact k
theorem s9_goalOf {g : fp_G} {K : Int32 → fp_G → Prop} {m o h p : Nat} (hS : Same g) (hC : Cnt g) (hR : VRoll g) (hF : Fdd g) (hm : m < 60) (ho : o < 12) (hh : h ≤ 5000) (e2 : g 96 m = nI o) (hp : p < 40) (ep : g 40 m = nI p) (e93 : g 93 = g 40) (e91 : g 91 = g 39) (k : K (gS g (g 101 m) m o h) g) : w_X9_goalOf (nI m) (nI h) g K := by
  unfold w_X9_goalOf
  unfold gS at k
  obtain ⟨s86, s87, s88, s89⟩ := hS.2.2.2.2.2.2.2.1
  have e84 : g 84 = g 23 := hS.2.2.2.2.2.2.1.1
  have he : Hear g (nI o) (lateN g o) := Or.inr ⟨hF, o, ho, rfl, rfl⟩
  refine rd_n hm (by omega) (is (fun z => ?_) (fun z => rd_v (v := g 39 m) rfl hm (by omega) (by rw [e91]) ?_))
  · rw [if_pos z, ep, tn_n (by omega)] at k
    refine rd_v (v := nI p) rfl hm (by omega) (by rw [e93]; exact ep) (rd_v rfl hm (by omega) e2 (s9_latest hS hC hR he hh (j_I ?_)))
    have uu : K (uAt g (g 23 p) h (lateN g o)) g → (fp_rd (g 93) 60 (nI m) fun v5 => fp_rd (g 84) 40 v5 fun v6 => fp_rd (g 96) 60 (nI m) fun v7 => w_X9_unitAt v6 (nI h) v7 g fun v8 g2 => K v8 g2) := by
      intro k
      exact rd_v (v := nI p) rfl hm (by omega) (by rw [e93]; exact ep) (rd_v (v := g 23 p) rfl hp (by omega) (by rw [e84]) (rd_v rfl hm (by omega) e2 (s9_unitAt hS hC hR he hh k)))
    cases e : lastO (pS g (nI p) h (lateN g o)) (nSt g) with
    | none =>
      rw [e] at k
      exact it (by decide) (uu k)
    | some b =>
      rw [e] at k
      have hb := (lastO_lt e).1
      have hn := hC.St.1
      have k : K (if g 26 b = 1 then g 27 b else uAt g (g 23 p) h (lateN g o)) g := k
      refine ie ?_ (rd_v (k := b) (v := g 26 b) rfl (by omega) (by omega) (by rw [s87]) (is (fun c1 => rd_v (k := b) (v := g 27 b) rfl (by omega) (by omega) (by rw [s88]) ?_) (fun c1 => uu ?_)))
      · show ¬ nI b < nI 0
        rw [lt_n (by omega) (by omega)]
        omega
      · rw [if_pos c1] at k
        exact k
      · rw [if_neg c1] at k
        exact k
  · rw [if_neg z] at k
    exact k
theorem uAt_c {g : fp_G} (hR : VRoll g) (u : Int32) (h l : Nat) : uAt g u h l = -9 ∨ inN (uAt g u h l) (nO g) := by
  unfold uAt
  cases e : bestM (pM g u h l) (fun k => tn (g 21 k)) (nMo g) with
  | none => exact Or.inl rfl
  | some b =>
    obtain ⟨⟨o, ho, eo⟩, _⟩ := hR.1 b (bestM_lt e)
    exact Or.inr ⟨o, ho, eo⟩
theorem gS_c {g : fp_G} (hR : VRoll g) (hM : VM g) {m : Nat} (hm : m < nMa g) (tu : Int32) (o h : Nat) : gS g tu m o h = -9 ∨ inN (gS g tu m o h) (nO g) := by
  unfold gS
  split
  · cases e : lastO (pS g (g 40 m) h (lateN g o)) (nSt g) with
    | none => exact uAt_c hR _ _ _
    | some b =>
      show (if g 26 b = 1 then g 27 b else uAt g _ h (lateN g o)) = -9 ∨ inN (if g 26 b = 1 then g 27 b else uAt g _ h (lateN g o)) (nO g)
      by_cases c : g 26 b = 1
      · rw [if_pos c]
        obtain ⟨_, _, h3, _⟩ := hR.2.2 b (lastO_lt e).1
        obtain ⟨x, hx, ex⟩ := h3 c
        exact Or.inr ⟨x, hx, ex⟩
      · rw [if_neg c]
        exact uAt_c hR _ _ _
  · obtain ⟨⟨x, hx, ex⟩, _⟩ := hM m hm
    exact Or.inr ⟨x, hx, ex⟩
def oth (g : fp_G) (o w : Nat) : Nat := if wA g w = o then wB g w else wA g w
def wayP (g : fp_G) (o t w : Nat) : Bool := (decide (wA g w = o) || decide (wB g w = o)) && decide (wL g w + dN g (oth g o w) t = dN g o t)
def wS (g : fp_G) (o : Nat) (gl : Int32) : Int32 := if gl < 0 ∨ gl = nI o then -9 else if dN g o (tn gl) < 1000000 then fsB (wayP g o (tn gl)) (nW g) 0 else -9
theorem VNet.w {g : fp_G} (h : VNet g) (hO : nO g ≤ 12) {w : Nat} (hw : w < nW g) : wA g w < nO g ∧ wB g w < nO g ∧ 1 ≤ wL g w ∧ wL g w ≤ 48 ∧ g 10 w = nI (wA g w) ∧ g 11 w = nI (wB g w) ∧ g 12 w = nI (wL g w) := by
  obtain ⟨⟨a, b, ha, hb, _, ea, eb⟩, ⟨l, l1, l2, el⟩, _⟩ := h.2.2 w hw
  have ta : wA g w = a := by unfold wA; rw [ea]; exact tn_n (by omega)
  have tb : wB g w = b := by unfold wB; rw [eb]; exact tn_n (by omega)
  have tl : wL g w = l := by unfold wL; rw [el]; exact tn_n (by omega)
  rw [ta, tb, tl]
  exact ⟨ha, hb, l1, l2, ea, eb, el⟩
theorem s2_other {g : fp_G} {K : Int32 → fp_G → Prop} {o w : Nat} (hN : VNet g) (hO : nO g ≤ 12) (hW : nW g ≤ 24) (hw : w < nW g) (ho : o < 12) (k : K (nI (oth g o w)) g) : w_X2_otherEnd (nI w) (nI o) g K := by
  obtain ⟨ha, hb, _, _, ea, eb, _⟩ := hN.w hO hw
  unfold w_X2_otherEnd
  unfold oth at k
  refine rd_v rfl (by omega) (by omega) ea (is (fun c => rd_v rfl (by omega) (by omega) eb ?_) (fun c => rd_v rfl (by omega) (by omega) ea ?_))
  · rw [eq_n (by omega) (by omega)] at c
    rw [if_pos c] at k
    exact k
  · rw [eq_n (by omega) (by omega)] at c
    rw [if_neg c] at k
    exact k
theorem oth_lt {g : fp_G} (hN : VNet g) (hO : nO g ≤ 12) {o w : Nat} (hw : w < nW g) : oth g o w < nO g := by
  obtain ⟨ha, hb, _⟩ := hN.w hO hw
  unfold oth
  split <;> assumption
theorem l_wayTo {g : fp_G} {K : Int32 → fp_G → Prop} {o t : Nat} (hC : Cnt g) (hN : VNet g) (hB : FarB g) (ho : o < 12) (ht : t < 12) : ∀ r j, j + r = nW g → K (fsB (wayP g o t) r j) g → w_X2_wayTo_29 (r + 1) (nI o) (nI t) (nI j) g K := by
  obtain ⟨hO, _, _⟩ := hC.O
  obtain ⟨hW, h9, _⟩ := hC.W
  intro r
  induction r with
  | zero =>
    intro j hj k
    have hj : j = nW g := by omega
    rw [w_X2_wayTo_29]
    exact it (by rw [hj]; exact end_c h9) k
  | succ r ih =>
    intro j hj k
    rw [w_X2_wayTo_29]
    obtain ⟨ha, hb, l1, l2, ea, eb, el⟩ := hN.w hO (w := j) (by omega)
    have hx := oth_lt hN hO (o := o) (w := j) (by omega)
    have d1 := (hB.d (i := oth g o j) (j := t) (by omega) ht).1
    have d2 := (hB.d (i := o) (j := t) ho ht).1
    rw [fsB] at k
    have nx : wayP g o t j = false → w_X2_wayTo_29 (r + 1) (nI o) (nI t) (nI j + 1) g K := by
      intro z
      rw [z] at k
      rw [show nI j + 1 = nI (j + 1) from (nI_succ j).symm]
      exact ih (j + 1) (by omega) k
    have inner : (wA g j = o ∨ wB g j = o) → (fp_rd (g 12) 24 (nI j) fun v4 => w_X2_otherEnd (nI j) (nI o) g fun v5 g4 => w_X2_farBetween v5 (nI t) g4 fun v6 g5 => w_X2_farBetween (nI o) (nI t) g5 fun v7 g6 => if (v4 + v6) = v7 then K (nI j) g6 else w_X2_wayTo_29 (r + 1) (nI o) (nI t) (nI j + 1) g6 K) := by
      intro z
      refine rd_v rfl (by omega) (by omega) el (s2_other hN hO hW (by omega) ho (s2_far hB (by omega) ht (s2_far hB ho ht ?_)))
      rw [nI_add]
      have zz : (decide (wA g j = o) || decide (wB g j = o)) = true := by
        rcases z with z | z
        · rw [decide_eq_true z, Bool.true_or]
        · rw [decide_eq_true z, Bool.or_true]
      refine is (fun c => ?_) (fun c => nx ?_)
      · rw [eq_n (by omega) (by omega)] at c
        have : wayP g o t j = true := by unfold wayP; rw [zz, decide_eq_true c]; rfl
        rw [this] at k
        exact k
      · rw [eq_n (by omega) (by omega)] at c
        unfold wayP
        rw [decide_eq_false c, Bool.and_false]
    refine ie (nend_c h9 (by omega) (by omega)) (rd_v rfl (by omega) (by omega) ea (j_I (j_I (is (fun c => ?_) (fun c => rd_v rfl (by omega) (by omega) eb (is (fun c2 => ?_) (fun c2 => nx ?_)))))))
    · rw [eq_n (by omega) (by omega)] at c
      exact inner (Or.inl c)
    · rw [eq_n (by omega) (by omega)] at c2
      exact inner (Or.inr c2)
    · rw [eq_n (by omega) (by omega)] at c c2
      unfold wayP
      rw [decide_eq_false c, decide_eq_false c2]
      rfl
theorem s2_wayTo {g : fp_G} {K : Int32 → fp_G → Prop} {o : Nat} {gl : Int32} (hC : Cnt g) (hN : VNet g) (hB : FarB g) (ho : o < 12) (hg : gl = -9 ∨ inN gl (nO g)) (k : K (wS g o gl) g) : w_X2_wayTo (nI o) gl g K := by
  obtain ⟨hO, h6, _⟩ := hC.O
  unfold w_X2_wayTo
  unfold wS at k
  rcases hg with e | h
  · have hn : ¬ inN gl (nO g) := by
      rw [in_I (by omega), e]
      exact fun z => absurd z.1 (by decide)
    refine hf_X2_hasOffice hO h6 hn (it rfl ?_)
    rw [if_pos (Or.inl (by rw [e]; decide))] at k
    exact k
  · have h2 := h
    obtain ⟨t, ht, et⟩ := h2
    refine ht_X2_hasOffice hO h6 h (ie (by decide) ?_)
    have n0 : ¬ gl < 0 := by
      rw [et, show (0 : Int32) = nI 0 from rfl, lt_n (by omega) (by omega)]
      omega
    refine is (fun c => ?_) (fun c => ?_)
    · rw [if_pos (Or.inr c)] at k
      exact k
    · rw [if_neg (fun z => z.elim n0 c), et, tn_n (by omega)] at k
      rw [et]
      have d2 := (hB.d (i := o) (j := t) ho (by omega)).1
      refine s2_far hB ho (by omega) ?_
      rw [show (1000000 : Int32) = nI 1000000 from rfl]
      refine is (fun c => ⟨nW g + 1, l_wayTo hC hN hB ho (by omega) (nW g) 0 (by omega) ?_⟩) (fun c => ?_)
      · rw [lt_n (by omega) (by omega)] at c
        rw [if_pos c] at k
        exact k
      · rw [lt_n (by omega) (by omega)] at c
        rw [if_neg c] at k
        exact k
theorem l_wayOn {g : fp_G} {K : Int32 → fp_G → Prop} {o t : Nat} (hS : Same g) (hC : Cnt g) (hN : VNet g) (hF : Fdd g) (ho : o < 12) (ht : t < 12) (hne : t ≠ o) : ∀ r j, j + r = nW g → K (if dN g o t < 1000000 then fsB (wayP g o t) r j else -9) g → w_X9_wayOn_2 (r + 1) (nI o) (nI t) (nI j) g K := by
  obtain ⟨hO, _, _⟩ := hC.O
  obtain ⟨hW, _, h9⟩ := hC.W
  obtain ⟨s70, s71, s72, _⟩ := hS.2.2.2.1
  have hB := hF.2.2
  intro r
  induction r with
  | zero =>
    intro j hj k
    have hj : j = nW g := by omega
    rw [w_X9_wayOn_2]
    refine it (by rw [hj]; exact end_c h9) ?_
    rw [fsB] at k
    split at k <;> exact k
  | succ r ih =>
    intro j hj k
    rw [w_X9_wayOn_2]
    obtain ⟨ha, hb, l1, l2, ea, eb, el⟩ := hN.w hO (w := j) (by omega)
    have hx := oth_lt hN hO (o := o) (w := j) (by omega)
    have d1 := hB.d (i := oth g o j) (j := t) (by omega) ht
    have d2 := hB.d (i := o) (j := t) ho ht
    have v1 : g 78 (12 * oth g o j + t) = nI (dN g (oth g o j) t) := by rw [hF.1 _ (by omega)]; exact d1.2
    have v2 : g 78 (12 * o + t) = nI (dN g o t) := by rw [hF.1 _ (by omega)]; exact d2.2
    have i1 : 12 * nI (oth g o j) + nI t = nI (12 * oth g o j + t) := by rw [show (12 : Int32) = nI 12 from rfl, pk_mul, nI_add]
    have i2 : 12 * nI o + nI t = nI (12 * o + t) := by rw [show (12 : Int32) = nI 12 from rfl, pk_mul, nI_add]
    have ea' : g 70 j = nI (wA g j) := by rw [s70]; exact ea
    have eb' : g 71 j = nI (wB g j) := by rw [s71]; exact eb
    have el' : g 72 j = nI (wL g j) := by rw [s72]; exact el
    rw [fsB] at k
    have nx : (dN g o t < 1000000 → wayP g o t j = false) → w_X9_wayOn_2 (r + 1) (nI o) (nI t) (nI j + 1) g K := by
      intro z
      rw [show nI j + 1 = nI (j + 1) from (nI_succ j).symm]
      refine ih (j + 1) (by omega) ?_
      by_cases c : dN g o t < 1000000
      · rw [if_pos c, z c] at k
        rw [if_pos c]
        exact k
      · rw [if_neg c] at k
        rw [if_neg c]
        exact k
    have inner : (wA g j = o ∨ wB g j = o) → ∀ z : Int32, z = nI (oth g o j) → (fp_rd (g 78) 144 ((12 * nI o) + nI t) fun v3 => if 1000000 ≤ v3 then w_X9_wayOn_2 (r + 1) (nI o) (nI t) (nI j + 1) g K else fp_rd (g 72) 24 (nI j) fun v4 => fp_rd (g 78) 144 ((12 * z) + nI t) fun v5 => fp_rd (g 78) 144 ((12 * nI o) + nI t) fun v6 => if (v4 + v5) = v6 then K (nI j) g else w_X9_wayOn_2 (r + 1) (nI o) (nI t) (nI j + 1) g K) := by
      intro z x hx
      subst hx
      have zz : (decide (wA g j = o) || decide (wB g j = o)) = true := by
        rcases z with z | z
        · rw [decide_eq_true z, Bool.true_or]
        · rw [decide_eq_true z, Bool.or_true]
      refine rd_v i2 (by omega) (by omega) v2 ?_
      rw [show (1000000 : Int32) = nI 1000000 from rfl]
      refine is (fun c => nx (fun y => ?_)) (fun c => rd_v rfl (by omega) (by omega) el' (rd_v i1 (by omega) (by omega) v1 (rd_v i2 (by omega) (by omega) v2 ?_)))
      · rw [le_n (by omega) (by omega)] at c
        omega
      · rw [le_n (by omega) (by omega)] at c
        rw [nI_add]
        refine is (fun c2 => ?_) (fun c2 => nx (fun _ => ?_))
        · rw [eq_n (by omega) (by omega)] at c2
          have : wayP g o t j = true := by unfold wayP; rw [zz, decide_eq_true c2]; rfl
          rw [if_pos (by omega), this] at k
          exact k
        · rw [eq_n (by omega) (by omega)] at c2
          unfold wayP
          rw [decide_eq_false c2, Bool.and_false]
    have pick : (wA g j = o ∨ wB g j = o) → (fp_rd (g 70) 24 (nI j) fun v2 => fp_j (fun (z0j67 : Int32) => fp_rd (g 78) 144 ((12 * nI o) + nI t) fun v3 => if 1000000 ≤ v3 then w_X9_wayOn_2 (r + 1) (nI o) (nI t) (nI j + 1) g K else fp_rd (g 72) 24 (nI j) fun v4 => fp_rd (g 78) 144 ((12 * z0j67) + nI t) fun v5 => fp_rd (g 78) 144 ((12 * nI o) + nI t) fun v6 => if (v4 + v5) = v6 then K (nI j) g else w_X9_wayOn_2 (r + 1) (nI o) (nI t) (nI j + 1) g K) fun J67 => if v2 = nI o then fp_rd (g 71) 24 (nI j) fun v8 => J67 v8 else fp_rd (g 70) 24 (nI j) fun v7 => J67 v7) := by
      intro z
      refine rd_v rfl (by omega) (by omega) ea' (j_I (is (fun c => rd_v rfl (by omega) (by omega) eb' (inner z _ ?_)) (fun c => rd_v rfl (by omega) (by omega) ea' (inner z _ ?_))))
      · rw [eq_n (by omega) (by omega)] at c
        unfold oth
        rw [if_pos c]
      · rw [eq_n (by omega) (by omega)] at c
        unfold oth
        rw [if_neg c]
    refine ie (nend_c h9 (by omega) (by omega)) (ie ?_ (ie ?_ (rd_v rfl (by omega) (by omega) ea' (j_I (j_I (is (fun c => ?_) (fun c => rd_v rfl (by omega) (by omega) eb' (is (fun c2 => ?_) (fun c2 => nx (fun _ => ?_))))))))))
    · show ¬ nI t < nI 0
      rw [lt_n (by omega) (by omega)]
      omega
    · rw [eq_n (by omega) (by omega)]
      exact hne
    · rw [eq_n (by omega) (by omega)] at c
      exact pick (Or.inl c)
    · rw [eq_n (by omega) (by omega)] at c2
      exact pick (Or.inr c2)
    · rw [eq_n (by omega) (by omega)] at c c2
      unfold wayP
      rw [decide_eq_false c, decide_eq_false c2]
      rfl
theorem s9_wayOn {g : fp_G} {K : Int32 → fp_G → Prop} {o : Nat} {gl : Int32} (hS : Same g) (hC : Cnt g) (hN : VNet g) (hF : Fdd g) (ho : o < 12) (hg : gl = -9 ∨ inN gl (nO g)) (k : K (wS g o gl) g) : w_X9_wayOn (nI o) gl g K := by
  obtain ⟨hO, h6, _⟩ := hC.O
  obtain ⟨hW, _, h9⟩ := hC.W
  unfold w_X9_wayOn
  unfold wS at k
  by_cases c : gl < 0 ∨ gl = nI o
  · rw [if_pos c] at k
    refine ⟨1, ?_⟩
    rw [w_X9_wayOn_2]
    refine is (fun _ => k) (fun _ => is (fun _ => k) (fun c1 => ?_))
    exact it (c.elim (fun z => absurd z c1) id) k
  · rw [if_neg c] at k
    rcases hg with e | h
    · exact absurd (Or.inl (by rw [e]; decide)) c
    · obtain ⟨t, ht, et⟩ := h
      subst et
      rw [tn_n (by omega)] at k
      exact ⟨nW g + 1, l_wayOn hS hC hN hF ho (by omega) (fun z => c (Or.inr (by rw [z]))) (nW g) 0 (by omega) k⟩
theorem gS_ff (g : fp_G) (f : Nat → Int32) (tu : Int32) (m o h : Nat) : gS (gc g 78 f) tu m o h = gS g tu m o h := by
  unfold gS
  simp only [uAt_ff]
  rw [show pS (gc g 78 f) = pS g from rfl, show nSt (gc g 78 f) = nSt g from rfl, show gc g 78 f 26 = g 26 from rfl, show gc g 78 f 27 = g 27 from rfl, show gc g 78 f 39 = g 39 from rfl, show gc g 78 f 40 = g 40 from rfl, show gc g 78 f 23 = g 23 from rfl, show lateN (gc g 78 f) = lateN g from rfl]
theorem wS_ff (g : fp_G) (f : Nat → Int32) (o : Nat) (gl : Int32) : wS (gc g 78 f) o gl = wS g o gl := by
  unfold wS
  rw [show dN (gc g 78 f) = dN g from rfl, show wayP (gc g 78 f) = wayP g from rfl, show nW (gc g 78 f) = nW g from rfl]
theorem c_goal {x : Int32} {g : fp_G} {P : Int32 → Int32 → fp_G → Prop} (h : Q g) (hN : Now g) (hSC : SameC g) (hM : VM g) (hO2 : ∀ m, m < nMa g → ∃ o, o < nO g ∧ g 45 m = nI o) (ok : ∀ r f, P r r (gc g 78 f)) (no : ∀ r k, P r r (refG g k)) : w_X8_goal x g (fun r g1 => w_X9_goal x g1 (fun r2 g2 => P r r2 g2)) := by
  obtain ⟨hMa, h5, hk5⟩ := h.2.1.Ma
  obtain ⟨hO, _, _⟩ := h.2.1.O
  obtain ⟨hMe, _, _⟩ := h.2.1.Me
  obtain ⟨hn, h9, hk9⟩ := hN.n
  have hB : FarB g := h.2.2.2.2.1
  obtain ⟨⟨s90, s91, s93, s94, s92⟩, _⟩ := h.1.2.2.2.2.2.2.2.2
  obtain ⟨s95, s96, s97, s101, s98, s99, s102⟩ := hSC
  unfold w_X8_goal w_X8_notAtOffice
  by_cases hm : inN x (nMa g)
  · have hm2 := hm
    obtain ⟨m, hm2, em⟩ := hm2
    obtain ⟨_, p, hp, ep⟩ := hM m hm2
    obtain ⟨o, ho, eo⟩ := hO2 m hm2
    refine ht_X1_has hMa h5 hm (ie (by decide) (rd_e em (by omega) (by omega) (is (fun c => it (by decide) ?_) (fun c => ie (by decide) (e_refuse (k := 3) rfl (by decide) ?_)))))
    · rw [em, h9]
      refine s4_goalOf (c := 43) h.2.1 h.2.2.2.1 hB (by omega) (by omega) (by omega) eo (by omega) ep ?_
      unfold w_X9_goal
      refine ht_X9_isMail hMa hk5 (by rw [← em]; exact hm) (ie (by decide) (rd_n (by omega) (by omega) (it (by rw [s95]; exact c) (h.find (fun f fd q => ?_)))))
      show w_X9_goalOf (nI m) (g 67 15) (gc g 78 f) _
      rw [hk9]
      refine s9_goalOf q.1 q.2.1 q.2.2.2.1 fd (by omega) (by omega) (by omega) (show g 96 m = nI o by rw [s96]; exact eo) (by omega) ep s93 s91 ?_
      rw [gS_ff, show gc g 78 f 101 = g 47 from s101]
      exact ok _ _
    · unfold w_X9_goal
      refine ht_X9_isMail hMa hk5 hm (ie (by decide) (rd_e em (by omega) (by omega) (ie ?_ (e_no (k := 3) rfl (by decide) (no _ 3)))))
      show ¬ g 95 m = 0
      rw [s95]
      exact c
  · refine hf_X1_has hMa h5 hm (it rfl (ie (by decide) (e_refuse (k := 1) rfl (by decide) ?_)))
    unfold w_X9_goal
    exact hf_X9_isMail hMa hk5 hm (it rfl (e_no (k := 1) rfl (by decide) (no _ 1)))
theorem c_next {x : Int32} {g : fp_G} {P : Int32 → Int32 → fp_G → Prop} (h : Q g) (hN : Now g) (hSC : SameC g) (hM : VM g) (hO2 : ∀ m, m < nMa g → ∃ o, o < nO g ∧ g 45 m = nI o) (ok : ∀ r f, P r r (gc g 78 f)) (no : ∀ r k, P r r (refG g k)) : w_X8_next x g (fun r g1 => w_X9_next x g1 (fun r2 g2 => P r r2 g2)) := by
  obtain ⟨hMa, h5, hk5⟩ := h.2.1.Ma
  obtain ⟨hO, _, _⟩ := h.2.1.O
  obtain ⟨hMe, _, _⟩ := h.2.1.Me
  obtain ⟨hn, h9, hk9⟩ := hN.n
  have hB : FarB g := h.2.2.2.2.1
  obtain ⟨⟨s90, s91, s93, s94, s92⟩, _⟩ := h.1.2.2.2.2.2.2.2.2
  obtain ⟨s95, s96, s97, s101, s98, s99, s102⟩ := hSC
  unfold w_X8_next w_X8_notAtOffice
  by_cases hm : inN x (nMa g)
  · have hm2 := hm
    obtain ⟨m, hm2, em⟩ := hm2
    obtain ⟨_, p, hp, ep⟩ := hM m hm2
    obtain ⟨o, ho, eo⟩ := hO2 m hm2
    refine ht_X1_has hMa h5 hm (ie (by decide) (rd_e em (by omega) (by omega) (is (fun c => it (by decide) (rd_v em (by omega) (by omega) eo ?_)) (fun c => ie (by decide) (e_refuse (k := 3) rfl (by decide) ?_)))))
    · rw [em, h9]
      refine s4_goalOf (c := 43) h.2.1 h.2.2.2.1 hB (by omega) (by omega) (by omega) eo (by omega) ep (s2_wayTo h.2.1 h.2.2.1 hB (by omega) (gS_c h.2.2.2.1 hM hm2 _ _ _) ?_)
      unfold w_X9_next
      refine ht_X9_isMail hMa hk5 (by rw [← em]; exact hm) (ie (by decide) (rd_n (by omega) (by omega) (it (by rw [s95]; exact c) (h.find (fun f fd q => ?_)))))
      refine rd_v (k := m) (v := nI o) rfl (by omega) (by omega) (show g 96 m = nI o by rw [s96]; exact eo) ?_
      show w_X9_goalOf (nI m) (g 67 15) (gc g 78 f) _
      rw [hk9]
      refine s9_goalOf q.1 q.2.1 q.2.2.2.1 fd (by omega) (by omega) (by omega) (show g 96 m = nI o by rw [s96]; exact eo) (by omega) ep s93 s91 ?_
      rw [gS_ff, show gc g 78 f 101 = g 47 from s101]
      refine s9_wayOn q.1 q.2.1 q.2.2.1 fd (by omega) (gS_c h.2.2.2.1 hM hm2 _ _ _) ?_
      rw [wS_ff]
      exact ok _ _
    · unfold w_X9_next
      refine ht_X9_isMail hMa hk5 hm (ie (by decide) (rd_e em (by omega) (by omega) (ie ?_ (e_no (k := 3) rfl (by decide) (no _ 3)))))
      show ¬ g 95 m = 0
      rw [s95]
      exact c
  · refine hf_X1_has hMa h5 hm (it rfl (ie (by decide) (e_refuse (k := 1) rfl (by decide) ?_)))
    unfold w_X9_next
    exact hf_X9_isMail hMa hk5 hm (it rfl (e_no (k := 1) rfl (by decide) (no _ 1)))
