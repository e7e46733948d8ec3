/-! ===== hours ===== -/
theorem Stc_spS {g g' : fp_G} (H : Stc g g') (m h : Nat) : spS g' m h = spS g m h := by
  unfold spS
  rw [H 38 m rfl, H 42 m rfl, H 41 m rfl]
theorem Stc_fcE {g g' : fp_G} (H : Stc g g') (e : Nat → Int32) (m h : Nat) : fcE g' e m h = fcE g e m h := by
  unfold fcE
  rw [Stc_stB H, Stc_late H, H 38 m rfl, H 41 m rfl, H 42 m rfl, H 40 m rfl, Stc_c H (q := 23) (fun _ => rfl)]
theorem Stc_tbX {g g' : fp_G} (H : Stc g g') (F : Nat → (Nat → Int32) → Bool) (m h : Nat) (e : Nat → Int32) : tbX g' F m h e = tbX g F m h e := by
  unfold tbX
  rw [Stc_holdV H, Stc_fcE H, Stc_stB H, Stc_late H, H 40 m rfl]
theorem Stc_sndE {g g' : fp_G} (H : Stc g g') (e : Nat → Int32) (o h : Nat) (w : Int32) : sndE g' e o h w = sndE g e o h w := by
  unfold sndE
  rw [Stc_lvS H, Stc_oth H, Stc_c H (q := 12) (fun _ => rfl)]
theorem Stc_hanE {g g' : fp_G} (H : Stc g g') (e : Nat → Int32) (m o h : Nat) (gl : Int32) : hanE g' e m o h gl = hanE g e m o h gl := by
  unfold hanE
  rw [Stc_whB H, Stc_spS H, Stc_sndE H, Stc_wS H, H 40 m rfl, H 2 7 rfl]
theorem Stc_seeE {g g' : fp_G} (H : Stc g g') (F : Nat → (Nat → Int32) → Bool) (m h : Nat) (e : Nat → Int32) : seeE g' F m h e = seeE g F m h e := by
  unfold seeE
  rw [Stc_holdV H, Stc_holdV H, Stc_fcE H, Stc_tbX H, Stc_gS H, Stc_hanE H]
theorem Stc_hourD {g g' : fp_G} (H : Stc g g') (F : Nat → (Nat → Int32) → Bool) (D : fp_G) (h : Nat) : hourD g' F D h = hourD g F D h := by
  unfold hourD
  rw [Stc_nMa H]
  funext r m
  unfold PD
  rw [Stc_seeE H]
  have : prc g' (arrD D h (nMa g)) (nMa g) m = prc g (arrD D h (nMa g)) (nMa g) m := by
    unfold prc hdN
    rw [Stc_c H (q := 7) (fun _ => rfl)]
  rw [this]
def itD (g : fp_G) (F : Nat → (Nat → Int32) → Bool) (D : fp_G) (h : Nat) : Nat → fp_G
  | 0 => D
  | k + 1 => hourD g F (itD g F D h k) (h + k)
def itT (g : fp_G) (F : Nat → (Nat → Int32) → Bool) (D : fp_G) (T : Nat → Int32) (h : Nat) : Nat → Nat → Int32
  | 0 => T
  | k + 1 => arrT (itD g F D h k) (itT g F D T h k) (h + k) (nMa g)
theorem IV_it {g D : fp_G} {F : Nat → (Nat → Int32) → Bool} {h : Nat} (hq : QQ g F) (hI : IV g D h) : ∀ k, IV g (itD g F D h k) (h + k)
  | 0 => hI
  | k + 1 => IV_hour hq (IV_it hq hI k)
def IB (g D : fp_G) : Prop := ∀ m, m < nMa g → (D 4 m = 0 ∨ D 4 m = 1) ∧ (D 7 m = 0 ∨ D 7 m = 1)
def B47 (e : Nat → Int32) : Prop := (e 4 = 0 ∨ e 4 = 1) ∧ (e 7 = 0 ∨ e 7 = 1)
theorem B47_up {e : Nat → Int32} (h : B47 e) {r : Nat} (hr : r ≠ 4 ∧ r ≠ 7) (v : Int32) : B47 (upd e r v) := by
  unfold B47
  rw [upd_n _ _ (fun z => hr.1 z.symm), upd_n _ _ (fun z => hr.2 z.symm)]
  exact h
theorem B47_4 {e : Nat → Int32} (h : B47 e) : B47 (upd e 4 1) := ⟨Or.inr (upd_s _ _ _), by rw [upd_n _ _ (by decide)]; exact h.2⟩
theorem B47_7 {e : Nat → Int32} (h : B47 e) {v : Int32} (hv : v = 0 ∨ v = 1) : B47 (upd e 7 v) := ⟨by rw [upd_n _ _ (by decide)]; exact h.1, by rw [upd_s]; exact hv⟩
theorem B47_see {g : fp_G} {F : Nat → (Nat → Int32) → Bool} {m h : Nat} {e : Nat → Int32} (hb : B47 e) : B47 (seeE g F m h e) := by
  have ht : B47 (tbX g F m h e) := by
    unfold tbX tbE turE
    repeat' split
    all_goals first | exact B47_up (B47_4 hb) (by decide) _ | exact hb
  have sp : spS g m h = 0 ∨ spS g m h = 1 := by
    unfold spS
    split
    · exact Or.inr rfl
    · exact Or.inl rfl
  unfold seeE hanE finE turE sndE
  repeat' split
  all_goals first | exact hb | exact ht | exact B47_up (B47_up hb (by decide) _) (by decide) _ | exact B47_up (B47_up ht (by decide) _) (by decide) _ | exact B47_up (B47_up (B47_7 ht sp) (by decide) _) (by decide) _ | exact B47_up (B47_4 ht) (by decide) _ | exact B47_up (B47_up (B47_up ht (by decide) _) (by decide) _) (by decide) _
theorem IB_hour {g D : fp_G} {F : Nat → (Nat → Int32) → Bool} {h : Nat} (hI : IB g D) : IB g (hourD g F D h) := by
  intro m hm
  have hA : B47 (fun r => arrD D h (nMa g) r m) := by
    unfold B47
    have e4 : arrD D h (nMa g) 4 m = D 4 m := by
      rw [arrD_at D h 4 hm]
      unfold arr1 comD
      split
      · rw [gu_k _ _ _ (by decide), gu_k _ _ _ (by decide)]
      · rfl
    have e7 : arrD D h (nMa g) 7 m = D 7 m := by
      rw [arrD_at D h 7 hm]
      unfold arr1 comD
      split
      · rw [gu_k _ _ _ (by decide), gu_k _ _ _ (by decide)]
      · rfl
    show (arrD D h (nMa g) 4 m = 0 ∨ arrD D h (nMa g) 4 m = 1) ∧ (arrD D h (nMa g) 7 m = 0 ∨ arrD D h (nMa g) 7 m = 1)
    rw [e4, e7]
    exact hI m hm
  show B47 (fun r => hourD g F D h r m)
  unfold hourD PD
  split
  · exact B47_see hA
  · exact hA
theorem IB_it {g D : fp_G} {F : Nat → (Nat → Int32) → Bool} {h : Nat} (hI : IB g D) : ∀ k, IB g (itD g F D h k)
  | 0 => hI
  | k + 1 => IB_hour (IB_it hI k)
theorem CT_base {c : Nat} (hc : isC c) {g0 g D : fp_G} {T : Nat → Int32} (h : CT c g0 g D T) (v : Int32) : CT c (gu g0 0 9 v) (gu g 0 9 v) D T := by
  have hc2 : 43 ≤ c := by rcases hc with rfl | rfl <;> omega
  refine ⟨⟨fun q i hq => ?_, fun r h1 h7 m => ?_⟩, fun c43 => by rw [gu_k _ _ _ (by decide)]; exact h.2 c43⟩
  · by_cases z : q = 0 ∧ i = 9
    · obtain ⟨rfl, rfl⟩ := z
      rw [gu_s, gu_s]
    · have e1 : gu g 0 9 v q i = g q i := by simp [gu, z]
      have e2 : gu g0 0 9 v q i = g0 q i := by simp [gu, z]
      rw [e1, e2]
      exact h.1.1 q i hq
  · rw [gu_k _ _ _ (by omega), gu_k _ _ _ (by omega)]
    exact h.1.2 r h1 h7 m
theorem RP_base {g0 gs g D : fp_G} {T : Nat → Int32} (h : RP g0 gs g D T) (v : Int32) : RP (gu g0 67 15 v) gs (gu g 67 15 v) D T := by
  refine ⟨⟨⟨fun q i e => ?_, fun q i hq => ?_⟩, fun r h1 h7 m => ?_, fun k hk => ?_⟩, by rw [gu_k _ _ _ (by decide)]; exact h.2.1, FK_gu h.2.2 (by omega) _ _⟩
  · by_cases z : q = 67 ∧ i = 15
    · obtain ⟨rfl, rfl⟩ := z
      cases e
    · have e1 : gu g 67 15 v q i = g q i := by simp [gu, z]
      have e2 : gu g0 67 15 v q i = g0 q i := by simp [gu, z]
      rw [e1, e2]
      exact h.1.1.1 q i e
  · by_cases z : q = 67 ∧ i = 15
    · obtain ⟨rfl, rfl⟩ := z
      rw [gu_s, gu_s]
    · have e1 : gu g 67 15 v q i = g q i := by simp [gu, z]
      have e2 : gu g0 67 15 v q i = g0 q i := by simp [gu, z]
      rw [e1, e2]
      exact h.1.1.2 q i hq
  · have := rho_c r
    rw [gu_k _ _ _ (by omega), gu_k _ _ _ (by omega)]
    exact h.1.2.1 r h1 h7 m
  · rw [gu_k _ _ _ (by omega), gu_k _ _ _ (by omega)]
    exact h.1.2.2 k hk
theorem Stc_now (g : fp_G) (v : Int32) : Stc g (gu g 0 9 v) := Stc_gu (Stc_refl g) v rfl
theorem Stc_now9 (g : fp_G) (v : Int32) : Stc g (gu g 67 15 v) := Stc_gu (Stc_refl g) v rfl
theorem l_hours8 {g0 D : fp_G} {F : Nat → (Nat → Int32) → Bool} {T : Nat → Int32} {K : Int32 → fp_G → Prop} {x1 : Int32} {h0 n : Nat} (hq : QQ g0 F) (hx : x1 = nI n) (hh : h0 + n ≤ 2000) (hI : IV g0 D h0)
    (k : ∀ g, CT 43 (gu g0 0 9 (nI (h0 + n))) g (itD g0 F D h0 n) (itT g0 F D T h0 n) → K (nI (h0 + n)) g) :
    ∀ r j g, j + r = n → CT 43 (gu g0 0 9 (nI (h0 + j))) g (itD g0 F D h0 j) (itT g0 F D T h0 j) → w_X8_hours_33 (r + 1) x1 (nI j) g K := by
  intro r
  induction r with
  | zero =>
    intro j g hj hs
    have hj : j = n := by omega
    subst hj
    rw [w_X8_hours_33]
    refine it (end_c hx) ?_
    rw [show g 0 9 = nI (h0 + j) by rw [hs.1.1 0 9 (by omega), gu_s]]
    exact k g hs
  | succ r ih =>
    intro j g hj hs
    rw [w_X8_hours_33]
    refine ie (nend_c hx (by omega) (by omega)) ?_
    rw [show g 0 9 = nI (h0 + j) by rw [hs.1.1 0 9 (by omega), gu_s]]
    refine s4_passHour (Or.inl rfl) (Stc_QQ (Stc_now g0 _) hq) (by omega) (IV_it hq hI j) hs (fun g1 hs1 => pf_i ?_)
    rw [Stc_hourD (Stc_now g0 _)] at hs1
    rw [show g1 0 9 = nI (h0 + j) by rw [hs1.1.1 0 9 (by omega), gu_s], show nI (h0 + j) + 1 = nI (h0 + (j + 1)) from (nI_succ (h0 + j)).symm, show nI j + 1 = nI (j + 1) from (nI_succ j).symm]
    refine ih (j + 1) _ (by omega) ?_
    have := CT_base (Or.inl rfl) hs1 (nI (h0 + (j + 1)))
    rw [guu_s] at this
    exact this
theorem l_hours9 {g0 gs D : fp_G} {F : Nat → (Nat → Int32) → Bool} {T : Nat → Int32} {K : Int32 → fp_G → Prop} {x1 : Int32} {h0 n : Nat} (hq : QQ g0 F) (hx : x1 = nI n) (hh : h0 + n ≤ 2000) (hI : IV g0 D h0)
    (k : ∀ g, RP (gu g0 67 15 (nI (h0 + n))) gs g (itD g0 F D h0 n) (itT g0 F D T h0 n) → K (nI (h0 + n)) g) :
    ∀ r j g, j + r = n → RP (gu g0 67 15 (nI (h0 + j))) gs g (itD g0 F D h0 j) (itT g0 F D T h0 j) → w_X9_hours_45 (r + 1) x1 (nI j) g K := by
  intro r
  induction r with
  | zero =>
    intro j g hj hs
    have hj : j = n := by omega
    subst hj
    rw [w_X9_hours_45]
    refine it (end_c hx) ?_
    rw [show g 67 15 = nI (h0 + j) by rw [hs.1.1.2 67 15 (by omega), gu_s]]
    exact k g hs
  | succ r ih =>
    intro j g hj hs
    rw [w_X9_hours_45]
    refine ie (nend_c hx (by omega) (by omega)) ?_
    rw [show g 67 15 = nI (h0 + j) by rw [hs.1.1.2 67 15 (by omega), gu_s]]
    refine s9_passes (Stc_QQ (Stc_now9 g0 _) hq) (by omega) (IV_it hq hI j) hs (fun g1 hs1 => pf_i ?_)
    rw [Stc_hourD (Stc_now9 g0 _)] at hs1
    rw [show g1 67 15 = nI (h0 + j) by rw [hs1.1.1.2 67 15 (by omega), gu_s], show nI (h0 + j) + 1 = nI (h0 + (j + 1)) from (nI_succ (h0 + j)).symm, show nI j + 1 = nI (j + 1) from (nI_succ j).symm]
    refine ih (j + 1) _ (by omega) ?_
    have := RP_base hs1 (nI (h0 + (j + 1)))
    rw [guu_s] at this
    exact this
theorem itD_stc {g g' : fp_G} (H : Stc g g') (F : Nat → (Nat → Int32) → Bool) (D : fp_G) (h : Nat) : ∀ k, itD g' F D h k = itD g F D h k
  | 0 => rfl
  | k + 1 => by rw [itD, itD, itD_stc H F D h k, Stc_hourD H]
theorem itT_stc {g g' : fp_G} (H : Stc g g') (F : Nat → (Nat → Int32) → Bool) (D : fp_G) (T : Nat → Int32) (h : Nat) : ∀ k, itT g' F D T h k = itT g F D T h k
  | 0 => rfl
  | k + 1 => by rw [itT, itT, itD_stc H, itT_stc H F D T h k, Stc_nMa H]
theorem c_hours {x : Int32} {g : fp_G} {F : Nat → (Nat → Int32) → Bool} {P : Int32 → Int32 → fp_G → Prop} (hq : QQ g F) (hN : Now g) (hSC : SameC g) (hI : IV g (fun r m => g (43 + r) m) (nNow g)) (hB : IB g (fun r m => g (43 + r) m)) (hTr : OKT (nMa g) (fun r m => g (43 + r) m) (g 51) (g 100))
    (ok : ∀ g' D T h, h ≤ 2000 → Stc g g' → g' 0 9 = nI h → g' 67 15 = nI h → HasC 43 g g' D → HasR g g' D → OKT (nMa g) D T (g' 51) → OKT (nMa g) D T (g' 100) → IV g D h → IB g D → P (nI h) (nI h) g')
    (no : ∀ r k, P r r (refG g k)) : w_X8_hours x g (fun r g1 => w_X9_hours x g1 (fun r2 g2 => P r r2 g2)) := by
  obtain ⟨hn, h9, hk9⟩ := hN.n
  have hro := SameC_r hSC
  unfold w_X8_hours
  have z1 : (1 : Int32).toInt = 1 := rfl
  have e2 : ∀ y : Int32, y = nI (nNow g) → (2000 - y : Int32) = nI (2000 - nNow g) := by
    intro y hy
    rw [hy, show (2000 : Int32) = nI ((2000 - nNow g) + nNow g) by rw [show 2000 - nNow g + nNow g = 2000 by omega]; rfl, ← nI_add]
    exact Int32.add_sub_cancel _ _
  have split3 : (1 ≤ x → x ≤ nI (2000 - nNow g) → ∃ n33, w_X8_hours_33 n33 x 0 g (fun r g1 => w_X9_hours x g1 (fun r2 g2 => P r r2 g2))) → (1 ≤ x → ¬ x ≤ nI (2000 - nNow g) → w_X8_refuse (-6) g (fun r g1 => w_X9_hours x g1 (fun r2 g2 => P r r2 g2))) → (¬ 1 ≤ x → w_X8_refuse (-4) g (fun r g1 => w_X9_hours x g1 (fun r2 g2 => P r r2 g2))) → (if 1 ≤ x then (if x ≤ (2000 - (g 0 9)) then ∃ n33, w_X8_hours_33 n33 x 0 g (fun r g1 => w_X9_hours x g1 (fun r2 g2 => P r r2 g2)) else w_X8_refuse (-6) g (fun r g1 => w_X9_hours x g1 (fun r2 g2 => P r r2 g2))) else w_X8_refuse (-4) g (fun r g1 => w_X9_hours x g1 (fun r2 g2 => P r r2 g2))) := by
    intro a b c
    rw [e2 _ h9]
    by_cases c1 : 1 ≤ x
    · rw [if_pos c1]
      by_cases c2 : x ≤ nI (2000 - nNow g)
      · rw [if_pos c2]
        exact a c1 c2
      · rw [if_neg c2]
        exact b c1 c2
    · rw [if_neg c1]
      exact c c1
  refine split3 (fun c1 c2 => ?_) (fun c1 c2 => e_refuse (k := 6) rfl (by decide) ?_) (fun c1 => e_refuse (k := 4) rfl (by decide) ?_)
  · have c1' := c1
    have c2' := c2
    rw [le_I, z1] at c1
    rw [le_I, nI_I (by omega)] at c2
    obtain ⟨n, en, hnn⟩ := nat_of (a := x) (l := 0) (h := 2000) (by omega) (by omega) (by omega)
    refine ⟨n + 1, ?_⟩
    have e0 : gu g 0 9 (nI (nNow g + 0)) = g := gu_id g h9
    refine l_hours8 (D := fun r m => g (43 + r) m) (T := g 51) hq en (by omega) hI (fun gC hC => ?_) n 0 g (by omega) ?_
    · have HK : Stc g gC := Stc_trans (Stc_now g _) (hC.1.stc (Or.inl rfl))
      have qC := Stc_QQ HK hq
      have c15 : gC 67 15 = nI (nNow g) := by rw [hC.1.1 67 15 (by omega), gu_k _ _ _ (by decide)]; exact hk9
      unfold w_X9_hours
      dsimp only [fp_j]
      rw [e2 _ c15, if_pos c1', if_pos c2']
      refine it rfl (qC.1.find (fun f fd q2 => ⟨n + 1, ?_⟩))
      have e0' : gu gC 67 15 (nI (nNow g + 0)) = gC := gu_id gC c15
      have hIC : IV gC (fun r m => g (43 + r) m) (nNow g) := by
        unfold IV
        rw [Stc_nMa HK, Stc_nO HK]
        exact hI
      have gr : ∀ r m, 1 ≤ r → r ≤ 7 → gC (rho r) m = g (rho r) m := by
        intro r m h1 h7
        have := rho_c r
        rw [hC.1.1 (rho r) m (by omega), gu_k _ _ _ (by omega)]
      refine l_hours9 (g0 := gC) (gs := gc gC 78 f) (D := fun r m => g (43 + r) m) (T := g 51) qC en (by omega) hIC (fun gF hF => ?_) n 0 _ (by omega) ?_
      · rw [itD_stc HK, itT_stc HK] at hF
        have HF : Stc g gF := Stc_trans HK (Stc_trans (Stc_now9 gC _) hF.1.1.1)
        have eN := hF.2.1
        rw [show nMa (gu gC 67 15 (nI (nNow g + n))) = nMa g from Stc_nMa (Stc_trans HK (Stc_now9 gC _))] at eN
        have lo : ∀ q i, q < 67 → gF q i = gC q i := by
          intro q i hq2
          rw [hF.1.1.2 q i (by omega), gu_k _ _ _ (by omega)]
        refine ok gF (itD g F (fun r m => g (43 + r) m) (nNow g) n) (itT g F (fun r m => g (43 + r) m) (g 51) (nNow g) n) (nNow g + n) (by omega) HF ?_ ?_ (fun r h1 h7 m => ?_) (fun r h1 h7 m => ?_) ?_ eN (IV_it hq hI n) (IB_it hB n)
        · rw [lo 0 9 (by omega), hC.1.1 0 9 (by omega), gu_s]
        · rw [hF.1.1.2 67 15 (by omega), gu_s]
        · rw [lo (43 + r) m (by omega), hC.1.2 r h1 h7 m, gu_k _ _ _ (by omega)]
          rfl
        · rw [hF.1.2.1 r h1 h7 m, show nMa (gu gC 67 15 (nI (nNow g + n))) = nMa g from Stc_nMa (Stc_trans HK (Stc_now9 gC _))]
          have := rho_c r
          rw [gu_k _ _ _ (by omega), gr r m h1 h7]
        · rw [show gF 51 = gC 51 from funext (fun i => lo 51 i (by omega))]
          exact hC.2 rfl
      · rw [e0']
        refine ⟨RR_start (fun r h1 h7 m _ => by rw [gr r m h1 h7]; exact hro r h1 h7 m) fd, ?_, fun q hq2 => rfl⟩
        rw [Stc_nMa HK, gc_k _ _ (by decide), show gC 100 = g 100 from funext (fun i => by rw [hC.1.1 100 i (by omega), gu_k _ _ _ (by decide)])]
        exact hTr
    · rw [e0]
      exact ⟨⟨fun _ _ _ => rfl, fun r h1 h7 m => by split <;> rfl⟩, fun _ m _ j _ _ => rfl⟩
  · unfold w_X9_hours
    dsimp only [fp_j]
    have e3 : (2000 - (gu g 1 6 (g 1 6 + 1)) 67 15 : Int32) = nI (2000 - nNow g) := e2 _ hk9
    rw [e3, if_pos c1, if_neg c2]
    exact ie (by decide) (e_no (k := 6) rfl (by decide) (no _ 6))
  · unfold w_X9_hours
    exact j_I (ie c1 (ie (by decide) (e_no (k := 4) rfl (by decide) (no _ 4))))
