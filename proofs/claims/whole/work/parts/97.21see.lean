/-! ===== holds; one mail seen ===== -/
theorem RR_start {g1 D : fp_G} {f : Nat → Int32} (h : ∀ r, 1 ≤ r → r ≤ 7 → ∀ m, m < nMa g1 → g1 (rho r) m = D r m) (fd : Fdd (gc g1 78 f)) : RR g1 (gc g1 78 f) D := by
  refine ⟨⟨Stc_gc (Stc_refl g1) f (fun _ => rfl), fun q i hq => by rw [gc_k _ _ (by omega)]⟩, fun r h1 h7 m => ?_, fd.1⟩
  have := rho_c r
  rw [gc_k _ _ (by omega)]
  split
  · rename_i hm
    exact h r h1 h7 m hm
  · rfl
theorem rho_sur {q : Nat} (h : 95 ≤ q ∧ q ≤ 102) (h2 : q ≠ 100) : ∃ r, 1 ≤ r ∧ r ≤ 7 ∧ rho r = q := by
  have : ∀ q, q < 103 → 95 ≤ q → q ≠ 100 → (q = 95 ∨ q = 96 ∨ q = 97 ∨ q = 98 ∨ q = 99 ∨ q = 101 ∨ q = 102) := fun q _ _ _ => by omega
  rcases this q (by omega) h.1 h2 with rfl | rfl | rfl | rfl | rfl | rfl | rfl
  · exact ⟨1, by omega, by omega, rfl⟩
  · exact ⟨2, by omega, by omega, rfl⟩
  · exact ⟨3, by omega, by omega, rfl⟩
  · exact ⟨5, by omega, by omega, rfl⟩
  · exact ⟨6, by omega, by omega, rfl⟩
  · exact ⟨4, by omega, by omega, rfl⟩
  · exact ⟨7, by omega, by omega, rfl⟩
theorem SameC_r {g : fp_G} (h : SameC g) : ∀ r, 1 ≤ r → r ≤ 7 → ∀ m, g (rho r) m = g (43 + r) m := by
  obtain ⟨s95, s96, s97, s101, s98, s99, s102⟩ := h
  intro r h1 h7 m
  match r, h1, h7 with
  | 1, _, _ => exact congrFun s95 m
  | 2, _, _ => exact congrFun s96 m
  | 3, _, _ => exact congrFun s97 m
  | 4, _, _ => exact congrFun s101 m
  | 5, _, _ => exact congrFun s98 m
  | 6, _, _ => exact congrFun s99 m
  | 7, _, _ => exact congrFun s102 m
theorem Stc_fcD {g g' : fp_G} (H : Stc g g') (D : fp_G) (m h : Nat) : fcD g' D m h = fcD g D m h := by
  unfold fcD
  rw [Stc_stB H, Stc_late H, H 38 m rfl, H 41 m rfl, H 42 m rfl, H 40 m rfl, Stc_c H (q := 23) (fun _ => rfl)]
theorem c_holds {u x : Int32} {g : fp_G} {F : Nat → (Nat → Int32) → Bool} {P : Int32 → Int32 → fp_G → Prop} (hq : QQ g F) (hN : Now g) (hSC : SameC g) (hD : ∀ m, m < nMa g → ∃ o, o < nO g ∧ g 45 m = nI o)
    (ok : ∀ r g', Stc g g' → g' 0 9 = g 0 9 → g' 67 15 = g 67 15 → (∀ q, ((44 ≤ q ∧ q ≤ 51) ∨ (95 ≤ q ∧ q ≤ 102)) → g' q = g q) → P r r g') (no : ∀ r k, P r r (refG g k)) : w_X8_holds u x g (fun r g1 => w_X9_holds u x g1 (fun r2 g2 => P r r2 g2)) := by
  obtain ⟨hMa, h5, hk5⟩ := hq.1.2.1.Ma
  obtain ⟨hO, _, _⟩ := hq.1.2.1.O
  obtain ⟨hn, h9, hk9⟩ := hN.n
  have hro := SameC_r hSC
  obtain ⟨s95, s96, s97, s101, s98, s99, s102⟩ := hSC
  unfold w_X8_holds w_X8_notAtOffice
  by_cases hu : 0 ≤ u.toInt ∧ u.toInt ≤ 2
  · refine ht_X8_isPurpose hu (ie (by decide) ?_)
    have pre : ∀ (G : fp_G) (K : Int32 → fp_G → Prop), (w_X9_isMail x G fun v2 g2 => if v2 = 0 then (w_X9_no (-1) g2 fun v7 g6 => K v7 g6) else fp_rd (g2 95) 60 x fun v3 => if v3 = 0 then (w_X9_findFar g2 fun _ g3 => w_X9_holdsFor u x (g3 67 15) g3 fun v5 g4 => if v5 = 0 then K 0 g4 else K 1 g4) else w_X9_no (-3) g2 fun v6 g5 => K v6 g5) → w_X9_holds u x G K := by
      intro G K hh
      unfold w_X9_holds
      refine e_isIn (l := 0) (h := 2) rfl rfl ?_
      rw [bi_t hu]
      exact ie (by decide) hh
    by_cases hm : inN x (nMa g)
    · have hm2 := hm
      obtain ⟨m, hm2, em⟩ := hm2
      obtain ⟨o, ho, eo⟩ := hD m hm2
      refine ht_X1_has hMa h5 hm (ie (by decide) (rd_e em (by omega) (by omega) (is (fun c => it (by decide) ?_) (fun c => ie (by decide) (e_refuse (k := 3) rfl (by decide) (pre _ _ ?_))))))
      · have hs : CS 43 g g (fun r m => g (43 + r) m) := ⟨fun _ _ _ => rfl, fun r h1 h7 m => by split <;> rfl⟩
        have hVD : VD g (fun r m => g (43 + r) m) := hD
        rw [em, h9]
        refine s4_takeFacts (Or.inl rfl) hq hs hm2 (by omega) hVD (fun ψ hψ => ?_)
        have H : Stc g (gc g 5 ψ) := Stc_gc (Stc_refl g) ψ (fun _ => rfl)
        have q2 := Stc_QQ H hq
        refine rd_v (k := m) (v := nI o) rfl (by omega) (by omega) eo ?_
        show w_X4_purposeHolds u (nI o) (g 0 9) (gc g 5 ψ) _
        rw [h9]
        refine s4_purpose q2.1.2.1 q2.1.2.2.2.2.1 q2.2.2 (by omega) (by omega) ?_
        rw [Stc_holdV H]
        have ev : holdV g F u o (nNow g) (gc g 5 ψ 5) = holdV g F u o (nNow g) (fcD g (fun r m => g (43 + r) m) m (nNow g)) := holdV_ext hq.2.2 hψ
        rw [ev]
        have hM9 : ∀ v, v = bI (holdV g F u o (nNow g) (fcD g (fun r m => g (43 + r) m) m (nNow g))) → w_X9_holds u (nI m) (gc g 5 ψ) (fun r2 g2 => P v r2 g2) := by
          intro v hv
          rw [← em]
          refine pre _ _ (ht_X9_isMail hMa hk5 hm (ie (by decide) (rd_e em (by omega) (by omega) (it ?_ (q2.1.find (fun f fd q3 => ?_))))))
          · show g 95 m = 0
            rw [s95]
            exact c
          have hR0 : RR (gc g 5 ψ) (gc (gc g 5 ψ) 78 f) (fun r m => g (43 + r) m) := RR_start (fun r h1 h7 m _ => ?_) fd
          · show w_X9_holdsFor u x (g 67 15) _ _
            rw [hk9, em]
            refine s9_holdsFor q2 hR0 hm2 (by omega) hVD (fun g' h' fr => ?_)
            rw [Stc_holdV H, Stc_fcD H, show tn (g (43 + 2) m) = o by show tn (g 45 m) = o; rw [eo, tn_n (by omega)]]
            have fin : ∀ r, P r r g' := by
              intro r
              refine ok r g' (Stc_trans H h'.1.1) (h'.1.2 0 9 (by omega)) (h'.1.2 67 15 (by omega)) (fun q hq2 => ?_)
              rcases hq2 with hq2 | hq2
              · funext i
                rw [h'.1.2 q i (by omega), gc_k _ _ (by omega)]
              · by_cases z : q = 100
                · subst z
                  exact fr 100 (Or.inl rfl)
                · obtain ⟨r, r1, r7, er⟩ := rho_sur hq2 z
                  subst er
                  funext i
                  rw [h'.2.1 r r1 r7 i]
                  have e0 : gc g 5 ψ (rho r) i = g (rho r) i := by rw [gc_k _ _ (by omega)]
                  split
                  · exact (hro r r1 r7 i).symm
                  · exact e0
            cases e3 : holdV g F u o (nNow g) (fcD g (fun r m => g (43 + r) m) m (nNow g)) <;> rw [e3] at hv
            · refine it rfl ?_
              rw [hv]
              exact fin 0
            · refine ie (by decide) ?_
              rw [hv]
              exact fin 1
          · have := rho_c r
            rw [gc_k _ _ (by omega)]
            exact hro r h1 h7 m
        cases e3 : holdV g F u o (nNow g) (fcD g (fun r m => g (43 + r) m) m (nNow g)) <;> rw [e3] at hM9
        · exact it rfl (hM9 _ rfl)
        · exact ie (by decide) (hM9 _ rfl)
      · refine ht_X9_isMail hMa hk5 hm (ie (by decide) (rd_e em (by omega) (by omega) (ie ?_ (e_no (k := 3) rfl (by decide) (no _ 3)))))
        show ¬ g 95 m = 0
        rw [s95]
        exact c
    · exact hf_X1_has hMa h5 hm (it rfl (ie (by decide) (e_refuse (k := 1) rfl (by decide) (pre _ _ (hf_X9_isMail hMa hk5 hm (it rfl (e_no (k := 1) rfl (by decide) (no _ 1))))))))
  · refine hf_X8_isPurpose hu (it rfl (e_refuse (k := 2) rfl (by decide) ?_))
    unfold w_X9_holds
    refine e_isIn (l := 0) (h := 2) rfl rfl ?_
    rw [bi_f hu]
    exact it rfl (e_no (k := 2) rfl (by decide) (no _ 2))
def finD (D : fp_G) (m : Nat) (w : Int32) (h : Nat) : fp_G := gu (gu D 1 m w) 3 m (nI h)
def turD (D : fp_G) (m : Nat) (w : Int32) : fp_G := gu (gu D 4 m 1) 5 m w
def spS (g : fp_G) (m h : Nat) : Int32 := if g 38 m = 1 ∧ ¬ nI h - g 42 m ≤ g 41 m then 1 else 0
def sndD (g D : fp_G) (m o h : Nat) (w : Int32) : fp_G := if ¬ w < 0 ∧ lvS g (tn w) h = true then gu (gu (gu D 1 m 1) 2 m (nI (oth g o (tn w)))) 3 m (nI h + g 12 (tn w)) else D
def hanD (g D : fp_G) (m o h : Nat) (gl : Int32) : fp_G :=
  if gl = nI o ∧ ¬ D 4 m = 0 then finD D m 3 h
  else if gl = nI o ∧ whB g (tn (g 40 m)) h = nI o then finD (gu D 7 m (spS g m h)) m 2 h
  else if gl = nI o ∨ gl = -9 then (if nI h - D 3 m < g 2 7 then D else turD D m 1)
  else sndD g D m o h (wS g o gl)
def tbD (g D : fp_G) (m : Nat) (b : Bool) (s : Int32) : fp_G := if D 4 m = 0 then (if b then turD D m 4 else if s = 2 ∨ s = 3 then turD D m s else D) else D
def seeD (g : fp_G) (F : Nat → (Nat → Int32) → Bool) (D : fp_G) (m h : Nat) : fp_G :=
  if holdV g F 0 (tn (D 2 m)) h (fcD g D m h) then finD D m 4 h
  else if holdV g F 1 (tn (D 2 m)) h (fcD g D m h) then D
  else hanD g (tbD g D m (holdV g F 2 (tn (D 2 m)) h (fcD g D m h)) (stB g (g 40 m) h (lateN g (tn (D 2 m))))) m (tn (D 2 m)) h (gS g ((tbD g D m (holdV g F 2 (tn (D 2 m)) h (fcD g D m h)) (stB g (g 40 m) h (lateN g (tn (D 2 m))))) 4 m) m (tn (D 2 m)) h)
theorem tbD_2 (g D : fp_G) (m : Nat) (b : Bool) (s : Int32) (r m' : Nat) (hr : r ≠ 4) (hr2 : r ≠ 5) : tbD g D m b s r m' = D r m' := by
  unfold tbD turD
  repeat' split
  all_goals first | rfl | rw [gu_k _ _ _ hr2, gu_k _ _ _ hr]
theorem wS_c {g : fp_G} (o : Nat) (gl : Int32) : wS g o gl = -9 ∨ ∃ w, w < nW g ∧ wS g o gl = nI w := by
  unfold wS
  split
  · exact Or.inl rfl
  · split
    · have : ∀ (p : Nat → Bool) r j, fsB p r j = -9 ∨ ∃ w, w < j + r ∧ fsB p r j = nI w := by
        intro p r
        induction r with
        | zero => exact fun j => Or.inl rfl
        | succ r ih =>
          intro j
          rw [fsB]
          split
          · exact Or.inr ⟨j, by omega, rfl⟩
          · rcases ih (j + 1) with e | ⟨w, hw, e⟩
            · exact Or.inl e
            · exact Or.inr ⟨w, by omega, e⟩
      rcases this (wayP g o (tn gl)) (nW g) 0 with e | ⟨w, hw, e⟩
      · exact Or.inl e
      · exact Or.inr ⟨w, by omega, e⟩
    · exact Or.inl rfl
theorem stB_c {g : fp_G} (hR : VRoll g) (m : Int32) (h l : Nat) : ∃ s, s ≤ 3 ∧ stB g m h l = nI s := by
  unfold stB
  cases e : lastO (pS g m h l) (nSt g) with
  | none => exact ⟨0, by omega, rfl⟩
  | some b =>
    obtain ⟨_, ⟨s, hs, es⟩, _⟩ := hR.2.2 b (lastO_lt e).1
    exact ⟨s, hs, es⟩
/-! the class -/
def CF (c : Nat) (g0 gs g D : fp_G) : Prop := CS c g0 g D ∧ Fr8 c gs g
section
variable {c m h : Nat} {g0 gs g D : fp_G} {F : Nat → (Nat → Int32) → Bool} {K : Int32 → fp_G → Prop}
theorem CF_w (hc : isC c) (hs : CF c g0 gs g D) {r : Nat} (h1 : 1 ≤ r) (h7 : r ≤ 7) (hm : m < nMa g0) (v : Int32) : CF c g0 gs (gu g (c + r) m v) (gu D r m v) := by
  have hc2 : 43 ≤ c := by rcases hc with rfl | rfl <;> omega
  refine ⟨CS_w hs.1 h1 h7 hm v, ?_, ?_, ?_⟩
  · rw [gu_k _ _ _ (by omega)]
    exact hs.2.1
  · rw [gu_k _ _ _ (by omega)]
    exact hs.2.2.1
  · rw [gu_k _ _ _ (by omega)]
    exact hs.2.2.2
theorem CF_5 (hc : isC c) (hs : CF c g0 gs g D) (f : Nat → Int32) : CF c g0 gs (gc g 5 f) D := by
  have hc2 : 43 ≤ c := by rcases hc with rfl | rfl <;> omega
  exact ⟨CS_gc hc hs.1 (by omega) f, by rw [gc_k _ _ (by omega)]; exact hs.2.1, by rw [gc_k _ _ (by omega)]; exact hs.2.2.1, by rw [gc_k _ _ (by omega)]; exact hs.2.2.2⟩
theorem s0_finish (hc : isC c) (hs : CF c g0 gs g D) (hn : nMa g0 ≤ 60) (hm : m < nMa g0) {w : Int32} (k : ∀ g', CF c g0 gs g' (finD D m w h) → K 0 g') : w_X0_finish c (nI m) w (nI h) g K := by
  unfold w_X0_finish
  refine wr_n (k := m) (by omega) (by omega) (wr_n (k := m) (by omega) (by omega) (k _ ?_))
  exact CF_w hc (CF_w hc hs (r := 1) (by omega) (by omega) hm _) (r := 3) (by omega) (by omega) hm _
theorem s0_turn (hc : isC c) (hs : CF c g0 gs g D) (hn : nMa g0 ≤ 60) (hm : m < nMa g0) {w : Int32} (k : ∀ g', CF c g0 gs g' (turD D m w) → K 0 g') : w_X0_turn c (nI m) w g K := by
  unfold w_X0_turn
  refine wr_n (k := m) (by omega) (by omega) (wr_n (k := m) (by omega) (by omega) (k _ ?_))
  exact CF_w hc (CF_w hc hs (r := 4) (by omega) (by omega) hm _) (r := 5) (by omega) (by omega) hm _
theorem s4_turnBack (hc : isC c) (hq : QQ g0 F) (hs : CF c g0 gs g D) (hm : m < nMa g0) (hh : h ≤ 5000) {o : Nat} (ho : o < nO g0) (eo : D 2 m = nI o) (h5 : ∀ i, i < 9 → g 5 i = fcD g0 D m h i)
    (k : ∀ g', CF c g0 gs g' (tbD g0 D m (holdV g0 F 2 o h (fcD g0 D m h)) (stB g0 (g0 40 m) h (lateN g0 o))) → K 0 g') : w_X4_turnBack c (nI m) (nI h) g K := by
  have H := hs.1.stc hc
  have hMa := hq.1.2.1.Ma.1
  have hO := hq.1.2.1.O.1
  have q2 := Stc_QQ H hq
  unfold w_X4_turnBack
  unfold tbD at k
  refine rd_v (v := D 4 m) rfl (by omega) (by omega) (hs.1.at (by omega) (by omega) hm) (is (fun e => ?_) (fun e => ?_))
  · rw [if_pos e] at k
    have e4 : g 5 4 = stB g0 (g0 40 m) h (lateN g0 o) := by
      rw [h5 4 (by omega)]
      show stB g0 (g0 40 m) h (lateN g0 (tn (D 2 m))) = _
      rw [eo, tn_n (by omega)]
    refine rd_v (k := 4) rfl (by omega) (by omega) e4 (rd_v (v := nI o) rfl (by omega) (by omega) (by rw [hs.1.at (by omega) (by omega) hm, eo]) (s4_purpose q2.1.2.1 q2.1.2.2.2.2.1 q2.2.2 (by omega) hh ?_))
    rw [Stc_holdV H, holdV_ext hq.2.2 h5]
    cases e2 : holdV g0 F 2 o h (fcD g0 D m h) <;> rw [e2] at k
    · refine it rfl (j_I (is (fun z => s0_turn hc hs hMa hm (fun g' h' => k g' ?_)) (fun z => is (fun z2 => s0_turn hc hs hMa hm (fun g' h' => k g' ?_)) (fun z2 => k g ?_))))
      · rw [if_neg (by decide), if_pos (Or.inl z)]
        exact h'
      · rw [if_neg (by decide), if_pos (Or.inr z2)]
        exact h'
      · rw [if_neg (by decide), if_neg (fun y => y.elim z z2)]
        exact hs
    · exact ie (by decide) (s0_turn hc hs hMa hm (fun g' h' => k g' (by rw [if_pos rfl]; exact h')))
  · rw [if_neg e] at k
    exact k g hs
theorem s4_give (hc : isC c) (hq : QQ g0 F) (hs : CF c g0 gs g D) (hm : m < nMa g0) (k : ∀ g', CF c g0 gs g' (finD (gu D 7 m (spS g0 m h)) m 2 h) → K 0 g') : w_X4_give c (nI m) (nI h) g K := by
  have H := hs.1.stc hc
  have hMa := hq.1.2.1.Ma.1
  unfold w_X4_give
  have fin : ∀ z, vp_nar .boolean z = spS g0 m h → (fp_wr g (c + 7) 60 (nI m) (vp_nar .boolean z) fun g1 => w_X0_finish c (nI m) 2 (nI h) g1 fun _ g2 => K 0 g2) := by
    intro z hz
    refine wr_n (k := m) (by omega) (by omega) ?_
    rw [hz]
    exact s0_finish hc (CF_w hc hs (r := 7) (by omega) (by omega) hm _) hMa hm k
  refine rd_v (v := g0 38 m) rfl (by omega) (by omega) (H 38 m rfl) (j_I (is (fun e => ?_) (fun e => ?_)))
  · refine j_I (j_I (ie (by decide) (rd_v (v := g0 42 m) rfl (by omega) (by omega) (H 42 m rfl) (rd_v (v := g0 41 m) rfl (by omega) (by omega) (H 41 m rfl) (is (fun e2 => fin 0 ?_) (fun e2 => fin 1 ?_))))))
    · unfold spS
      rw [if_neg (fun z => z.2 e2)]
      rfl
    · unfold spS
      rw [if_pos ⟨e, e2⟩]
      rfl
  · refine j_I (j_I (it rfl (fin 0 ?_)))
    unfold spS
    rw [if_neg (fun z => e z.1)]
    rfl
theorem s4_sendOn (hc : isC c) (hq : QQ g0 F) (hs : CF c g0 gs g D) (hm : m < nMa g0) {o : Nat} (ho : o < nO g0) (eo : D 2 m = nI o) {gl : Int32} (hg : gl = -9 ∨ inN gl (nO g0)) (k : ∀ g', CF c g0 gs g' (sndD g0 D m o h (wS g0 o gl)) → K 0 g') : w_X4_sendOn c (nI m) gl (nI h) g K := by
  have H := hs.1.stc hc
  have hMa := hq.1.2.1.Ma.1
  have hO := hq.1.2.1.O.1
  have hW := hq.1.2.1.W.1
  have q2 := Stc_Q H hq.1
  unfold w_X4_sendOn
  unfold sndD at k
  refine rd_v (v := nI o) rfl (by omega) (by omega) (by rw [hs.1.at (by omega) (by omega) hm, eo]) (s2_wayTo q2.2.1 q2.2.2.1 q2.2.2.2.2.1 (by omega) (by rw [Stc_nO H]; exact hg) ?_)
  rw [Stc_wS H]
  rcases wS_c (g := g0) o gl with e | ⟨w, hw, e⟩
  · rw [e] at k ⊢
    refine hf_X2_hasWay (n := nW g0) hW (by rw [H 6 9 rfl]; exact hq.1.2.1.W.2.1) (fun z => ?_) (it rfl (k g ?_))
    · rw [in_I (by omega)] at z
      exact absurd z.1 (by decide)
    · rw [if_neg (fun z => z.1 (by decide))]
      exact hs
  · rw [e] at k ⊢
    rw [tn_n (by omega)] at k
    have n0 : ¬ nI w < 0 := by
      rw [show (0 : Int32) = nI 0 from rfl, lt_n (by omega) (by omega)]
      omega
    refine ht_X2_hasWay (n := nW g0) hW (by rw [H 6 9 rfl]; exact hq.1.2.1.W.2.1) ⟨w, hw, rfl⟩ (ie (by decide) (s2_leaves q2.2.1 q2.2.2.1 (by rw [Stc_nW H]; exact hw) ?_))
    rw [Stc_lvS H]
    cases e2 : lvS g0 w h <;> rw [e2] at k
    · exact it rfl (k g (by rw [if_neg (fun z => by cases z.2)]; exact hs))
    · refine ie (by decide) (s2_other q2.2.2.1 (by rw [Stc_nO H]; exact hO) (by rw [Stc_nW H]; exact hW) (by rw [Stc_nW H]; exact hw) (by omega) (rd_v (v := g0 12 w) rfl (by omega) (by omega) (H 12 w rfl) ?_))
      rw [Stc_oth H]
      unfold w_X0_send
      refine wr_n (k := m) (by omega) (by omega) (wr_n (k := m) (by omega) (by omega) (wr_n (k := m) (by omega) (by omega) (k _ ?_)))
      rw [if_pos ⟨n0, rfl⟩]
      exact CF_w hc (CF_w hc (CF_w hc hs (r := 1) (by omega) (by omega) hm _) (r := 2) (by omega) (by omega) hm _) (r := 3) (by omega) (by omega) hm _
theorem s4_handle (hc : isC c) (hq : QQ g0 F) (hs : CF c g0 gs g D) (hm : m < nMa g0) (hh : h ≤ 5000) {o : Nat} (ho : o < nO g0) (eo : D 2 m = nI o)
    (k : ∀ g', CF c g0 gs g' (hanD g0 D m o h (gS g0 (D 4 m) m o h)) → K 0 g') : w_X4_handle c (nI m) (nI h) g K := by
  have H := hs.1.stc hc
  have hMa := hq.1.2.1.Ma.1
  have hO := hq.1.2.1.O.1
  have hMe := hq.1.2.1.Me.1
  have q2 := Stc_Q H hq.1
  obtain ⟨_, p, hp, ep⟩ := hq.2.1 m hm
  unfold w_X4_handle
  have e2 : g (c + 2) m = nI o := by rw [hs.1.at (by omega) (by omega) hm, eo]
  refine rd_v rfl (by omega) (by omega) e2 (s4_goalOf (p := p) q2.2.1 q2.2.2.2.1 q2.2.2.2.2.1 (by omega) (by omega) hh e2 (by omega) (by rw [H 40 m rfl]; exact ep) ?_)
  rw [Stc_gS H, hs.1.at (by omega) (by omega) hm]
  have hg := gS_c hq.1.2.2.2.1 hq.2.1 hm (D 4 m) o h
  generalize gS g0 (D 4 m) m o h = gl at k hg
  unfold hanD at k
  have stay : (gl = nI o ∨ gl = -9) → (∀ g', CF c g0 gs g' (if nI h - D 3 m < g0 2 7 then D else turD D m 1) → K 0 g') → (fp_rd (g (c + 3)) 60 (nI m) fun v3 => if (nI h - v3) < (g 2 7) then K 0 g else w_X0_turn c (nI m) 1 g fun _ g3 => K 0 g3) := by
    intro _ k2
    refine rd_v (v := D 3 m) rfl (by omega) (by omega) (hs.1.at (by omega) (by omega) hm) ?_
    rw [H 2 7 rfl]
    refine is (fun z => k2 g (by rw [if_pos z]; exact hs)) (fun z => s0_turn hc hs hMa hm (fun g' h' => k2 g' (by rw [if_neg z]; exact h')))
  refine j_I (is (fun cg => rd_v (v := D 4 m) rfl (by omega) (by omega) (hs.1.at (by omega) (by omega) hm) (is (fun ct => ?_) (fun ct => ?_))) (fun cg => ?_))
  · rw [if_neg (fun z => z.2 ct)] at k
    refine j_I (it cg (rd_v (v := nI p) rfl (by omega) (by omega) (by rw [H 40 m rfl]; exact ep) (s6_manIsAt q2.2.1 q2.2.2.2.1 (by omega) hh ?_)))
    rw [Stc_whB H]
    rw [ep, tn_n (by omega)] at k
    refine is (fun cw => ?_) (fun cw => j_I (it cg (stay (Or.inl cg) ?_)))
    · rw [if_pos ⟨cg, cw⟩] at k
      exact s4_give hc hq hs hm k
    · rw [if_neg (fun z => cw z.2), if_pos (Or.inl cg)] at k
      exact k
  · rw [if_pos ⟨cg, ct⟩] at k
    exact s0_finish hc hs hMa hm k
  · rw [if_neg (fun z => cg z.1), if_neg (fun z => cg z.1)] at k
    refine j_I (ie cg (j_I (ie cg (is (fun c9 => stay (Or.inr c9) ?_) (fun c9 => ?_)))))
    · rw [if_pos (Or.inr c9)] at k
      exact k
    · rw [if_neg (fun z => z.elim cg c9)] at k
      exact s4_sendOn hc hq hs hm ho eo hg k
theorem s4_see (hc : isC c) (hq : QQ g0 F) (hs : CF c g0 gs g D) (hm : m < nMa g0) (hh : h ≤ 5000) (hD : VD g0 D) (k : ∀ g', CF c g0 gs g' (seeD g0 F D m h) → K 0 g') : w_X4_see c (nI m) (nI h) g K := by
  have H := hs.1.stc hc
  have hMa := hq.1.2.1.Ma.1
  have hO := hq.1.2.1.O.1
  have hD2 := hD
  obtain ⟨o, ho, eo⟩ := hD2 m hm
  unfold w_X4_see
  unfold seeD at k
  rw [eo, tn_n (by omega)] at k
  refine rd_v (v := nI o) rfl (by omega) (by omega) (by rw [hs.1.at (by omega) (by omega) hm, eo]) (s4_takeFacts hc hq hs.1 hm hh hD (fun ψ hψ => ?_))
  have hs5 := CF_5 hc hs ψ
  have H5 := hs5.1.stc hc
  have q5 := Stc_QQ H5 hq
  have ev : ∀ u, holdV g0 F u o h (gc g 5 ψ 5) = holdV g0 F u o h (fcD g0 D m h) := fun u => holdV_ext hq.2.2 hψ
  refine s4_purpose q5.1.2.1 q5.1.2.2.2.2.1 q5.2.2 (by omega) hh ?_
  rw [Stc_holdV H5, ev]
  cases e0 : holdV g0 F 0 o h (fcD g0 D m h) <;> rw [e0] at k
  · refine it rfl (s4_purpose q5.1.2.1 q5.1.2.2.2.2.1 q5.2.2 (by omega) hh ?_)
    rw [Stc_holdV H5, ev]
    rw [if_neg (by decide)] at k
    cases e1 : holdV g0 F 1 o h (fcD g0 D m h) <;> rw [e1] at k
    · rw [if_neg (by decide)] at k
      exact it rfl (s4_turnBack hc hq hs5 hm hh ho eo hψ (fun g' h' => s4_handle hc hq h' hm hh ho (by rw [tbD_2 _ _ _ _ _ _ _ (by decide) (by decide)]; exact eo) k))
    · rw [if_pos rfl] at k
      exact ie (by decide) (k _ hs5)
  · rw [if_pos rfl] at k
    exact ie (by decide) (s0_finish hc hs5 hMa hm k)
end
