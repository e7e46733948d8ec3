/-! ===== one mail seen, by the reference ===== -/
def RF (g0 gs g D : fp_G) : Prop := RR g0 g D ∧ Fr9 gs g
section
variable {m h : Nat} {g0 gs g D : fp_G} {F : Nat → (Nat → Int32) → Bool} {K : Int32 → fp_G → Prop}
theorem RF_w (hs : RF g0 gs g D) {r : Nat} (h1 : 1 ≤ r) (h7 : r ≤ 7) (hm : m < nMa g0) (v : Int32) : RF g0 gs (gu g (rho r) m v) (gu D r m v) := by
  have := rho_c r
  exact ⟨RR_w hs.1 h1 h7 hm v, Fr9_gu hs.2 (by omega) m v⟩
theorem s9_turns (hs : RF g0 gs g D) (hn : nMa g0 ≤ 60) (hm : m < nMa g0) {w : Int32} (k : ∀ g', RF g0 gs g' (turD D m w) → K 0 g') : w_X9_turns (nI m) w g K := by
  unfold w_X9_turns
  refine wr_n (k := m) (by omega) (by omega) (wr_n (k := m) (by omega) (by omega) (k _ ?_))
  exact RF_w (RF_w hs (r := 4) (by omega) (by omega) hm _) (r := 5) (by omega) (by omega) hm _
theorem s9_ends (hq : QQ g0 F) (hs : RF g0 gs g D) (hm : m < nMa g0) {w : Int32} (hw : w ≠ 2) (k : ∀ g', RF g0 gs g' (finD D m w h) → K 0 g') : w_X9_ends (nI m) w (nI h) g K := by
  have hn := hq.1.2.1.Ma.1
  unfold w_X9_ends
  refine wr_n (k := m) (by omega) (by omega) (wr_n (k := m) (by omega) (by omega) (ie hw (k _ ?_)))
  exact RF_w (RF_w hs (r := 1) (by omega) (by omega) hm _) (r := 3) (by omega) (by omega) hm _
theorem s9_ends2 (hq : QQ g0 F) (hs : RF g0 gs g D) (hm : m < nMa g0) (h7 : D 7 m = 0) (k : ∀ g', RF g0 gs g' (finD (gu D 7 m (spS g0 m h)) m 2 h) → K 0 g') : w_X9_ends (nI m) 2 (nI h) g K := by
  have hn := hq.1.2.1.Ma.1
  have H := hs.1.1.1
  obtain ⟨⟨s90, s91, s93, s94, s92⟩, _⟩ := hq.1.1.2.2.2.2.2.2.2.2
  unfold w_X9_ends
  refine wr_n (k := m) (by omega) (by omega) (wr_n (k := m) (by omega) (by omega) (it rfl ?_))
  have h2 : RF g0 gs (gu (gu g 95 m 2) 97 m (nI h)) (finD D m 2 h) := RF_w (RF_w hs (r := 1) (by omega) (by omega) hm _) (r := 3) (by omega) (by omega) hm _
  have H2 := h2.1.1.1
  have none : spS g0 m h = 0 → K 0 (gu (gu g 95 m 2) 97 m (nI h)) := by
    intro z
    rw [z, gu_id D h7] at k
    exact k _ h2
  refine rd_v (v := g0 38 m) rfl (by omega) (by omega) (by rw [H2 90 m rfl, s90]) (is (fun e => rd_v (v := g0 42 m) rfl (by omega) (by omega) (by rw [H2 92 m rfl, s92]) (rd_v (v := g0 41 m) rfl (by omega) (by omega) (by rw [H2 94 m rfl, s94]) (is (fun e2 => none ?_) (fun e2 => wr_n (k := m) (by omega) (by omega) (k _ ?_))))) (fun e => none ?_))
  · unfold spS
    rw [if_neg (fun z => z.2 e2)]
  · have := RF_w h2 (r := 7) (by omega) (by omega) hm 1
    have es : spS g0 m h = 1 := by unfold spS; rw [if_pos ⟨e, e2⟩]
    rw [es]
    have eD : gu (finD D m 2 h) 7 m 1 = finD (gu D 7 m 1) m 2 h := by
      unfold finD
      rw [guu_c (gu D 1 m 2) m m (nI h) 1 (by decide : (3 : Nat) ≠ 7), guu_c D m m 2 1 (by decide : (1 : Nat) ≠ 7)]
    rw [eD] at this
    exact this
  · unfold spS
    rw [if_neg (fun z => e z.1)]
theorem s9_sees (hq : QQ g0 F) (hs : RF g0 gs g D) (hm : m < nMa g0) (hh : h ≤ 5000) (hD : VD g0 D) (h7 : D 7 m = 0) (k : ∀ g', RF g0 gs g' (seeD g0 F D m h) → K 0 g') : w_X9_sees (nI m) (nI h) g K := by
  have hMa := hq.1.2.1.Ma.1
  have hO := hq.1.2.1.O.1
  have hMe := hq.1.2.1.Me.1
  have hW := hq.1.2.1.W.1
  obtain ⟨⟨s90, s91, s93, s94, s92⟩, _⟩ := hq.1.1.2.2.2.2.2.2.2.2
  obtain ⟨s70, s71, s72, _⟩ := hq.1.1.2.2.2.1
  obtain ⟨_, p, hp, ep⟩ := hq.2.1 m hm
  have hD2 := hD
  obtain ⟨o, ho, eo⟩ := hD2 m hm
  unfold w_X9_sees
  unfold seeD at k
  have key : ∀ u (G : fp_G) (K2 : Int32 → fp_G → Prop), RF g0 gs G D → (∀ g', RF g0 gs g' D → K2 (bI (holdV g0 F u o h (fcD g0 D m h))) g') → w_X9_holdsFor u (nI m) (nI h) G K2 := by
    intro u G K2 hG k2
    refine s9_holdsFor hq hG.1 hm hh hD (fun g' h' fr => ?_)
    rw [eo, tn_n (by omega)]
    exact k2 g' ⟨h', Fr9_trans hG.2 fr⟩
  rw [eo, tn_n (by omega)] at k
  refine rd_v (v := nI o) rfl (by omega) (by omega) (by rw [← eo]; exact hs.1.at (r := 2) (by omega) (by omega) hm) (key 0 g _ hs (fun g1 hs1 => ?_))
  cases e0 : holdV g0 F 0 o h (fcD g0 D m h) <;> rw [e0] at k
  · rw [if_neg (by decide)] at k
    refine it rfl (key 1 g1 _ hs1 (fun g2 hs2 => ?_))
    cases e1 : holdV g0 F 1 o h (fcD g0 D m h) <;> rw [e1] at k
    · rw [if_neg (by decide)] at k
      refine it rfl (rd_v (v := D 4 m) rfl (by omega) (by omega) (hs2.1.at (r := 4) (by omega) (by omega) hm) (j_I ?_))
      -- behind the turning
      have body : ∀ (G D1 : fp_G), RF g0 gs G D1 → D1 2 m = nI o → D1 7 m = 0 → (∀ g', RF g0 gs g' (hanD g0 D1 m o h (gS g0 (D1 4 m) m o h)) → K 0 g') →
          (w_X9_goalOf (nI m) (nI h) G fun v8 g6 =>
              fp_j (fp_j (fun (g7 : fp_G) =>
                      fp_j (fp_rd (g7 97) 60 (nI m) fun v9 =>
                          if (nI h - v9) < (g7 67 43) then
                            K 0 g7
                          else
                            w_X9_turns (nI m) 1 g7 fun _ g8 =>
                            K 0 g8) fun J168 =>
                      if v8 < 0 then
                        J168
                      else
                        if v8 = nI o then
                          J168
                        else
                          w_X9_wayOn (nI o) v8 g7 fun v11 g9 =>
                          if v11 < 0 then
                            K 0 g9
                          else
                            w_X9_leaves v11 (nI h) g9 fun v12 g10 =>
                            if v12 = 0 then
                              K 0 g10
                            else
                              fp_wr g10 95 60 (nI m) 1 fun g11 =>
                              fp_rd (g11 70) 24 v11 fun v13 =>
                              fp_j (fun (z0j255 : Int32) =>
                                  fp_wr g11 96 60 (nI m) z0j255 fun g12 =>
                                  fp_rd (g12 72) 24 v11 fun v14 =>
                                  fp_wr g12 97 60 (nI m) (nI h + v14) fun g13 =>
                                  K 0 g13) fun J255 =>
                              if v13 = nI o then
                                fp_rd (g11 71) 24 v11 fun v16 =>
                                J255 v16
                              else
                                fp_rd (g11 70) 24 v11 fun v15 =>
                                J255 v15) fun J157 =>
                  if v8 = nI o then
                    fp_rd (g6 93) 60 (nI m) fun v17 =>
                    w_X9_whereIs v17 (nI h) g6 fun v18 g14 =>
                    if v18 = nI o then
                      w_X9_ends (nI m) 2 (nI h) g14 fun _ g15 =>
                      K 0 g15
                    else
                      J157 g14
                  else
                    J157 g6) fun J128 =>
              if v8 = nI o then
                fp_rd (g6 101) 60 (nI m) fun v20 =>
                if v20 = 0 then
                  J128
                else
                  w_X9_ends (nI m) 3 (nI h) g6 fun _ g16 =>
                  K 0 g16
              else
                J128) := by
        intro G D1 hG eo1 h71 k
        have H := hG.1.1.1
        have q2 := Stc_Q H hq.1
        have fd := hG.1.fdd hq.1
        have e93 : G 93 = G 40 := by rw [Stc_c H (q := 93) (fun _ => rfl), Stc_c H (q := 40) (fun _ => rfl)]; exact s93
        have e91 : G 91 = G 39 := by rw [Stc_c H (q := 91) (fun _ => rfl), Stc_c H (q := 39) (fun _ => rfl)]; exact s91
        have r4 := hG.1.at (r := 4) (by omega) (by omega) hm
        refine s9_goalOf (p := p) (o := o) q2.1 q2.2.1 q2.2.2.2.1 fd (by omega) (by omega) hh (by rw [← eo1]; exact hG.1.at (r := 2) (by omega) (by omega) hm) (by omega) (by rw [H 40 m rfl]; exact ep) e93 e91 ?_
        rw [Stc_gS H, show G 101 m = D1 4 m from r4]
        have hg := gS_c hq.1.2.2.2.1 hq.2.1 hm (D1 4 m) o h
        generalize gS g0 (D1 4 m) m o h = gl at k hg
        unfold hanD at k
        have stay : (∀ g', RF g0 gs g' (if nI h - D1 3 m < g0 2 7 then D1 else turD D1 m 1) → K 0 g') → (fp_rd (G 97) 60 (nI m) fun v9 => if (nI h - v9) < (G 67 43) then K 0 G else w_X9_turns (nI m) 1 G fun _ g8 => K 0 g8) := by
          intro k2
          refine rd_v (v := D1 3 m) rfl (by omega) (by omega) (hG.1.at (r := 3) (by omega) (by omega) hm) ?_
          rw [H 67 43 rfl, show g0 67 43 = g0 2 7 from hq.1.2.1.2.2.1.2.1]
          exact is (fun z => k2 G (by rw [if_pos z]; exact hG)) (fun z => s9_turns hG hMa hm (fun g' h' => k2 g' (by rw [if_neg z]; exact h')))
        have neg : gl < 0 ↔ gl = -9 := by
          rcases hg with e | ⟨x, hx, e⟩
          · rw [e]
            exact ⟨fun _ => rfl, fun _ => by decide⟩
          · rw [e]
            constructor
            · intro z
              rw [show (0 : Int32) = nI 0 from rfl, lt_n (by omega) (by omega)] at z
              omega
            · intro z
              rw [eq_I, nI_I (by omega), show (-9 : Int32).toInt = -9 from rfl] at z
              omega
        refine j_I (is (fun cg => rd_v (v := D1 4 m) rfl (by omega) (by omega) r4 (is (fun ct => ?_) (fun ct => ?_))) (fun cg => ?_))
        · rw [if_neg (fun z => z.2 ct)] at k
          refine j_I (it cg (rd_v (v := nI p) rfl (by omega) (by omega) (by rw [H 93 m rfl, s93]; exact ep) (s9_whereIs q2.1 q2.2.1 q2.2.2.2.1 (by omega) hh ?_)))
          rw [Stc_whB H]
          rw [ep, tn_n (by omega)] at k
          refine is (fun cw => ?_) (fun cw => j_I (is (fun _ => stay ?_) (fun _ => it cg (stay ?_))))
          · rw [if_pos ⟨cg, cw⟩] at k
            exact s9_ends2 hq hG hm h71 k
          · rw [if_neg (fun z => cw z.2), if_pos (Or.inl cg)] at k
            exact k
          · rw [if_neg (fun z => cw z.2), if_pos (Or.inl cg)] at k
            exact k
        · rw [if_pos ⟨cg, ct⟩] at k
          exact s9_ends hq hG hm (by decide) k
        · rw [if_neg (fun z => cg z.1), if_neg (fun z => cg z.1)] at k
          refine j_I (ie cg (j_I (is (fun c9 => stay ?_) (fun c9 => ie cg ?_))))
          · rw [if_pos (Or.inr (neg.mp c9))] at k
            exact k
          · rw [if_neg (fun z => z.elim cg (fun y => c9 (neg.mpr y)))] at k
            unfold sndD at k
            refine s9_wayOn q2.1 q2.2.1 q2.2.2.1 fd (by omega) (by rw [Stc_nO H]; exact hg) ?_
            rw [Stc_wS H]
            rcases wS_c (g := g0) o gl with e | ⟨w, hw, e⟩
            · rw [e] at k ⊢
              exact it (by decide) (k G (by rw [if_neg (fun z => z.1 (by decide))]; exact hG))
            · rw [e] at k ⊢
              rw [tn_n (by omega)] at k
              have n0 : ¬ nI w < 0 := by
                rw [show (0 : Int32) = nI 0 from rfl, lt_n (by omega) (by omega)]
                omega
              obtain ⟨wa, wb, l1, l2, ea, eb, el⟩ := hq.1.2.2.1.w hO hw
              refine ie n0 (s9_leaves q2.1 q2.2.1 q2.2.2.1 (by rw [Stc_nW H]; exact hw) ?_)
              rw [Stc_lvS H]
              cases e2 : lvS g0 w h <;> rw [e2] at k
              · exact it rfl (k G (by rw [if_neg (fun z => by cases z.2)]; exact hG))
              · refine ie (by decide) (wr_n (k := m) (by omega) (by omega) ?_)
                have hG1 : RF g0 gs (gu G 95 m 1) (gu D1 1 m 1) := RF_w hG (r := 1) (by omega) (by omega) hm _
                have H1 := hG1.1.1.1
                have fin : ∀ z, z = nI (oth g0 o w) → (fp_wr (gu G 95 m 1) 96 60 (nI m) z fun g12 => fp_rd (g12 72) 24 (nI w) fun v14 => fp_wr g12 97 60 (nI m) (nI h + v14) fun g13 => K 0 g13) := by
                  rintro z rfl
                  refine wr_n (k := m) (by omega) (by omega) ?_
                  have hG2 : RF g0 gs (gu (gu G 95 m 1) 96 m (nI (oth g0 o w))) (gu (gu D1 1 m 1) 2 m (nI (oth g0 o w))) := RF_w hG1 (r := 2) (by omega) (by omega) hm _
                  refine rd_v (v := g0 12 w) rfl (by omega) (by omega) (by rw [hG2.1.1.1 72 w rfl, s72]) (wr_n (k := m) (by omega) (by omega) (k _ ?_))
                  rw [if_pos ⟨n0, rfl⟩]
                  exact RF_w hG2 (r := 3) (by omega) (by omega) hm _
                refine rd_v (v := nI (wA g0 w)) rfl (by omega) (by omega) (by rw [H1 70 w rfl, s70]; exact ea) (j_I (is (fun z => rd_v (v := nI (wB g0 w)) rfl (by omega) (by omega) (by rw [H1 71 w rfl, s71]; exact eb) (fin _ ?_)) (fun z => rd_v (v := nI (wA g0 w)) rfl (by omega) (by omega) (by rw [H1 70 w rfl, s70]; exact ea) (fin _ ?_))))
                · rw [eq_n (by omega) (by omega)] at z
                  unfold oth
                  rw [if_pos z]
                · rw [eq_n (by omega) (by omega)] at z
                  unfold oth
                  rw [if_neg z]
      obtain ⟨s, hs3, es⟩ := stB_c hq.1.2.2.2.1 (g0 40 m) h (lateN g0 o)
      have st9 : ∀ (G D1 : fp_G) (K2 : Int32 → fp_G → Prop), RF g0 gs G D1 → K2 (nI s) G → (fp_rd (G 93) 60 (nI m) fun v5 => w_X9_stateAt v5 (nI h) (nI o) G K2) := by
        intro G D1 K2 hG k2
        have H := hG.1.1.1
        have q2 := Stc_Q H hq.1
        refine rd_v (v := g0 40 m) rfl (by omega) (by omega) (by rw [H 93 m rfl, s93]) (s9_stateAt (l := lateN g0 o) q2.1 q2.2.1 q2.2.2.2.1 (Or.inr ⟨hG.1.fdd hq.1, o, by omega, rfl, by rw [Stc_late H]⟩) hh ?_)
        rw [Stc_stB H, es]
        exact k2
      rw [es] at k
      unfold tbD at k
      by_cases ct : D 4 m = 0
      · rw [if_pos ct] at k
        refine it ct (key 2 g2 _ hs2 (fun g3 hs3' => ?_))
        cases e2 : holdV g0 F 2 o h (fcD g0 D m h) <;> rw [e2] at k
        · rw [if_neg (by decide)] at k
          refine it rfl (st9 g3 D _ hs3' (rd_v (v := D 4 m) rfl (by omega) (by omega) (hs3'.1.at (r := 4) (by omega) (by omega) hm) (j_I (it ct ?_))))
          by_cases c1 : s ≤ 1
          · rw [if_neg (fun z => by rcases z with z | z <;> rw [show (2 : Int32) = nI 2 from rfl, show (3 : Int32) = nI 3 from rfl] at * <;> rw [eq_n (by omega) (by omega)] at z <;> omega)] at k
            refine it ?_ (body g3 D hs3' eo h7 k)
            rw [show (1 : Int32) = nI 1 from rfl, le_n (by omega) (by omega)]
            exact c1
          · have c23 : nI s = 2 ∨ nI s = 3 := by
              have : s = 2 ∨ s = 3 := by omega
              rcases this with rfl | rfl
              · exact Or.inl rfl
              · exact Or.inr rfl
            rw [if_pos c23] at k
            refine ie ?_ (s9_turns hs3' hMa hm (fun g4 hs4 => body g4 _ hs4 ?_ ?_ k))
            · rw [show (1 : Int32) = nI 1 from rfl, le_n (by omega) (by omega)]
              exact c1
            · unfold turD
              rw [gu_k _ _ _ (by decide), gu_k _ _ _ (by decide)]
              exact eo
            · unfold turD
              rw [gu_k _ _ _ (by decide), gu_k _ _ _ (by decide)]
              exact h7
        · rw [if_pos rfl] at k
          refine ie (by decide) (s9_turns hs3' hMa hm (fun g4 hs4 => st9 g4 _ _ hs4 (rd_v (v := 1) rfl (by omega) (by omega) ?_ (j_I (ie (by decide) (body g4 _ hs4 ?_ ?_ k))))))
          · rw [show g4 101 m = turD D m 4 4 m from hs4.1.at (r := 4) (by omega) (by omega) hm]
            unfold turD
            rw [gu_k _ _ _ (by decide), gu_s]
          · unfold turD
            rw [gu_k _ _ _ (by decide), gu_k _ _ _ (by decide)]
            exact eo
          · unfold turD
            rw [gu_k _ _ _ (by decide), gu_k _ _ _ (by decide)]
            exact h7
      · rw [if_neg ct] at k
        exact ie ct (st9 g2 D _ hs2 (rd_v (v := D 4 m) rfl (by omega) (by omega) (hs2.1.at (r := 4) (by omega) (by omega) hm) (j_I (ie ct (body g2 D hs2 eo h7 k)))))
    · rw [if_pos rfl] at k
      exact ie (by decide) (k g2 hs2)
  · rw [if_pos rfl] at k
    exact ie (by decide) (s9_ends hq hs1 hm (by decide) k)
end
