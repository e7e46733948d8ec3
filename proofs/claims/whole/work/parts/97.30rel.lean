/-! ===== R, and the calls that leave all but scratch ===== -/
def CV (g : fp_G) : Prop := IV g (fun r m => g (43 + r) m) (nNow g) ∧ IB g (fun r m => g (43 + r) m) ∧ OKT (nMa g) (fun r m => g (43 + r) m) (g 51) (g 100)
def ZV (g : fp_G) : Prop := ∀ m, nMa g ≤ m → m < 60 → g 47 m = 0 ∧ g 49 m = 0 ∧ g 50 m = 0
def RLL (g : fp_G) : Prop := Q g ∧ Now g ∧ SameC g ∧ VM g ∧ CV g ∧ ZV g ∧ VOrders g ∧ VTape g ∧ VS g
theorem RLL_ref {g : fp_G} (h : RLL g) (k : Nat) : RLL (refG g k) := ⟨⟨Same.ref h.1.1 k, h.1.2⟩, h.2⟩
theorem RLL_78 {g : fp_G} (h : RLL g) (f : Nat → Int32) : RLL (gc g 78 f) := h
theorem RLL_bst {g : fp_G} (h : RLL g) (x y z : Int32) : RLL (bstG g x y z) := h
theorem RLL_off {g : fp_G} (h : RLL g) : ∀ m, m < nMa g → ∃ o, o < nO g ∧ g 45 m = nI o := fun m hm => (h.2.2.2.2.1.1 m hm).1
theorem RLL_hc {g : fp_G} (h : RLL g) : ∀ m, m < nMa g → ∃ c, c ≤ 4000 ∧ g 49 m = nI c := by
  intro m hm
  obtain ⟨_, _, k, hk, e⟩ := h.2.2.2.2.1.1 m hm
  have := h.2.1.n.1
  exact ⟨k, by omega, e⟩
theorem RLL_ht {g : fp_G} (h : RLL g) : ∀ m c j, m < nMa g → g 49 m = nI c → c ≤ 4000 → j < c → j < 40 → g 100 (40 * m + j) = g 51 (40 * m + j) := by
  intro m c j hm e hc hj h40
  exact h.2.2.2.2.1.2.2 m hm j (by show j < tn (g 49 m); rw [e, tn_n (by omega)]; exact hj) h40
theorem h_far (a b : Int32) : fp_sim RLL (w_X8_far a b) (w_X9_far a b) := fun _ _ h ok => c_far h.1 (fun r f => ok r _ (RLL_78 h f)) (fun r k => ok r _ (RLL_ref h k))
theorem h_late (a : Int32) : fp_sim RLL (w_X8_late a) (w_X9_late a) := fun _ _ h ok => c_late h.1 (fun r f => ok r _ (RLL_78 h f)) (fun r k => ok r _ (RLL_ref h k))
theorem h_is (a b : Int32) : fp_sim RLL (w_X8_is a b) (w_X9_is a b) := fun _ _ h ok => c_is h.1 (fun r => ok r _ h) (fun r k => ok r _ (RLL_ref h k))
theorem h_list (a b c : Int32) : fp_sim RLL (w_X8_list a b c) (w_X9_list a b c) := fun _ _ h ok => c_list h.1 (fun r f => ok r _ (RLL_78 h f)) (fun r k => ok r _ (RLL_ref h k))
theorem h_stateOf (a b c : Int32) : fp_sim RLL (w_X8_stateOf a b c) (w_X9_stateOf a b c) := fun _ _ h ok => c_stateOf h.1 (fun r f => ok r _ (RLL_78 h f)) (fun r k => ok r _ (RLL_ref h k))
theorem h_manAt (a : Int32) : fp_sim RLL (w_X8_manAt a) (w_X9_manAt a) := fun _ _ h ok => c_manAt h.1 h.2.1 (fun r => ok r _ h) (fun r k => ok r _ (RLL_ref h k))
theorem h_goal (a : Int32) : fp_sim RLL (w_X8_goal a) (w_X9_goal a) := fun _ _ h ok => c_goal h.1 h.2.1 h.2.2.1 h.2.2.2.1 (RLL_off h) (fun r f => ok r _ (RLL_78 h f)) (fun r k => ok r _ (RLL_ref h k))
theorem h_next (a : Int32) : fp_sim RLL (w_X8_next a) (w_X9_next a) := fun _ _ h ok => c_next h.1 h.2.1 h.2.2.1 h.2.2.2.1 (RLL_off h) (fun r f => ok r _ (RLL_78 h f)) (fun r k => ok r _ (RLL_ref h k))
theorem h_trace (a b : Int32) : fp_sim RLL (w_X8_trace a b) (w_X9_trace a b) := fun _ _ h ok => c_trace h.1.2.1.Ma.1 h.1.2.1.Ma.2.1 h.1.2.1.Ma.2.2 h.2.2.1.2.2.2.2.2.1 (RLL_hc h) (RLL_ht h) (fun r => ok r _ h) (fun r k => ok r _ (RLL_ref h k))
theorem h_fro (a : Int32) : fp_sim RLL (w_X8_fro a) (w_X9_fro a) := fun _ _ h ok => c_fro h.1.2.1.Ma.1 h.1.2.1.Ma.2.1 h.1.2.1.Ma.2.2 h.2.2.1.2.2.2.2.2.1 (RLL_hc h) (RLL_ht h) (fun r => ok r _ h) (fun r k => ok r _ (RLL_ref h k))
theorem h_waiting (a : Int32) : fp_sim RLL (w_X8_waiting a) (w_X9_waiting a) := fun _ _ h ok => c_waiting h.1.2.1.Ma.1 h.1.2.1.O.1 h.1.2.1.O.2.1 h.1.2.1.O.2.2 h.1.2.1.Ma.2.1 h.1.2.1.Ma.2.2 h.2.2.1.1 h.2.2.1.2.1 (fun r => ok r _ h) (fun r k => ok r _ (RLL_ref h k))
theorem h_paid (a : Int32) : fp_sim RLL (w_X8_paid a) (w_X9_paid a) := fun g _ h ok => by
  obtain ⟨s90, s91, s93, s94, s92⟩ := h.1.1.2.2.2.2.2.2.2.2.1
  exact c_paid h.1.2.1.Ma.1 h.1.2.1.Me.1 h.1.2.1.Me.2.1 h.1.2.1.Me.2.2 h.1.2.1.Ma.2.1 h.1.2.1.Ma.2.2 s93 s90 h.2.2.1.1 s94 (fun r => ok r _ h) (fun r k => ok r _ (RLL_ref h k))
theorem h_mailOf (a b : Int32) : fp_sim RLL (w_X8_mailOf a b) (w_X9_mailOf a b) := fun g _ h ok => by
  obtain ⟨s95, s96, s97, s101, s98, s99, s102⟩ := h.2.2.1
  exact c_mailOf h.1.2.1.Ma.1 h.1.2.1.Ma.2.1 h.1.2.1.Ma.2.2 h.1.1.2.2.2.2.2.2.2.2.1.1 s95 s96 s97 s101 s98 s99 s102 (fun r => ok r _ h) (fun r k => ok r _ (RLL_ref h k))
theorem h_count (a : Int32) : fp_sim RLL (w_X8_count a) (w_X9_count a) := fun g _ h ok => by
  obtain ⟨⟨a1, a2, a3⟩, ⟨b1, b2, b3⟩, ⟨d1, d2⟩, ⟨e1, e2⟩, f1, f2⟩ := h.1.2.1
  exact c_count h.1.2.1.Ma.1 h.1.2.1.Ma.2.1 h.2.1.1 a1.1 a2.1 b1.1 b2.1 d1.1 e1.1 f2.1 e2.1 h.1.1.1 h.2.2.1.1 h.2.2.1.2.2.2.2.2.2 (fun r => ok r _ h)
theorem h_cover (a b : Int32) : fp_sim RLL (w_X8_cover a b) (w_X9_cover a b) := fun _ _ h ok => c_cover h.1.2.1.Me.1 h.1.2.1.Me.2.1 h.1.2.1.Me.2.2 h.1.1.2.2.2.2.2.2.1.1 h.1.1.2.2.2.2.2.2.1.2 (fun r => ok r _ h) (fun r k => ok r _ (RLL_ref h k))
theorem h_sure (a b : Int32) : fp_sim RLL (w_X8_sure a b) (w_X9_sure a b) := fun _ _ h ok => c_sure h.1.2.1.Me.1 h.1.2.1.Me.2.1 h.1.2.1.Me.2.2 h.1.1.2.2.2.2.2.2.1.1 h.1.1.2.2.2.2.2.2.1.2 (fun r => ok r _ h) (fun r k => ok r _ (RLL_ref h k))
theorem h_best (a : Int32) : fp_sim RLL (w_X8_best a) (w_X9_best a) := fun _ _ h ok => c_best h.1 h.2.2.2.2.2.2.2.2 (fun r x y z => ok r _ (RLL_bst h x y z)) (fun r k => ok r _ (RLL_ref h k))
theorem RLL_row {g : fp_G} (h : RLL g) : RLL (gu (gu g 61 6 0) 67 73 0) := by
  have hC2 : Cnt (gu (gu g 61 6 0) 67 73 0) := ⟨h.1.2.1.1, h.1.2.1.2.1, h.1.2.1.2.2.1, h.1.2.1.2.2.2.1, h.1.2.1.2.2.2.2.1, rfl, 0, by omega, rfl⟩
  exact ⟨⟨h.1.1, hC2, h.1.2.2⟩, h.2⟩
theorem h_judge (a : Int32) : fp_sim RLL (w_X8_judge a) (w_X9_judge a) := fun _ _ h ok => c_judge h.1 h.2.2.2.2.2.2.2.2 (fun r => ok r _ h) (fun r x y z => ok r _ (RLL_bst (RLL_row h) x y z)) (fun r k => ok r _ (RLL_ref h k))
theorem h_put (a : Int32) : fp_sim RLL (w_X8_put a) (w_X9_put a) := fun g _ h ok => by
  obtain ⟨r1, r2, r3⟩ := h.1.2.1.Ro
  refine c_put r1 r2 r3 (fun hn => ok _ _ ?_) (fun r k => ok r _ (RLL_ref h k))
  have hC2 : Cnt (gu (gu (gu (gu g 66 (nRo g) a) 61 6 (nI (nRo g + 1))) 123 (nRo g) a) 67 73 (nI (nRo g + 1))) := ⟨h.1.2.1.1, h.1.2.1.2.1, h.1.2.1.2.2.1, h.1.2.1.2.2.2.1, h.1.2.1.2.2.2.2.1, rfl, nRo g + 1, by omega, rfl⟩
  obtain ⟨x1, x2, x3, x4, x5, x6, x7, x8, x9, x10, y1, y2, y3, y4⟩ := h.1.1
  refine ⟨⟨⟨x1, x2, x3, x4, x5, x6, x7, x8, x9, x10, y1, y2, y3, ?_⟩, hC2, h.1.2.2⟩, h.2⟩
  funext i
  have e := congrFun y4 i
  by_cases c : i = nRo g <;> simp [gu, c]
  exact e
theorem h_keep (a : Int32) : fp_sim RLL (w_X8_keep a) (w_X9_keep a) := fun g _ h ok => by
  refine c_keep h.1.2.1.2.2.1.2.1 (fun j h1 h2 e => ok _ _ ?_) (fun r k => ok r _ (RLL_ref h k))
  have hC2 : Cnt (gu (gu g 2 7 a) 67 43 a) := ⟨h.1.2.1.1, h.1.2.1.2.1, ⟨h.1.2.1.2.2.1.1, rfl, j, h2, e⟩, h.1.2.1.2.2.2⟩
  exact ⟨⟨h.1.1, hC2, h.1.2.2⟩, h.2⟩
theorem Stc_VOrders {g g' : fp_G} (H : Stc g g') (h : VOrders g) : VOrders g' := by rw [Stc_ov H]; exact h
theorem Stc_VTape {g g' : fp_G} (H : Stc g g') (h : VTape g) : VTape g' := by rw [Stc_ov H]; exact h
theorem Stc_VS {g g' : fp_G} (H : Stc g g') (h : VS g) : VS g' := by rw [Stc_ov H]; exact h
theorem RLL_same {g g' : fp_G} (h : RLL g) (H : Stc g g') (e0 : g' 0 9 = g 0 9) (e1 : g' 67 15 = g 67 15) (e2 : ∀ q, 44 ≤ q → q ≤ 51 → g' q = g q) (e3 : ∀ q, 95 ≤ q → q ≤ 102 → q ≠ 100 → g' q = g q) (e4 : OKT (nMa g) (fun r m => g (43 + r) m) (g 51) (g' 100)) : RLL g' := by
  have eD : (fun r m => g' (43 + r) m) = (fun r m => g' (43 + r) m) := rfl
  have rows : ∀ r, 1 ≤ r → r ≤ 8 → g' (43 + r) = g (43 + r) := fun r a b => e2 (43 + r) (by omega) (by omega)
  obtain ⟨hQ, hN, ⟨s95, s96, s97, s101, s98, s99, s102⟩, hVM, ⟨hIV, hIB, hOK⟩, hZ, hVO, hVT, hVS⟩ := h
  have r1 := rows 1 (by omega) (by omega)
  have r2 := rows 2 (by omega) (by omega)
  have r3 := rows 3 (by omega) (by omega)
  have r4 := rows 4 (by omega) (by omega)
  have r5 := rows 5 (by omega) (by omega)
  have r6 := rows 6 (by omega) (by omega)
  have r7 := rows 7 (by omega) (by omega)
  have r8 := rows 8 (by omega) (by omega)
  have eN : nNow g' = nNow g := by unfold nNow; rw [e0]
  refine ⟨Stc_Q H hQ, ⟨by rw [e1, e0]; exact hN.1, by rw [e0]; exact hN.2⟩, ⟨?_, ?_, ?_, ?_, ?_, ?_, ?_⟩, Stc_VM H hVM, ⟨?_, ?_, ?_⟩, ?_, Stc_VOrders H hVO, Stc_VTape H hVT, Stc_VS H hVS⟩
  · rw [e3 95 (by omega) (by omega) (by omega), s95]
    exact r1.symm
  · rw [e3 96 (by omega) (by omega) (by omega), s96]
    exact r2.symm
  · rw [e3 97 (by omega) (by omega) (by omega), s97]
    exact r3.symm
  · rw [e3 101 (by omega) (by omega) (by omega), s101]
    exact r4.symm
  · rw [e3 98 (by omega) (by omega) (by omega), s98]
    exact r5.symm
  · rw [e3 99 (by omega) (by omega) (by omega), s99]
    exact r6.symm
  · rw [e3 102 (by omega) (by omega) (by omega), s102]
    exact r7.symm
  · intro m hm
    rw [Stc_nMa H] at hm
    rw [Stc_nO H, eN]
    show (∃ o, o < nO g ∧ g' (43 + 2) m = nI o) ∧ ((g' (43 + 1) m = 0 ∨ g' (43 + 1) m = 1) → g' (43 + 7) m = 0) ∧ ∃ k, k ≤ nNow g + 1 ∧ g' (43 + 6) m = nI k
    rw [r2, r1, r7, r6]
    exact hIV m hm
  · intro m hm
    rw [Stc_nMa H] at hm
    show (g' (43 + 4) m = 0 ∨ g' (43 + 4) m = 1) ∧ (g' (43 + 7) m = 0 ∨ g' (43 + 7) m = 1)
    rw [r4, r7]
    exact hIB m hm
  · intro m hm j hj h40
    rw [Stc_nMa H] at hm
    have hj : j < tn (g' (43 + 6) m) := hj
    rw [r6] at hj
    rw [show g' 51 = g 51 from r8]
    exact e4 m hm j hj h40
  · intro m h1 h2
    rw [Stc_nMa H] at h1
    rw [show g' 47 = g 47 from r4, show g' 49 = g 49 from r6, show g' 50 = g 50 from r7]
    exact hZ m h1 h2
theorem h_holds (a b : Int32) : fp_sim RLL (w_X8_holds a b) (w_X9_holds a b) := fun g _ h ok => by
  obtain ⟨F, hF⟩ := VOF_ex h.2.2.2.2.2.2.1
  refine c_holds (F := F) ⟨h.1, h.2.2.2.1, hF⟩ h.2.1 h.2.2.1 (RLL_off h) (fun r g' H e0 e1 e2 => ok r g' ?_) (fun r k => ok r _ (RLL_ref h k))
  refine RLL_same h H e0 e1 (fun q a b => e2 q (Or.inl ⟨a, b⟩)) (fun q a b _ => e2 q (Or.inr ⟨a, b⟩)) ?_
  rw [e2 100 (Or.inr ⟨by omega, by omega⟩)]
  exact h.2.2.2.2.1.2.2
theorem h_after (a b : Int32) : fp_sim RLL (w_X8_after a b) (w_X9_after a b) := fun g _ h ok => by
  obtain ⟨F, hF⟩ := VOF_ex h.2.2.2.2.2.2.1
  exact c_after (F := F) ⟨h.1, h.2.2.2.1, hF⟩ h.2.1 h.2.2.1 h.2.2.2.2.1.1 h.2.2.2.2.1.2.1 h.2.2.2.2.1.2.2 (fun r g' H e0 e1 e2 e3 e4 => ok r g' (RLL_same h H e0 e1 e2 e3 e4)) (fun r k => ok r _ (RLL_ref h k))
theorem h_hours (a : Int32) : fp_sim RLL (w_X8_hours a) (w_X9_hours a) := fun g _ h ok => by
  obtain ⟨F, hF⟩ := VOF_ex h.2.2.2.2.2.2.1
  refine c_hours (F := F) ⟨h.1, h.2.2.2.1, hF⟩ h.2.1 h.2.2.1 h.2.2.2.2.1.1 h.2.2.2.2.1.2.1 h.2.2.2.2.1.2.2 (fun g' D T hr h2 H e0 e1 hCc hRr t1 t2 hI hB => ok _ g' ?_) (fun r k => ok r _ (RLL_ref h k))
  have hro := SameC_r h.2.2.1
  have rc : ∀ r, 1 ≤ r → r ≤ 7 → ∀ m, m < nMa g → g' (43 + r) m = D r m := fun r a b m hm => by rw [hCc r a b m, if_pos hm]
  have sc : ∀ r, 1 ≤ r → r ≤ 7 → g' (rho r) = g' (43 + r) := fun r a b => by
    funext m
    rw [hCc r a b m, hRr r a b m]
    split
    · rfl
    · exact hro r a b m
  have eN : nNow g' = hr := by unfold nNow; rw [e0]; exact tn_n (by omega)
  refine ⟨Stc_Q H h.1, ⟨by rw [e1, e0], hr, h2, e0⟩, ⟨sc 1 (by omega) (by omega), sc 2 (by omega) (by omega), sc 3 (by omega) (by omega), sc 4 (by omega) (by omega), sc 5 (by omega) (by omega), sc 6 (by omega) (by omega), sc 7 (by omega) (by omega)⟩, Stc_VM H h.2.2.2.1, ⟨?_, ?_, ?_⟩, ?_, Stc_VOrders H h.2.2.2.2.2.2.1, Stc_VTape H h.2.2.2.2.2.2.2.1, Stc_VS H h.2.2.2.2.2.2.2.2⟩
  · intro m hm
    rw [Stc_nMa H] at hm
    rw [Stc_nO H, eN]
    show (∃ o, o < nO g ∧ g' (43 + 2) m = nI o) ∧ ((g' (43 + 1) m = 0 ∨ g' (43 + 1) m = 1) → g' (43 + 7) m = 0) ∧ ∃ k, k ≤ hr + 1 ∧ g' (43 + 6) m = nI k
    rw [rc 2 (by omega) (by omega) m hm, rc 1 (by omega) (by omega) m hm, rc 7 (by omega) (by omega) m hm, rc 6 (by omega) (by omega) m hm]
    exact hI m hm
  · intro m hm
    rw [Stc_nMa H] at hm
    show (g' (43 + 4) m = 0 ∨ g' (43 + 4) m = 1) ∧ (g' (43 + 7) m = 0 ∨ g' (43 + 7) m = 1)
    rw [rc 4 (by omega) (by omega) m hm, rc 7 (by omega) (by omega) m hm]
    exact hB m hm
  · intro m hm j hj h40
    rw [Stc_nMa H] at hm
    have hj : j < tn (g' (43 + 6) m) := hj
    rw [rc 6 (by omega) (by omega) m hm] at hj
    rw [t1 m hm j hj h40, t2 m hm j hj h40]
  · intro m h1 h3
    rw [Stc_nMa H] at h1
    have z := h.2.2.2.2.2.1 m h1 h3
    refine ⟨?_, ?_, ?_⟩
    · rw [show g' 47 m = _ from hCc 4 (by omega) (by omega) m, if_neg (by omega)]
      exact z.1
    · rw [show g' 49 m = _ from hCc 6 (by omega) (by omega) m, if_neg (by omega)]
      exact z.2.1
    · rw [show g' 50 m = _ from hCc 7 (by omega) (by omega) m, if_neg (by omega)]
      exact z.2.2
