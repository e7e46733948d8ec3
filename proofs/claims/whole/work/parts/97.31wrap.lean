/-! ===== the calls that write ===== -/
theorem FarP_cong {D D2 : Nat → Nat → Nat} {no nw : Nat} {A B L : Nat → Nat} (h : FarP D no nw A B L) (e : ∀ i j, i < 12 → j < 12 → D2 i j = D i j) (hA : ∀ w, w < nw → A w < 12 ∧ B w < 12) : FarP D2 no nw A B L := by
  obtain ⟨h0, hs, ht, hm, he, hg, hn⟩ := h
  refine ⟨fun i hi => by rw [e i i hi hi]; exact h0 i hi, fun i j hi hj => by rw [e i j hi hj, e j i hj hi]; exact hs i j hi hj, fun i j k hi hj hk => by rw [e i k hi hk, e i j hi hj, e j k hj hk]; exact ht i j k hi hj hk, fun i j hi hj => by rw [e i j hi hj]; exact hm i j hi hj, fun w hw => by rw [e _ _ (hA w hw).1 (hA w hw).2]; exact he w hw, fun i j hi hj hij hlt => ?_, fun i j hi hj hij hni => by rw [e i j hi hj]; exact hn i j hi hj hij hni⟩
  rw [e i j hi hj] at hlt
  obtain ⟨w, hw, hc⟩ := hg i j hi hj hij hlt
  obtain ⟨a1, b1⟩ := hA w hw
  refine ⟨w, hw, ?_⟩
  rw [e i j hi hj, e i (A w) hi a1, e i (B w) hi b1]
  exact hc
theorem FarP_no {D : Nat → Nat → Nat} {no nw : Nat} {A B L : Nat → Nat} (h : FarP D no nw A B L) : FarP D (no + 1) nw A B L := by
  obtain ⟨h0, hs, ht, hm, he, hg, hn⟩ := h
  exact ⟨h0, hs, ht, hm, he, hg, fun i j hi hj hij hni => hn i j hi hj hij (by omega)⟩
theorem h_office (x z : Int32) (hz : z = 0 ∨ z = 1) : fp_sim RLL (w_X8_office x z) (w_X9_office x z) := fun g _ h ok => by
  obtain ⟨hO, h6, hk6⟩ := h.1.2.1.O
  refine c_office hO h6 hk6 (fun j hj ej hn => ok _ _ ?_) (fun r k => ok r _ (RLL_ref h k))
  rw [nar_b hz]
  obtain ⟨⟨⟨x1, x2, x3, xr⟩, ⟨⟨a1, a2, a3⟩, cr⟩, ⟨n1, n2, n3⟩, ⟨v1, v2, v3⟩, vf⟩, hN, hSC, hVM, ⟨hIV, hIB, hOK⟩, hZ, hVO, hVT, hVS⟩ := h
  have eO : nO (gu (gu (gu (gu (gu (gu g 7 (nO g) x) 8 (nO g) z) 6 3 (nI (nO g + 1))) 69 (nO g) x) 79 (nO g) z) 67 12 (nI (nO g + 1))) = nO g + 1 := tn_n (by omega)
  refine ⟨⟨⟨x1, ?_, ?_, xr⟩, ⟨⟨⟨rfl, nO g + 1, by omega, rfl⟩, a2, a3⟩, cr⟩, ⟨fun o ho => ?_, fun o => ?_, fun w hw => ?_⟩, ⟨fun k hk => ?_, v2, fun k hk => ?_⟩, ⟨vf.1, ?_⟩⟩, hN, hSC, fun m hm => ?_, ⟨fun m hm => ?_, hIB, hOK⟩, hZ, hVO, hVT, hVS⟩
  · funext i
    have e := congrFun x2 i
    by_cases c : i = nO g <;> simp [gu, c]
    exact e
  · funext i
    have e := congrFun x3 i
    by_cases c : i = nO g <;> simp [gu, c]
    exact e
  · rw [eO] at ho
    by_cases c : o = nO g
    · exact ⟨j, hj, by rw [c]; show (gu (gu (gu (gu (gu (gu g 7 (nO g) x) 8 (nO g) z) 6 3 (nI (nO g + 1))) 69 (nO g) x) 79 (nO g) z) 67 12 (nI (nO g + 1))) 7 (nO g) = _; simp [gu]; exact ej⟩
    · obtain ⟨hh, h1, e⟩ := n1 o (by omega)
      exact ⟨hh, h1, by simp [gu, c]; exact e⟩
  · by_cases c : o = nO g
    · simp [gu, c]
      exact hz
    · simp [gu, c]
      exact n2 o
  · obtain ⟨⟨a, b, ha, hb, hab, ea, eb⟩, rest⟩ := n3 w hw
    exact ⟨⟨a, b, by rw [eO]; omega, by rw [eO]; omega, hab, ea, eb⟩, rest⟩
  · obtain ⟨⟨o, ho, eo⟩, rest⟩ := v1 k hk
    exact ⟨⟨o, by rw [eO]; omega, eo⟩, rest⟩
  · obtain ⟨q1, q2, q3, q4⟩ := v3 k hk
    exact ⟨q1, q2, fun e => by obtain ⟨o, ho, eo⟩ := q3 e; exact ⟨o, by rw [eO]; omega, eo⟩, q4⟩
  · rw [eO]
    exact FarP_no vf.2
  · obtain ⟨⟨o, ho, eo⟩, rest⟩ := hVM m hm
    exact ⟨⟨o, by rw [eO]; omega, eo⟩, rest⟩
  · obtain ⟨⟨o, ho, eo⟩, rest⟩ := hIV m hm
    exact ⟨⟨o, by rw [eO]; omega, eo⟩, rest⟩
theorem h_staff (x y z : Int32) (hz : z = 0 ∨ z = 1) : fp_sim RLL (w_X8_staff x y z) (w_X9_staff x y z) := fun g _ h ok => by
  obtain ⟨hO, h6, hk6⟩ := h.1.2.1.O
  refine c_staff hO h6 hk6 h.1.1.2.1 (fun o j ho eo hj ej => ok _ _ ?_) (fun r k => ok r _ (RLL_ref h k))
  rw [nar_b hz]
  obtain ⟨⟨⟨x1, x2, x3, xr⟩, hC, ⟨n1, n2, n3⟩, hR, vf⟩, rest⟩ := h
  refine ⟨⟨⟨x1, ?_, ?_, xr⟩, hC, ⟨fun o2 ho2 => ?_, fun o2 => ?_, n3⟩, hR, vf⟩, rest⟩
  · funext i
    have e := congrFun x2 i
    by_cases c : i = o <;> simp [gu, c]
    exact e
  · funext i
    have e := congrFun x3 i
    by_cases c : i = o <;> simp [gu, c]
    exact e
  · by_cases c : o2 = o
    · exact ⟨j, hj, by simp [gu, c]; exact ej⟩
    · obtain ⟨hh, h1, e⟩ := n1 o2 ho2
      exact ⟨hh, h1, by simp [gu, c]; exact e⟩
  · by_cases c : o2 = o
    · simp [gu, c]
      exact hz
    · simp [gu, c]
      exact n2 o2
theorem h_shut (x y z : Int32) : fp_sim RLL (w_X8_shut x y z) (w_X9_shut x y z) := fun g _ h ok => by
  obtain ⟨hS, h6, hk6⟩ := h.1.2.1.Sh
  obtain ⟨hW, w6, wk6⟩ := h.1.2.1.W
  obtain ⟨hn, h9, hk9⟩ := h.2.1.n
  refine c_shut hS hW hn h6 hk6 w6 wk6 h9 hk9 (fun i p q hi ei hp hpq hq2 ea eb hlt => ok _ _ ?_) (fun r k => ok r _ (RLL_ref h k))
  obtain ⟨⟨⟨x1, x2, x3, x4, ⟨y1, y2, y3⟩, xr⟩, ⟨⟨a1, a2, a3⟩, cr⟩, vv⟩, rest⟩ := h
  refine ⟨⟨⟨x1, x2, x3, x4, ⟨?_, ?_, ?_⟩, xr⟩, ⟨⟨a1, a2, rfl, nSh g + 1, by omega, rfl⟩, cr⟩, vv⟩, rest⟩
  · funext k
    have e := congrFun y1 k
    by_cases c : k = nSh g <;> simp [gu, c]
    exact e
  · funext k
    have e := congrFun y2 k
    by_cases c : k = nSh g <;> simp [gu, c]
    exact e
  · funext k
    have e := congrFun y3 k
    by_cases c : k = nSh g <;> simp [gu, c]
    exact e
theorem h_move (x y z : Int32) : fp_sim RLL (w_X8_move x y z) (w_X9_move x y z) := fun g _ h ok => by
  obtain ⟨hM, h4, hk4⟩ := h.1.2.1.Mo
  obtain ⟨hO, h6, hk6⟩ := h.1.2.1.O
  obtain ⟨hn, h9, hk9⟩ := h.2.1.n
  refine c_move hM hO hn h4 hk4 h6 hk6 h9 hk9 (fun i a f hi ei ha ea htf hf ex hlt => ok _ _ ?_) (fun r k => ok r _ (RLL_ref h k))
  obtain ⟨⟨⟨x1, x2, x3, x4, x5, ⟨y1, y2, y3, y4⟩, xr⟩, ⟨ca, ⟨b1, b2, b3⟩, cr⟩, hNt, ⟨v1, v2, v3⟩, vf⟩, rest⟩ := h
  refine ⟨⟨⟨x1, x2, x3, x4, x5, ⟨?_, ?_, ?_, ?_⟩, xr⟩, ⟨ca, ⟨⟨rfl, nMo g + 1, by omega, rfl⟩, b2, b3⟩, cr⟩, hNt, ⟨fun k hk => ?_, v2, v3⟩, vf⟩, rest⟩
  · funext k
    have e := congrFun y1 k
    by_cases c : k = nMo g <;> simp [gu, c]
    exact e
  · funext k
    have e := congrFun y2 k
    by_cases c : k = nMo g <;> simp [gu, c]
    exact e
  · funext k
    have e := congrFun y3 k
    by_cases c : k = nMo g <;> simp [gu, c]
    exact e
  · funext k
    have e := congrFun y4 k
    by_cases c : k = nMo g <;> simp [gu, c]
    exact e
  · have hk : k < tn (nI (nMo g + 1)) := hk
    rw [tn_n (by omega)] at hk
    by_cases c : k = nMo g
    · exact ⟨⟨a, ha, by simp [gu, c]; exact ea⟩, nNow g, f, htf, hf, by simp [gu, c]; exact ex, by simp [gu, c]⟩
    · obtain ⟨⟨o, ho, eo⟩, t, f2, q1, q2, q3, q4⟩ := v1 k (by show k < nMo g; omega)
      exact ⟨⟨o, ho, by simp [gu, c]; exact eo⟩, t, f2, q1, q2, by simp [gu, c]; exact q3, by simp [gu, c]; exact q4⟩
theorem h_man (x y : Int32) : fp_sim RLL (w_X8_man x y) (w_X9_man x y) := fun g _ h ok => by
  obtain ⟨hM, h7, hk7⟩ := h.1.2.1.Me
  refine c_man hM h7 hk7 (fun i j hi ei hj ej hlt => ok _ _ ?_) (fun r k => ok r _ (RLL_ref h k))
  obtain ⟨⟨⟨x1, x2, x3, x4, x5, x6, ⟨y1, y2⟩, xr⟩, ⟨ca, ⟨b1, b2, b3⟩, cr⟩, hNt, ⟨v1, v2, v3⟩, vf⟩, hN, hSC, hVM, rest⟩ := h
  have eM : nMe (gu (gu (gu (gu (gu (gu g 23 (nMe g) x) 24 (nMe g) y) 18 7 (nI (nMe g + 1))) 84 (nMe g) x) 85 (nMe g) y) 67 27 (nI (nMe g + 1))) = nMe g + 1 := tn_n (by omega)
  refine ⟨⟨⟨x1, x2, x3, x4, x5, x6, ⟨?_, ?_⟩, xr⟩, ⟨ca, ⟨b1, ⟨rfl, nMe g + 1, by omega, rfl⟩, b3⟩, cr⟩, hNt, ⟨v1, fun k hk => ?_, fun k hk => ?_⟩, vf⟩, hN, hSC, fun m hm => ?_, rest⟩
  · funext k
    have e := congrFun y1 k
    by_cases c : k = nMe g <;> simp [gu, c]
    exact e
  · funext k
    have e := congrFun y2 k
    by_cases c : k = nMe g <;> simp [gu, c]
    exact e
  · rw [eM] at hk
    by_cases c : k = nMe g
    · exact ⟨⟨i, hi, by simp [gu, c]; exact ei⟩, j, hj, by simp [gu, c]; exact ej⟩
    · obtain ⟨⟨u, hu, eu⟩, n, hn, en⟩ := v2 k (by omega)
      exact ⟨⟨u, hu, by simp [gu, c]; exact eu⟩, n, hn, by simp [gu, c]; exact en⟩
  · obtain ⟨⟨m, hm, em⟩, rest⟩ := v3 k hk
    exact ⟨⟨m, by rw [eM]; omega, em⟩, rest⟩
  · obtain ⟨q1, p, hp, ep⟩ := hVM m hm
    exact ⟨q1, p, by rw [eM]; omega, ep⟩
theorem h_state (x y z : Int32) : fp_sim RLL (w_X8_state x y z) (w_X9_state x y z) := fun g _ h ok => by
  obtain ⟨hSt, h4, hk4⟩ := h.1.2.1.St
  obtain ⟨hM, h7, hk7⟩ := h.1.2.1.Me
  obtain ⟨hO, h6, hk6⟩ := h.1.2.1.O
  obtain ⟨hn, h9, hk9⟩ := h.2.1.n
  refine c_state hSt hM hO h4 hk4 h7 hk7 h6 hk6 h9 hk9 (fun i j hi ei hj ej h1 hlt => ok _ _ ?_) (fun r k => ok r _ (RLL_ref h k))
  obtain ⟨⟨⟨x1, x2, x3, x4, x5, x6, x7, ⟨y1, y2, y3, y4⟩, xr⟩, ⟨ca, ⟨b1, b2, b3⟩, cr⟩, hNt, ⟨v1, v2, v3⟩, vf⟩, rest⟩ := h
  refine ⟨⟨⟨x1, x2, x3, x4, x5, x6, x7, ⟨?_, ?_, ?_, ?_⟩, xr⟩, ⟨ca, ⟨b1, b2, rfl, nSt g + 1, by omega, rfl⟩, cr⟩, hNt, ⟨v1, v2, fun k hk => ?_⟩, vf⟩, rest⟩
  · funext k
    have e := congrFun y1 k
    by_cases c : k = nSt g <;> simp [gu, c]
    exact e
  · funext k
    have e := congrFun y2 k
    by_cases c : k = nSt g <;> simp [gu, c]
    exact e
  · funext k
    have e := congrFun y3 k
    by_cases c : k = nSt g <;> simp [gu, c]
    exact e
  · funext k
    have e := congrFun y4 k
    by_cases c : k = nSt g <;> simp [gu, c]
    exact e
  · have hk : k < tn (nI (nSt g + 1)) := hk
    rw [tn_n (by omega)] at hk
    by_cases c : k = nSt g
    · refine ⟨⟨i, hi, by simp [gu, c]; exact ei⟩, ⟨j, hj, by simp [gu, c]; exact ej⟩, fun e => ?_, nNow g, hn, by simp [gu, c]⟩
      have e : y = 1 := by simpa [gu, c] using e
      obtain ⟨o, ho, eo⟩ := h1 e
      exact ⟨o, ho, by simp [gu, c]; exact eo⟩
    · obtain ⟨⟨m, hm, em⟩, ⟨s, hs, es⟩, q3, t, ht, et⟩ := v3 k (by show k < nSt g; omega)
      refine ⟨⟨m, hm, by simp [gu, c]; exact em⟩, ⟨s, hs, by simp [gu, c]; exact es⟩, fun e => ?_, t, ht, by simp [gu, c]; exact et⟩
      have e : g 26 k = 1 := by simpa [gu, c] using e
      obtain ⟨o, ho, eo⟩ := q3 e
      exact ⟨o, ho, by simp [gu, c]; exact eo⟩
theorem h_feed (v : Int32) (w : Int64) : fp_sim RLL (w_X8_feed v w) (w_X9_feed v w) := fun g _ h ok => by
  obtain ⟨hT, h1, hk1⟩ := h.1.2.1.Ta
  refine c_feed hT h1 hk1 (fun n f hh hn f1 h2 f3 => ok _ _ ?_) (fun r k => ok r _ (RLL_ref h k))
  obtain ⟨⟨hS, ⟨ca, cb, cc, ⟨e1, e2⟩, cr⟩, vv⟩, hN, hSC, hVM, hCV, hZ, hVO, hVT, hVS⟩ := h
  refine ⟨⟨hS, ⟨ca, cb, cc, ⟨⟨rfl, nTa g + n, by omega, rfl⟩, e2⟩, cr⟩, vv⟩, hN, hSC, hVM, hCV, hZ, hVO, fun i hi => ?_, hVS⟩
  have hi : i < tn (nI (nTa g + n)) := hi
  rw [tn_n (by omega)] at hi
  show f i &&& 255 = hh i
  by_cases c : i < nTa g
  · rw [f1 i c, h2 i c]
    exact hVT i c
  · exact f3 i (by omega) hi
theorem h_order (x : Int32) : fp_sim RLL (w_X8_order x) (w_X9_order x) := fun g _ h ok => by
  have hNow := h.2.1.n.1
  have hOr := h.1.2.1.Or.1
  have hTa := h.1.2.1.Ta.1
  refine c_order h.1 h.2.1 h.2.2.2.2.2.2.2.1 (fun B c f m p a b s33 st s104 hlt hx hB1 hB2 hcl em t1 t2 t3 t4 => ok _ _ ?_) (fun r p t a b st => ok r _ ?_) (fun r k => ok r _ (RLL_ref h k))
  · obtain ⟨⟨⟨x1, x2, x3, x4, x5, x6, x7, x8, x9, ⟨y1, y2⟩, xr⟩, ⟨ca, cb, cc, ⟨e1, e2⟩, cr⟩, vv⟩, hN, hSC, hVM, hCV, hZ, hVO, hVT, hVS⟩ := h
    refine ⟨⟨⟨x1, x2, x3, x4, x5, x6, x7, x8, x9, ⟨?_, ?_⟩, xr⟩, ⟨ca, cb, cc, ⟨⟨rfl, 0, by omega, rfl⟩, rfl, nOr g + 1, by omega, rfl⟩, cr⟩, vv⟩, hN, hSC, hVM, hCV, hZ, fun t ht => ?_, fun i hi => absurd (show i < tn 0 from hi) (by show ¬ i < 0; omega), hVS⟩
    · funext k
      have e := congrFun y1 k
      by_cases c : k = nOr g <;> simp [ordG, ordC, gu, gc, c]
      exact e
    · funext k
      have e := congrFun y2 k
      by_cases c : k = nOr g <;> simp [ordG, ordC, gu, gc, c]
      exact e
    · have ht : t < tn (nI (nOr g + 1)) := ht
      rw [tn_n (by omega)] at ht
      by_cases c2 : t = nOr g
      · subst c2
        refine ⟨⟨B, nTa g, c, f, hx, hTa, by simp [ordG, ordC, gu, gc], fun i hi => ⟨?_, (hB1 i hi).2⟩, hB2, hcl, by simp [ordG, ordC, gu, gc]; exact em, fun i hi => ?_⟩, nNow g, hNow, by simp [ordG, ordC, gu, gc]⟩
        · show s104 (60 * nOr g + i) = B i
          rw [t4 i hi]
          exact (hB1 i hi).1
        · exact t2 i hi
      · obtain ⟨⟨B', sz, c', f', q1, q2, q3, q4, q5, q6, q7, q8⟩, hh, q9, q10⟩ := hVO t (by show t < nOr g; omega)
        refine ⟨⟨B', sz, c', f', q1, q2, by simp [ordG, ordC, gu, gc, c2]; exact q3, fun i hi => ⟨?_, (q4 i hi).2⟩, q5, q6, by simp [ordG, ordC, gu, gc, c2]; exact q7, fun i hi => ?_⟩, hh, q9, by simp [ordG, ordC, gu, gc, c2]; exact q10⟩
        · show s104 (60 * t + i) = B' i
          rw [t3 (60 * t + i) (by omega)]
          exact (q4 i hi).1
        · show s33 (60 * t + i) = _
          rw [t1 (60 * t + i) (by omega)]
          exact q8 i hi
  · obtain ⟨⟨hS, ⟨ca, cb, cc, ⟨e1, e2⟩, cr⟩, vv⟩, hN, hSC, hVM, hCV, hZ, hVO, hVT, hVS⟩ := h
    exact ⟨⟨hS, ⟨ca, cb, cc, ⟨⟨rfl, 0, by omega, rfl⟩, e2⟩, cr⟩, vv⟩, hN, hSC, hVM, hCV, hZ, hVO, fun i hi => absurd (show i < tn 0 from hi) (by show ¬ i < 0; omega), hVS⟩
