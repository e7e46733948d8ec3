/-! ===== mail, way, sack; the start; all together ===== -/
theorem h_mail (x1 x2 x3 x4 : Int32) : fp_sim RLL (w_X8_mail x1 x2 x3 x4) (w_X9_mail x1 x2 x3 x4) := fun g _ h ok => by
  obtain ⟨hMa, h5, hk5⟩ := h.1.2.1.Ma
  obtain ⟨hM, h7, hk7⟩ := h.1.2.1.Me
  obtain ⟨hO, h6, hk6⟩ := h.1.2.1.O
  obtain ⟨hn, h9, hk9⟩ := h.2.1.n
  have hZ0 := h.2.2.2.2.2.1
  refine c_mail hMa hM hO h5 hk5 h7 hk7 h6 hk6 h9 hk9 (fun hlt => (hZ0 _ (Nat.le_refl _) hlt).2.1) (fun hlt => by rw [h.2.2.1.2.2.2.2.2.1]; exact (hZ0 _ (Nat.le_refl _) hlt).2.1) (fun hlt _ _ hx2 hx3 _ _ => ok _ _ ?_) (fun r k => ok r _ (RLL_ref h k))
  obtain ⟨o, ho, eo⟩ := hx2
  obtain ⟨p, hp, ep⟩ := hx3
  have z0 := hZ0 _ (Nat.le_refl _) hlt
  obtain ⟨⟨⟨x1', x2', x3', x4', x5', x6', x7', x8', ⟨y1, y2, y3, y4, y5⟩, xr⟩, ⟨ca, cb, ⟨d1, d2⟩, cr⟩, vv⟩, hN, ⟨s95, s96, s97, s101, s98, s99, s102⟩, hVM, ⟨hIV, hIB, hOK⟩, hZ, hVO, hVT, hVS⟩ := h
  have up : ∀ {k : Nat}, k < nMa (mailG g (nMa g) (nNow g) x1 x2 x3 x4) → k < nMa g + 1 := by
    intro k hk
    have hk : k < tn (nI (nMa g + 1)) := hk
    rw [tn_n (by omega)] at hk
    exact hk
  refine ⟨⟨⟨x1', x2', x3', x4', x5', x6', x7', x8', ⟨?_, ?_, ?_, ?_, ?_⟩, xr⟩, ⟨ca, cb, ⟨⟨rfl, nMa g + 1, by omega, rfl⟩, d2⟩, cr⟩, vv⟩, hN, ⟨?_, ?_, ?_, s101, s98, ?_, s102⟩, fun m hm => ?_, ⟨fun m hm => ?_, fun m hm => ?_, fun m hm j hj h40 => ?_⟩, fun m hm1 hm2 => ?_, hVO, hVT, hVS⟩
  · funext k
    have e := congrFun y1 k
    by_cases c : k = nMa g <;> simp [mailG, gu, c]
    exact e
  · funext k
    have e := congrFun y2 k
    by_cases c : k = nMa g <;> simp [mailG, gu, c]
    exact e
  · funext k
    have e := congrFun y3 k
    by_cases c : k = nMa g <;> simp [mailG, gu, c]
    exact e
  · funext k
    have e := congrFun y4 k
    by_cases c : k = nMa g <;> simp [mailG, gu, c]
    exact e
  · funext k
    have e := congrFun y5 k
    by_cases c : k = nMa g <;> simp [mailG, gu, c]
    exact e
  · funext k
    have e := congrFun s95 k
    by_cases c : k = nMa g <;> simp [mailG, gu, c]
    exact e
  · funext k
    have e := congrFun s96 k
    by_cases c : k = nMa g <;> simp [mailG, gu, c]
    exact e
  · funext k
    have e := congrFun s97 k
    by_cases c : k = nMa g <;> simp [mailG, gu, c]
    exact e
  · funext k
    have e := congrFun s99 k
    by_cases c : k = nMa g <;> simp [mailG, gu, c]
    exact e
  · have hm := up hm
    by_cases c : m = nMa g
    · exact ⟨⟨o, ho, by simp [mailG, gu, c]; exact eo⟩, p, hp, by simp [mailG, gu, c]; exact ep⟩
    · obtain ⟨⟨o2, ho2, eo2⟩, p2, hp2, ep2⟩ := hVM m (by omega)
      exact ⟨⟨o2, ho2, by simp [mailG, gu, c]; exact eo2⟩, p2, hp2, by simp [mailG, gu, c]; exact ep2⟩
  · have hm := up hm
    show (∃ o, o < nO g ∧ mailG g (nMa g) (nNow g) x1 x2 x3 x4 45 m = nI o) ∧ ((mailG g (nMa g) (nNow g) x1 x2 x3 x4 44 m = 0 ∨ mailG g (nMa g) (nNow g) x1 x2 x3 x4 44 m = 1) → mailG g (nMa g) (nNow g) x1 x2 x3 x4 50 m = 0) ∧ ∃ k, k ≤ nNow g + 1 ∧ mailG g (nMa g) (nNow g) x1 x2 x3 x4 49 m = nI k
    by_cases c : m = nMa g
    · refine ⟨⟨o, ho, by simp [mailG, gu, c]; exact eo⟩, fun _ => ?_, 1, by omega, ?_⟩
      · rw [c]
        exact z0.2.2
      · simp [mailG, gu, c]
        rfl
    · obtain ⟨⟨o2, ho2, eo2⟩, q7, k, hk, ek⟩ := hIV m (by omega)
      have e44 : mailG g (nMa g) (nNow g) x1 x2 x3 x4 44 m = g 44 m := by simp [mailG, gu, c]
      refine ⟨⟨o2, ho2, by simp [mailG, gu, c]; exact eo2⟩, fun z => ?_, k, hk, by simp [mailG, gu, c]; exact ek⟩
      rw [e44] at z
      exact q7 z
  · have hm := up hm
    show (g 47 m = 0 ∨ g 47 m = 1) ∧ (g 50 m = 0 ∨ g 50 m = 1)
    by_cases c : m = nMa g
    · rw [c]
      exact ⟨Or.inl z0.1, Or.inl z0.2.2⟩
    · exact hIB m (by omega)
  · have hm := up hm
    have hj : j < tn (mailG g (nMa g) (nNow g) x1 x2 x3 x4 49 m) := hj
    by_cases c : m = nMa g
    · have e1 : mailG g (nMa g) (nNow g) x1 x2 x3 x4 49 m = nI 1 := by simp [mailG, gu, c]; rfl
      rw [e1, tn_n (by omega)] at hj
      have : j = 0 := by omega
      subst this
      simp [mailG, gu, c]
    · have e1 : mailG g (nMa g) (nNow g) x1 x2 x3 x4 49 m = g 49 m := by simp [mailG, gu, c]
      rw [e1] at hj
      have ne : ¬ 40 * m + j = 40 * nMa g := by omega
      have := hOK m (by omega) j hj h40
      simp [mailG, gu, ne]
      exact this
  · have hm1 : tn (nI (nMa g + 1)) ≤ m := hm1
    rw [tn_n (by omega)] at hm1
    have c : ¬ m = nMa g := by omega
    have z := hZ m (by omega) hm2
    refine ⟨z.1, ?_, z.2.2⟩
    simp [mailG, gu, c]
    exact z.2.1
theorem h_way (x1 x2 x3 x4 x5 : Int32) : fp_sim RLL (w_X8_way x1 x2 x3 x4 x5) (w_X9_way x1 x2 x3 x4 x5) := fun g _ h ok => by
  refine c_way h.1 (fun a b l fi e f ha hb hab ea eb l1 l2 el hf ef e1 e2 ee hlt hrep => ok _ _ ?_) (fun r k => ok r _ (RLL_ref h k))
  have hO := h.1.2.1.O.1
  have hVN := h.1.2.2.1
  obtain ⟨⟨⟨y0, y1, y2, ⟨s70, s71, s72, s73, s74⟩, xr⟩, ⟨⟨a1, a2, a3⟩, cr⟩, ⟨n1, n2, n3⟩, hR, ⟨f1, f2⟩⟩, rest⟩ := h
  have eW : nW (wayG g (nW g) x1 x2 x3 x4 x5 f) = nW g + 1 := tn_n (by omega)
  have rA : ∀ w, wayG g (nW g) x1 x2 x3 x4 x5 f 10 w = if w = nW g then x1 else g 10 w := fun w => by by_cases c : w = nW g <;> simp [wayG, gu, gc, c]
  have rB : ∀ w, wayG g (nW g) x1 x2 x3 x4 x5 f 11 w = if w = nW g then x2 else g 11 w := fun w => by by_cases c : w = nW g <;> simp [wayG, gu, gc, c]
  have rL : ∀ w, wayG g (nW g) x1 x2 x3 x4 x5 f 12 w = if w = nW g then x3 else g 12 w := fun w => by by_cases c : w = nW g <;> simp [wayG, gu, gc, c]
  have r13 : ∀ w, wayG g (nW g) x1 x2 x3 x4 x5 f 13 w = if w = nW g then x4 else g 13 w := fun w => by by_cases c : w = nW g <;> simp [wayG, gu, gc, c]
  have r14 : ∀ w, wayG g (nW g) x1 x2 x3 x4 x5 f 14 w = if w = nW g then x5 else g 14 w := fun w => by by_cases c : w = nW g <;> simp [wayG, gu, gc, c]
  have hAB : ∀ w, w < nW g → wA g w < 12 ∧ wB g w < 12 := fun w hw => by
    obtain ⟨q1, q2, _⟩ := hVN.w hO hw
    exact ⟨by omega, by omega⟩
  have more := FarP.more f2 (a := a) (b := b) (l := l) (A2 := wA (wayG g (nW g) x1 x2 x3 x4 x5 f)) (B2 := wB (wayG g (nW g) x1 x2 x3 x4 x5 f)) (L2 := wL (wayG g (nW g) x1 x2 x3 x4 x5 f)) hO ha hb hAB
    (fun w hw => ⟨by unfold wA; rw [rA w, if_neg (by omega)], by unfold wB; rw [rB w, if_neg (by omega)], by unfold wL; rw [rL w, if_neg (by omega)]⟩)
    (by unfold wA; rw [rA _, if_pos rfl, ea, tn_n (by omega)]) (by unfold wB; rw [rB _, if_pos rfl, eb, tn_n (by omega)]) (by unfold wL; rw [rL _, if_pos rfl, el, tn_n (by omega)])
  have ed : mD (dN g) a b l a b ≤ l := by
    have := more.2.2.2.2.1 (nW g) (by omega)
    unfold wA wB wL at this
    rw [rA _, rB _, rL _, if_pos rfl, if_pos rfl, if_pos rfl, ea, eb, el, tn_n (by omega), tn_n (by omega), tn_n (by omega)] at this
    exact this
  have big : ∀ i j, i < 12 → j < 12 → (nO g ≤ i ∨ nO g ≤ j) → mD (dN g) a b l i j = dN g i j := by
    intro i j hi hj hh
    by_cases c : i = j
    · subst c
      rw [more.1 i hi, f2.1 i hi]
    · rcases hh with z | z
      · rw [more.2.2.2.2.2.2 i j hi hj c z, f2.2.2.2.2.2.2 i j hi hj c z]
      · rw [more.2.1 i j hi hj, f2.2.1 i j hi hj, more.2.2.2.2.2.2 j i hj hi (fun y => c y.symm) z, f2.2.2.2.2.2.2 j i hj hi (fun y => c y.symm) z]
  have ex := sh_exact (D := dN g) (T := fun k => tn (g 9 k)) hO ha hb (fun i j _ _ => rfl) more.2.2.1 more.2.1 ed big
  have e9 : ∀ k, k < 144 → wayG g (nW g) x1 x2 x3 x4 x5 f 9 k = nI (mD (dN g) a b l (k / 12) (k % 12)) := by
    intro k hk
    have := ex (k / 12) (k % 12) (by omega) (by omega)
    rw [show 12 * (k / 12) + k % 12 = k by omega] at this
    rw [← this]
    exact hrep k hk
  have mb : ∀ i j, i < 12 → j < 12 → mD (dN g) a b l i j ≤ 1000000 := more.2.2.2.1
  have cols : ∀ {u v : Nat → Int32} {z : Int32}, u = v → (fun k => if k = nW g then z else u k) = (fun k => if k = nW g then z else v k) := fun e => by rw [e]
  refine ⟨⟨⟨y0, y1, y2, ⟨?_, ?_, ?_, ?_, ?_⟩, xr⟩, ⟨⟨a1, ⟨rfl, nW g + 1, by omega, rfl⟩, a3⟩, cr⟩, ⟨n1, n2, fun w hw => ?_⟩, hR, ⟨fun k hk => ⟨_, mb _ _ (by omega) (by omega), e9 k hk⟩, ?_⟩⟩, rest⟩
  · funext k
    have e := congrFun s70 k
    by_cases c : k = nW g <;> simp [wayG, gu, gc, c]
    exact e
  · funext k
    have e := congrFun s71 k
    by_cases c : k = nW g <;> simp [wayG, gu, gc, c]
    exact e
  · funext k
    have e := congrFun s72 k
    by_cases c : k = nW g <;> simp [wayG, gu, gc, c]
    exact e
  · funext k
    have e := congrFun s73 k
    by_cases c : k = nW g <;> simp [wayG, gu, gc, c]
    exact e
  · funext k
    have e := congrFun s74 k
    by_cases c : k = nW g <;> simp [wayG, gu, gc, c]
    exact e
  · rw [eW] at hw
    rw [rA w, rB w, rL w, r13 w, r14 w]
    by_cases c : w = nW g
    · rw [if_pos c, if_pos c, if_pos c, if_pos c, if_pos c]
      exact ⟨⟨a, b, ha, hb, hab, ea, eb⟩, ⟨l, l1, l2, el⟩, ⟨fi, hf, ef⟩, e, e1, e2, ee⟩
    · rw [if_neg c, if_neg c, if_neg c, if_neg c, if_neg c]
      exact n3 w (by omega)
  · rw [eW]
    refine FarP_cong more (fun i j hi hj => ?_) (fun w hw => ?_)
    · unfold dN
      rw [e9 (12 * i + j) (by omega), show (12 * i + j) / 12 = i by omega, show (12 * i + j) % 12 = j by omega, tn_n (by have := mb i j hi hj; omega)]
      rfl
    · unfold wA wB
      rw [rA w, rB w]
      by_cases c : w = nW g
      · rw [if_pos c, if_pos c, ea, eb, tn_n (by omega), tn_n (by omega)]
        omega
      · rw [if_neg c, if_neg c]
        exact hAB w (by omega)
theorem h_sack (x1 x2 x3 : Int32) : fp_sim RLL (w_X8_sack x1 x2 x3) (w_X9_sack x1 x2 x3) := fun g _ h ok => by
  obtain ⟨hn, h3, hk3⟩ := h.1.2.1.Sa
  obtain ⟨v1, v2, v3, v4⟩ := h.2.2.2.2.2.2.2.2
  refine c_sack (B := sB g) hn h3 hk3 v2 (fun t r l f p hlt t1 t2 et r1 r2 er l2 el hp f1 fp f3 hlo hhi => ok _ _ ?_) (fun r k => ok r _ (RLL_ref h k))
  obtain ⟨⟨⟨y0, y1, y2, y3, y4, y5, y6, y7, y8, y9, s120, s121, s122, s123⟩, ⟨ca, cb, cc, cd, ce1, ce2⟩, vv⟩, hN, hSC, hVM, hCV, hZ, hVO, hVT, _⟩ := h
  have eS : nSa (sackG g (nSa g) x1 x2 x3 f) = nSa g + 1 := tn_n (by omega)
  have r62 : ∀ s, sackG g (nSa g) x1 x2 x3 f 62 s = if s = nSa g then x1 else g 62 s := fun s => by by_cases c : s = nSa g <;> simp [sackG, gu, gc, c]
  have r63 : ∀ s, sackG g (nSa g) x1 x2 x3 f 63 s = if s = nSa g then x2 else g 63 s := fun s => by by_cases c : s = nSa g <;> simp [sackG, gu, gc, c]
  have r64 : ∀ s, sackG g (nSa g) x1 x2 x3 f 64 s = if s = nSa g then x3 else g 64 s := fun s => by by_cases c : s = nSa g <;> simp [sackG, gu, gc, c]
  have r65 : sackG g (nSa g) x1 x2 x3 f 65 = f := rfl
  have ef : ∀ i, i < nSa g + 1 → f i = nI (insB (sB g) p (nSa g) i) := by
    intro i hi
    unfold insB
    by_cases a : i < p
    · rw [if_pos a]
      exact f1 i a
    · rw [if_neg a]
      by_cases b : i = p
      · rw [if_pos b, b]
        exact fp
      · rw [if_neg b]
        exact f3 i (by omega) (by omega)
  have insl : ∀ i, i < nSa g + 1 → insB (sB g) p (nSa g) i < nSa g + 1 := by
    intro i hi
    unfold insB
    split
    · have := (v2 i (by omega)).1
      omega
    · split
      · omega
      · have := (v2 (i - 1) (by omega)).1
        omega
  have eB : ∀ i, i < nSa g + 1 → sB (sackG g (nSa g) x1 x2 x3 f) i = insB (sB g) p (nSa g) i := by
    intro i hi
    have := insl i hi
    show tn (f i) = _
    rw [ef i hi, tn_n (by omega)]
  have eR : ∀ s, s < nSa g → sR (sackG g (nSa g) x1 x2 x3 f) s = sR g s := fun s hs => by unfold sR; rw [r63 s, if_neg (by omega)]
  have eRn : sR (sackG g (nSa g) x1 x2 x3 f) (nSa g) = r := by unfold sR; rw [r63 _, if_pos rfl, er, tn_n (by omega)]
  refine ⟨⟨⟨y0, y1, y2, y3, y4, y5, y6, y7, y8, y9, ?_, ?_, ?_, s123⟩, ⟨ca, cb, cc, cd, ⟨rfl, nSa g + 1, by omega, rfl⟩, ce2⟩, vv⟩, hN, hSC, hVM, hCV, hZ, hVO, hVT, fun s hs => ?_, fun i hi => ?_, fun i j hij hj => ?_, fun G => ?_⟩
  · funext k
    have e := congrFun s120 k
    by_cases c : k = nSa g <;> simp [sackG, gu, gc, c]
    exact e
  · funext k
    have e := congrFun s121 k
    by_cases c : k = nSa g <;> simp [sackG, gu, gc, c]
    exact e
  · funext k
    have e := congrFun s122 k
    by_cases c : k = nSa g <;> simp [sackG, gu, gc, c]
    exact e
  · rw [eS] at hs
    unfold sT sR sL
    rw [r62 s, r63 s, r64 s]
    by_cases c : s = nSa g
    · rw [if_pos c, if_pos c, if_pos c, et, er, el, tn_n (by omega), tn_n (by omega), tn_n (by omega)]
      exact ⟨⟨t2, rfl⟩, ⟨r2, rfl⟩, l2, rfl⟩
    · rw [if_neg c, if_neg c, if_neg c]
      exact v1 s (by omega)
  · rw [eS] at hi ⊢
    rw [eB i hi]
    exact ⟨insl i hi, ef i hi⟩
  · rw [eS] at hj
    rw [eB i (by omega), eB j hj]
    have old : ∀ i, i < nSa g → sR (sackG g (nSa g) x1 x2 x3 f) (sB g i) = sR g (sB g i) := fun i hi => eR _ (v2 i hi).1
    have n63 : ∀ i, i < nSa g → g 63 (sB g i) = nI (sR g (sB g i)) ∧ sR g (sB g i) ≤ 999 := fun i hi => ⟨(v1 _ (v2 i hi).1).2.1.2, (v1 _ (v2 i hi).1).2.1.1⟩
    refine ord_ins (R := lexl (sR (sackG g (nSa g) x1 x2 x3 f))) hp (fun i j hij hj => ?_) (fun i hi => ?_) (fun i a b => ?_) i j hij hj
    · unfold lexl
      rw [old i (by omega), old j hj]
      exact v3 i j hij hj
    · have hb := (v2 i (by omega)).1
      unfold lexl
      rw [old i (by omega), eRn]
      have hle : sR g (sB g i) ≤ r := by
        have q := hlo (by omega)
        rw [(n63 (p - 1) (by omega)).1, er, le_n (by have := (n63 (p - 1) (by omega)).2; omega) (by omega)] at q
        by_cases z : i = p - 1
        · rw [z]
          exact q
        · rcases v3 i (p - 1) (by omega) (by omega) with w | w <;> omega
      by_cases z : sR g (sB g i) = r
      · exact Or.inr ⟨z, hb⟩
      · exact Or.inl (by omega)
    · have q := hhi i a b
      rw [(n63 i b).1, er, lt_n (by omega) (by have := (n63 i b).2; omega)] at q
      unfold lexl
      rw [old i b, eRn]
      exact Or.inl q
  · rw [eS]
    rw [sN_cong (nSa g + 1) (F := fun i => G (sB (sackG g (nSa g) x1 x2 x3 f) i)) (G := fun i => G (insB (sB g) p (nSa g) i)) (fun i hi => by rw [eB i hi]), sN_ins G (sB g) p (nSa g) (nSa g) hp, v4 G]
    rfl
theorem h_start (f : Nat → Int32) (hf : fp_far0 f) : RLL (fp_g0 f) := by
  have d : ∀ i j, i < 12 → j < 12 → dN (fp_g0 f) i j = if i = j then 0 else 1000000 := by
    intro i j hi hj
    show tn (f (12 * i + j)) = _
    rw [hf (12 * i + j) (by omega)]
    by_cases c : i = j
    · rw [if_pos c, if_pos ((m13 i hi j hj).mpr c)]
      rfl
    · rw [if_neg c, if_neg (fun z => c ((m13 i hi j hj).mp z))]
      rfl
  have hF : VFar (fp_g0 f) := by
    refine ⟨fun k hk => ?_, fun i hi => by rw [d i i hi hi, if_pos rfl], fun i j hi hj => ?_, fun i j k hi hj hk => ?_, fun i j hi hj => ?_, fun w hw => absurd hw (Nat.not_lt_zero w), fun i j hi hj hij hlt => ?_, fun i j hi hj hij _ => by rw [d i j hi hj, if_neg hij]⟩
    · show ∃ d, d ≤ 1000000 ∧ f k = nI d
      rw [hf k hk]
      split
      · exact ⟨0, by omega, rfl⟩
      · exact ⟨1000000, by omega, rfl⟩
    · rw [d i j hi hj, d j i hj hi]
      by_cases c : i = j
      · rw [if_pos c, if_pos c.symm]
      · rw [if_neg c, if_neg (fun z => c z.symm)]
    · rw [d i k hi hk, d i j hi hj, d j k hj hk]
      by_cases c1 : i = j
      · by_cases c2 : j = k
        · rw [if_pos (by omega : i = k)]
          omega
        · rw [if_neg c2]
          split <;> omega
      · rw [if_neg c1]
        split <;> omega
    · rw [d i j hi hj]
      split <;> omega
    · rw [d i j hi hj, if_neg hij] at hlt
      omega
  have z0 : ∃ j, j ≤ 0 ∧ (0 : Int32) = nI j := ⟨0, by omega, rfl⟩
  have c0 : ∀ {x y : Int32} {b : Nat}, x = 0 → y = 0 → (y = x ∧ ∃ j, j ≤ b ∧ x = nI j) := fun hx hy => ⟨by rw [hx, hy], 0, by omega, hx⟩
  have nn : ∀ (P : Nat → Prop), ∀ k, k < 0 → P k := fun P k hk => absurd hk (by omega)
  have t0 : tn 0 = 0 := rfl
  refine ⟨⟨⟨rfl, rfl, rfl, ⟨rfl, rfl, rfl, rfl, rfl⟩, ⟨rfl, rfl, rfl⟩, ⟨rfl, rfl, rfl, rfl⟩, ⟨rfl, rfl⟩, ⟨rfl, rfl, rfl, rfl⟩, ⟨rfl, rfl, rfl, rfl, rfl⟩, ⟨rfl, rfl⟩, rfl, rfl, rfl, rfl⟩, ⟨⟨c0 rfl rfl, c0 rfl rfl, c0 rfl rfl⟩, ⟨c0 rfl rfl, c0 rfl rfl, c0 rfl rfl⟩, ⟨c0 rfl rfl, rfl, 72, by omega, rfl⟩, ⟨c0 rfl rfl, c0 rfl rfl⟩, c0 rfl rfl, c0 rfl rfl⟩, ⟨fun k hk => absurd hk (Nat.not_lt_zero k), fun o => Or.inl rfl, fun k hk => absurd hk (Nat.not_lt_zero k)⟩, ⟨fun k hk => absurd hk (Nat.not_lt_zero k), fun k hk => absurd hk (Nat.not_lt_zero k), fun k hk => absurd hk (Nat.not_lt_zero k)⟩, hF⟩, c0 rfl rfl, ⟨rfl, rfl, rfl, rfl, rfl, rfl, rfl⟩, fun k hk => absurd hk (Nat.not_lt_zero k), ⟨fun k hk => absurd hk (Nat.not_lt_zero k), fun k hk => absurd hk (Nat.not_lt_zero k), fun k hk => absurd hk (Nat.not_lt_zero k)⟩, fun m _ _ => ⟨rfl, rfl, rfl⟩, fun k hk => absurd hk (Nat.not_lt_zero k), fun k hk => absurd hk (Nat.not_lt_zero k), fun k hk => absurd hk (Nat.not_lt_zero k), fun k hk => absurd hk (Nat.not_lt_zero k), fun i j _ hj => absurd hj (Nat.not_lt_zero j), fun G => rfl⟩
theorem goal_holds : fp_goal := goal_of h_office h_staff h_way h_shut h_far h_late h_hours h_move h_is h_list h_man h_state h_stateOf h_manAt h_mail h_feed h_order h_holds h_keep h_mailOf h_goal h_next h_trace h_fro h_after h_paid h_cover h_sure h_sack h_best h_put h_judge h_waiting h_count h_start
