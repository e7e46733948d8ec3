/-! ===== the class reads a text ===== -/
def app (st : Nat → Int32) (s : Nat) : List Int32 → Nat → Int32
  | [] => st
  | x :: c => app (upd st s x) (s + 1) c
theorem app_app (d : List Int32) : ∀ (c : List Int32) (st : Nat → Int32) (s : Nat), app (app st s c) (s + c.length) d = app st s (c ++ d)
  | [], st, s => rfl
  | x :: c, st, s => by
    show app (app (upd st s x) (s + 1) c) (s + (c.length + 1)) d = app (upd st s x) (s + 1) (c ++ d)
    rw [← app_app d c (upd st s x) (s + 1), show s + (c.length + 1) = s + 1 + c.length by omega]
theorem app_snoc (c : List Int32) (st : Nat → Int32) (s : Nat) (x : Int32) : upd (app st s c) (s + c.length) x = app st s (c ++ [x]) := app_app [x] c st s
theorem app_lo : ∀ (c : List Int32) (st : Nat → Int32) (s i : Nat), i < s → app st s c i = st i
  | [], st, s, i, _ => rfl
  | x :: c, st, s, i, h => by
    show app (upd st s x) (s + 1) c i = st i
    rw [app_lo c _ _ _ (by omega), upd_n _ _ (by omega)]
theorem app_at : ∀ (c : List Int32) (st : Nat → Int32) (s i : Nat), i < c.length → app st s c (s + i) = c.getD i 0
  | [], st, s, i, h => absurd h (by simp)
  | x :: c, st, s, 0, h => by
    show app (upd st s x) (s + 1) c s = x
    rw [app_lo c _ _ _ (by omega), upd_s]
  | x :: c, st, s, i + 1, h => by
    show app (upd st s x) (s + 1) c (s + (i + 1)) = c.getD i 0
    rw [show s + (i + 1) = s + 1 + i by omega]
    exact app_at c _ _ _ (by simpa using h)
theorem lsn (s : Nat) (c : List Int32) (x : Int32) : s + (c ++ [x]).length = s + c.length + 1 := by
  rw [List.length_append, List.length_singleton]
  omega
def SpO (g : fp_G) (n : Nat) (B : Nat → Int32) (lvl k : Nat) (r : Int32 → fp_G → (Int32 → fp_G → Prop) → Prop) : Prop :=
  (∀ p s st K, p ≤ n → s ≤ p → (∀ q c f, PX B k lvl p q c f → c.length + p ≤ q → p < q → q ≤ n → (1 ≤ lvl → B q ≠ 38) → (2 ≤ lvl → B q ≠ 124) → K 0 (AL g n B q (s + c.length) (app st s c))) → (∀ q s' st', FX B k lvl p q → q ≤ 60 → s' ≤ 60 → K 0 (DD g n q s' st')) → r (nI k) (AL g n B p s st) K) ∧
  (∀ q s st K, q ≤ 60 → s ≤ 60 → (∀ s' st', s' ≤ 60 → K 0 (DD g n q s' st')) → r (nI k) (DD g n q s st) K)
section
variable {g : fp_G} {n : Nat} {B : Nat → Int32}
theorem sp_ands (hT : TP g n B) {k : Nat} {r : Int32 → fp_G → (Int32 → fp_G → Prop) → Prop} (hr : SpO g n B 0 k r) : SpO g n B 1 k (w_X5_ands_s r) := by
  have hn := hT.1
  have dead : ∀ N q s st K i, 1 ≤ N → s ≤ 60 → (∀ s' st', s' ≤ 60 → K 0 (DD g n q s' st')) → w_X5_ands_7 N r (nI k) (nI i) (DD g n q s st) K := by
    intro N q s st K i hN hs hk
    match N, hN with
    | N + 1, _ =>
      rw [w_X5_ands_7]
      exact is (fun _ => hk s st hs) (fun _ => d5_take (by decide) (it rfl (hk s st hs)))
  constructor
  · intro p s st K hp hs ok no
    have loop : ∀ N i q c f, PX B k 1 p q c f → c.length + p ≤ q → p < q → q ≤ n → i < q → n - q < N → w_X5_ands_7 N r (nI k) (nI i) (AL g n B q (s + c.length) (app st s c)) K := by
      intro N
      induction N with
      | zero => exact fun i q c f _ _ _ _ _ h => absurd h (by omega)
      | succ N ih =>
        intro i q c f hx hc hpq hq hi hN
        rw [w_X5_ands_7]
        refine ie ?_ ?_
        · show ¬ nI 60 ≤ nI i
          rw [le_n (by omega) (by omega)]
          omega
        by_cases e : B q = 38
        · have hl := hT.lt (p := q) (by rw [e]; decide)
          refine s5_takeT hT (by omega) e (ie (by decide) (hr.1 (q + 1) (s + c.length) (app st s c) _ (by omega) (by omega) (fun q2 d h hx2 hd hq2 hq3 _ _ => ?_) (fun q2 s' st' hf h60 hs' => ?_)))
          · refine s5_write (by omega) ?_
            rw [app_app, show s + c.length + d.length = s + (c ++ d).length by rw [List.length_append]; omega, app_snoc, show nI i + 1 = nI (i + 1) from (nI_succ i).symm]
            have := ih (i + 1) q2 (c ++ d ++ [-2]) _ (PX_and2 hx e hx2) (by simp only [List.length_append, List.length_singleton]; omega) (by omega) hq3 (by omega) (by omega)
            rw [lsn] at this
            exact this
          · refine d5_write hs' (fun s2 st2 hs2 => ?_)
            rw [show nI i + 1 = nI (i + 1) from (nI_succ i).symm]
            exact dead N q2 s2 st2 K (i + 1) (by omega) hs2 (fun s3 st3 h3 => no q2 s3 st3 (FX_and2 hx e hf) h60 h3)
        · exact s5_takeF e (it rfl (ok q c f hx hc hpq hq (fun _ => e) (fun z => absurd z (by omega))))
    unfold w_X5_ands_s
    refine hr.1 p s st _ hp hs (fun q c f hx hc hpq hq _ _ => ⟨n - q + 1, loop _ 0 q c f (PX_and1 hx) hc hpq hq (by omega) (by omega)⟩) (fun q s' st' hf h60 hs' => ⟨1, ?_⟩)
    exact dead 1 q s' st' K 0 (by omega) hs' (fun s3 st3 h3 => no q s3 st3 (FX_and1 hf) h60 h3)
  · intro q s st K hq hs hk
    unfold w_X5_ands_s
    exact hr.2 q s st _ hq hs (fun s' st' hs' => ⟨1, dead 1 q s' st' K 0 (by omega) hs' hk⟩)
theorem sp_ors (hT : TP g n B) {k : Nat} {r : Int32 → fp_G → (Int32 → fp_G → Prop) → Prop} (hr : SpO g n B 1 k r) : SpO g n B 2 k (w_X5_ors_s r) := by
  have hn := hT.1
  have dead : ∀ N q s st K i, 1 ≤ N → s ≤ 60 → (∀ s' st', s' ≤ 60 → K 0 (DD g n q s' st')) → w_X5_ors_7 N r (nI k) (nI i) (DD g n q s st) K := by
    intro N q s st K i hN hs hk
    match N, hN with
    | N + 1, _ =>
      rw [w_X5_ors_7]
      exact is (fun _ => hk s st hs) (fun _ => d5_take (by decide) (it rfl (hk s st hs)))
  constructor
  · intro p s st K hp hs ok no
    have loop : ∀ N i q c f, PX B k 2 p q c f → c.length + p ≤ q → p < q → q ≤ n → B q ≠ 38 → i < q → n - q < N → w_X5_ors_7 N r (nI k) (nI i) (AL g n B q (s + c.length) (app st s c)) K := by
      intro N
      induction N with
      | zero => exact fun i q c f _ _ _ _ _ _ h => absurd h (by omega)
      | succ N ih =>
        intro i q c f hx hc hpq hq h38 hi hN
        rw [w_X5_ors_7]
        refine ie ?_ ?_
        · show ¬ nI 60 ≤ nI i
          rw [le_n (by omega) (by omega)]
          omega
        by_cases e : B q = 124
        · have hl := hT.lt (p := q) (by rw [e]; decide)
          refine s5_takeT hT (by omega) e (ie (by decide) (hr.1 (q + 1) (s + c.length) (app st s c) _ (by omega) (by omega) (fun q2 d h hx2 hd hq2 hq3 h38' _ => ?_) (fun q2 s' st' hf h60 hs' => ?_)))
          · refine s5_write (by omega) ?_
            rw [app_app, show s + c.length + d.length = s + (c ++ d).length by rw [List.length_append]; omega, app_snoc, show nI i + 1 = nI (i + 1) from (nI_succ i).symm]
            have := ih (i + 1) q2 (c ++ d ++ [-3]) _ (PX_or2 hx e hx2) (by simp only [List.length_append, List.length_singleton]; omega) (by omega) hq3 (h38' (by omega)) (by omega) (by omega)
            rw [lsn] at this
            exact this
          · refine d5_write hs' (fun s2 st2 hs2 => ?_)
            rw [show nI i + 1 = nI (i + 1) from (nI_succ i).symm]
            exact dead N q2 s2 st2 K (i + 1) (by omega) hs2 (fun s3 st3 h3 => no q2 s3 st3 (FX_or2 hx e hf) h60 h3)
        · exact s5_takeF e (it rfl (ok q c f hx hc hpq hq (fun _ => h38) (fun _ => e)))
    unfold w_X5_ors_s
    refine hr.1 p s st _ hp hs (fun q c f hx hc hpq hq h38 _ => ⟨n - q + 1, loop _ 0 q c f (PX_or1 hx) hc hpq hq (h38 (by omega)) (by omega) (by omega)⟩) (fun q s' st' hf h60 hs' => ⟨1, ?_⟩)
    exact dead 1 q s' st' K 0 (by omega) hs' (fun s3 st3 h3 => no q s3 st3 (FX_or1 hf) h60 h3)
  · intro q s st K hq hs hk
    unfold w_X5_ors_s
    exact hr.2 q s st _ hq hs (fun s' st' hs' => ⟨1, dead 1 q s' st' K 0 (by omega) hs' hk⟩)
theorem sp_test (hT : TP g n B) {k : Nat} (hk5 : k ≤ 5) {rT rO : Int32 → fp_G → (Int32 → fp_G → Prop) → Prop} (hr : k < 5 → SpO g n B 0 (k + 1) rT ∧ SpO g n B 2 (k + 1) rO) : SpO g n B 0 k (w_X5_test_s rT rO) := by
  have hn := hT.1
  have ek : nI k + 1 = nI (k + 1) := (nI_succ k).symm
  constructor
  · intro p s st K hp hs ok no
    unfold w_X5_test_s
    have deep : (B p = 33 ∨ B p = 40) → 5 ≤ k → w_X5_fail (AL g n B p s st) (fun _ g12 => K 0 g12) := fun h1 h2 => s5_fail (no p s st (FX_deep h1 (by omega)) (by omega) (by omega))
    have k5 : (nI k < 5) = (nI k < nI 5) := rfl
    refine j_I (j_I (is (fun c => ?_) (fun c => is (fun c2 => ?_) (fun c2 => ?_))))
    · have c : B p = 33 := c
      have hl := hT.lt (p := p) (by rw [c]; decide)
      refine j_I (ie (by decide) (is (fun h5 => ?_) (fun h5 => deep (Or.inl c) (by rw [k5, lt_n (by omega) (by omega)] at h5; omega))))
      rw [k5, lt_n (by omega) (by omega)] at h5
      refine s5_takeT hT (by omega) c (ie (by decide) ?_)
      rw [ek]
      refine (hr h5).1.1 (p + 1) s st _ (by omega) (by omega) (fun q c2 f hx hc hpq hq _ _ => ?_) (fun q s' st' hf h60 hs' => d5_write hs' (fun s2 st2 h2 => no q s2 st2 (FX_neg c h5 hf) h60 h2))
      refine s5_write (by omega) ?_
      rw [app_snoc]
      have := ok q (c2 ++ [-1]) _ (PX_neg c h5 hx) (by simp only [List.length_append, List.length_singleton]; omega) (by omega) hq (fun z => absurd z (by omega)) (fun z => absurd z (by omega))
      rw [lsn] at this
      exact this
    · have c : B p ≠ 33 := c
      have c2 : B p = 40 := c2
      have hl := hT.lt (p := p) (by rw [c2]; decide)
      refine j_I (ie (by decide) (is (fun h5 => ?_) (fun h5 => deep (Or.inr c2) (by rw [k5, lt_n (by omega) (by omega)] at h5; omega))))
      rw [k5, lt_n (by omega) (by omega)] at h5
      refine s5_takeF c (it rfl (s5_takeT hT (by omega) c2 (ie (by decide) ?_)))
      rw [ek]
      refine (hr h5).2.1 (p + 1) s st _ (by omega) (by omega) (fun q c3 f hx hc hpq hq h38 h124 => ?_) (fun q s' st' hf h60 hs' => d5_take (by decide) (it rfl (d5_fail h60 (no q s' st' (FX_par c2 h5 hf) h60 hs'))))
      by_cases e : B q = 41
      · have hl2 := hT.lt (p := q) (by rw [e]; decide)
        exact s5_takeT hT (by omega) e (ie (by decide) (ok (q + 1) c3 f (PX_par c2 h5 hx e) (by omega) (by omega) (by omega) (fun z => absurd z (by omega)) (fun z => absurd z (by omega))))
      · exact s5_takeF e (it rfl (s5_fail (no q _ _ (FX_par2 c2 h5 hx e (h38 (by omega)) (h124 (by omega))) (by omega) (by omega))))
    · have c : B p ≠ 33 := c
      have c2 : B p ≠ 40 := c2
      refine j_I (it rfl (s5_takeF c (it rfl (s5_takeF c2 (it rfl (s5_unit hT hp (fun q u hu hq hpq hu9 => ?_) (fun hno => ?_)))))))
      · refine s5_sign hT (fun i hi ei hqn => s5_unit hT (by omega) (fun r v hv hrn hqr hv9 => ?_) (fun hno => ?_)) (fun hno => ?_)
        · refine s5_write (by omega) ?_
          exact ok r [encS u i v] _ (PX_cmp c c2 hu hu9 hi ei hv hv9) (by simp only [List.length_singleton]; omega) (by omega) hrn (fun z => absurd z (by omega)) (fun z => absurd z (by omega))
        · exact d5_write (by omega) (fun s2 st2 h2 => no (q + 1) s2 st2 (FX_u2 c c2 hu hi ei hno) (by omega) h2)
        · exact d5_unit (by omega) (d5_write (by omega) (fun s2 st2 h2 => no q s2 st2 (FX_sg c c2 hu hno) (by omega) h2))
      · exact d5_sign (by omega) (d5_unit (by omega) (d5_write (by omega) (fun s2 st2 h2 => no p s2 st2 (FX_u1 c c2 hno) (by omega) h2)))
  · intro q s st K hq hs hk
    unfold w_X5_test_s
    refine j_I (j_I (ie (show ¬ (0 : Int32) = 33 by decide) (ie (show ¬ (0 : Int32) = 40 by decide) (j_I (it rfl (d5_take (by decide) (it rfl (d5_take (by decide) (it rfl (d5_unit hq (d5_sign hq (d5_unit hq (d5_write hs hk)))))))))))))
theorem sp_all (hT : TP g n B) : ∀ d k, k ≤ 5 → 6 ≤ d + k → SpO g n B 0 k (w_X5_test d) := by
  intro d
  induction d with
  | zero => exact fun k h1 h2 => absurd h2 (by omega)
  | succ d ih =>
    intro k h1 h2
    have := sp_test hT (k := k) h1 (rT := w_X5_test d) (rO := w_X5_ors_s (w_X5_ands_s (w_X5_test d))) (fun h5 => ⟨ih (k + 1) (by omega) (by omega), sp_ors hT (sp_ands hT (ih (k + 1) (by omega) (by omega)))⟩)
    exact this
/-- what reading a whole text comes to -/
theorem s5_readText (hT : TP g n B) {K : Int32 → fp_G → Prop} (ok : ∀ c f st, PX B 0 2 0 n c f → c.length ≤ n → K (-1) (AL g n B n c.length (app st 0 c))) (no : ∀ q s st, FX B 0 2 0 q ∨ (∃ c f, PX B 0 2 0 q c f ∧ q < n ∧ B q ≠ 38 ∧ B q ≠ 124) → q ≤ 60 → s ≤ 60 → K (nI q) (DD g n q s st)) : w_X5_readText (nI n) g K := by
  have hn := hT.1
  unfold w_X5_readText
  refine pf_i (pf_i (pf_i ?_))
  rw [show (if (60 : Int32) < nI n then (60 : Int32) else nI n) = nI n from if_neg (by rw [show (60 : Int32) = nI 60 from rfl, lt_n (by omega) (by omega)]; omega)]
  have e0 : gu (gu (gu g 34 3 (nI n)) 34 2 0) 34 5 (-1) = RS g n (nI 0) (g 34 4) (-1) (g 34 6) (g 36) := by
    funext a i
    unfold RS
    by_cases h : a = 34
    · subst h
      show _ = RSf g n (nI 0) (g 34 4) (-1) (g 34 6) i
      unfold RSf
      by_cases h2 : i = 2
      · subst h2; rfl
      by_cases h3 : i = 3
      · subst h3; rfl
      by_cases h4 : i = 4
      · subst h4; rfl
      by_cases h5 : i = 5
      · subst h5; rfl
      by_cases h6 : i = 6
      · subst h6; rfl
      simp [gu, h2, h3, h4, h5, h6]
    · by_cases h2 : a = 36
      · subst h2
        rfl
      · simp [gu, gc, h, h2]
  rw [e0]
  refine s5_goTo (p := 0) hT (by omega) ?_
  have sp := sp_ors hT (sp_ands hT (sp_all hT 7 0 (by omega) (by omega)))
  unfold w_X5_ors
  refine sp.1 0 0 (g 36) _ (by omega) (by omega) (fun q c f hx hc hpq hq h38 h124 => j_I (is (fun e => ?_) (fun e => s5_fail ?_))) (fun q s' st' hf h60 hs' => j_I (is (fun e => ?_) (fun e => d5_fail h60 ?_)))
  · have e : nI n ≤ nI q := e
    rw [le_n (by omega) (by omega)] at e
    have : q = n := by omega
    subst this
    rw [Nat.zero_add]
    exact ok c f (g 36) hx (by omega)
  · have e : ¬ nI n ≤ nI q := e
    rw [le_n (by omega) (by omega)] at e
    exact no q _ _ (Or.inr ⟨c, f, hx, by omega, h38 (by omega), h124 (by omega)⟩) (by omega) (by omega)
  · exact no q s' st' (Or.inl hf) h60 hs'
  · exact no q s' st' (Or.inl hf) h60 hs'
end
