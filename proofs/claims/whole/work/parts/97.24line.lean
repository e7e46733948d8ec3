/-! ===== arrivals and the line of the class ===== -/
def insB (B : Nat → Nat) (p x : Nat) : Nat → Nat := fun i => if i < p then B i else if i = p then x else B (i - 1)
theorem sN_ins (G : Nat → Nat) (B : Nat → Nat) (p x : Nat) : ∀ n, p ≤ n → sN (fun i => G (insB B p x i)) (n + 1) = sN (fun i => G (B i)) n + G x := by
  intro n hn
  obtain ⟨d, rfl⟩ : ∃ d, n = p + d := ⟨n - p, by omega⟩
  induction d with
  | zero =>
    show sN (fun i => G (insB B p x i)) p + G (insB B p x p) = sN (fun i => G (B i)) p + G x
    have e1 : sN (fun i => G (insB B p x i)) p = sN (fun i => G (B i)) p := sN_cong p (fun i hi => by unfold insB; rw [if_pos hi])
    have e2 : insB B p x p = x := by unfold insB; rw [if_neg (by omega), if_pos rfl]
    rw [e1, e2]
  | succ d ih =>
    have ih := ih (by omega)
    have e2 : insB B p x (p + d + 1) = B (p + d) := by unfold insB; rw [if_neg (by omega), if_neg (by omega)]; rfl
    show sN (fun i => G (insB B p x i)) (p + d + 1) + G (insB B p x (p + d + 1)) = (sN (fun i => G (B i)) (p + d) + G (B (p + d))) + G x
    rw [ih, e2]
    omega
theorem ord_ins {R : Nat → Nat → Prop} {B : Nat → Nat} {p x n : Nat} (hp : p ≤ n) (h : ∀ i j, i < j → j < n → R (B i) (B j)) (h1 : ∀ i, i < p → R (B i) x) (h2 : ∀ i, p ≤ i → i < n → R x (B i)) : ∀ i j, i < j → j < n + 1 → R (insB B p x i) (insB B p x j) := by
  intro i j hij hj
  unfold insB
  by_cases a : i < p
  · rw [if_pos a]
    by_cases b : j < p
    · rw [if_pos b]
      exact h i j hij (by omega)
    · rw [if_neg b]
      by_cases c : j = p
      · rw [if_pos c]
        exact h1 i a
      · rw [if_neg c]
        exact h i (j - 1) (by omega) (by omega)
  · rw [if_neg a, if_neg (by omega : ¬ j < p), if_neg (by omega : ¬ j = p)]
    by_cases c : i = p
    · rw [if_pos c]
      exact h2 (j - 1) (by omega) (by omega)
    · rw [if_neg c]
      exact h (i - 1) (j - 1) (by omega) (by omega)
def OKT (n : Nat) (D : fp_G) (T X : Nat → Int32) : Prop := ∀ m, m < n → ∀ j, j < tn (D 6 m) → j < 40 → X (40 * m + j) = T (40 * m + j)
def CT (c : Nat) (g0 g D : fp_G) (T : Nat → Int32) : Prop := CS c g0 g D ∧ (c = 43 → OKT (nMa g0) D T (g 51))
theorem by_o : ∀ o, o < 12 → vp_nar .byte ((nI o).toInt8.toInt32) = nI o := by decide
theorem OKT_step {n k m : Nat} {D : fp_G} {T X : Nat → Int32} (h : OKT n D T X) (ek : D 6 m = nI k) (hk : k ≤ 5000) : OKT n (comD D m) (if k < 40 then upd T (40 * m + k) (D 2 m) else T) (if k < 40 then upd X (40 * m + k) (D 2 m) else X) := by
  intro m' hm' j hj h40
  by_cases z : m' = m
  · subst z
    have e6 : tn (comD D m' 6 m') = k + 1 := by
      unfold comD
      rw [gu_s, ek, show nI k + 1 = nI (k + 1) from (nI_succ k).symm, tn_n (by omega)]
    rw [e6] at hj
    by_cases c : k < 40
    · rw [if_pos c, if_pos c]
      by_cases z2 : j = k
      · subst z2
        rw [upd_s, upd_s]
      · rw [upd_n _ _ (by omega), upd_n _ _ (by omega)]
        exact h m' hm' j (by rw [ek, tn_n (by omega)]; omega) h40
    · rw [if_neg c, if_neg c]
      exact h m' hm' j (by rw [ek, tn_n (by omega)]; omega) h40
  · have e6 : comD D m 6 m' = D 6 m' := by
      unfold comD
      simp [gu, z]
    rw [e6] at hj
    have := h m' hm' j hj h40
    by_cases c : k < 40
    · rw [if_pos c, if_pos c, upd_n _ _ (by omega), upd_n _ _ (by omega)]
      exact this
    · rw [if_neg c, if_neg c]
      exact this
theorem s0_arrive {c h : Nat} {g0 g D : fp_G} {T : Nat → Int32} {K : Int32 → fp_G → Prop} (hc : isC c) (hn : nMa g0 ≤ 60) (hO : nO g0 ≤ 12) (hI : IV g0 D h) (hh : h ≤ 4000) (hs : CT c g0 g D T)
    (k : ∀ g', CT c g0 g' (arrD D h (nMa g0)) (arrT D T h (nMa g0)) → K 0 g') : w_X0_arrive c (nI (nMa g0)) (nI h) g K := by
  unfold w_X0_arrive
  refine ⟨nMa g0 + 1, ?_⟩
  have hc2 : 43 ≤ c := by rcases hc with rfl | rfl <;> omega
  have loop : ∀ r j g, j + r = nMa g0 → CT c g0 g (arrD D h j) (arrT D T h j) → w_X0_arrive_2 (r + 1) c (nI (nMa g0)) (nI h) (nI j) g K := by
    intro r
    induction r with
    | zero =>
      intro j g hj hs
      have hj : j = nMa g0 := by omega
      rw [w_X0_arrive_2]
      rw [hj] at hs
      exact it (by rw [hj]; exact end_c rfl) (k g hs)
    | succ r ih =>
      intro j g hj hs
      rw [w_X0_arrive_2]
      have r1 : g (c + 1) j = arrD D h j 1 j := hs.1.at (by omega) (by omega) (by omega)
      have r3 : g (c + 3) j = arrD D h j 3 j := hs.1.at (by omega) (by omega) (by omega)
      have r2 : g (c + 2) j = arrD D h j 2 j := hs.1.at (by omega) (by omega) (by omega)
      obtain ⟨⟨o, ho, eo⟩, _, kk, hk, ek⟩ := hI j (by omega)
      have eo' : arrD D h j 2 j = nI o := by rw [arrD_o D h 2 j j (Nat.le_refl _)]; exact eo
      have ek' : arrD D h j 6 j = nI kk := by rw [arrD_o D h 6 j j (Nat.le_refl _)]; exact ek
      rw [show nI j + 1 = nI (j + 1) from (nI_succ j).symm]
      have nx : ¬ (arrD D h j 1 j = 1 ∧ arrD D h j 3 j = nI h) → w_X0_arrive_2 (r + 1) c (nI (nMa g0)) (nI h) (nI (j + 1)) g K := by
        intro z
        refine ih (j + 1) g (by omega) ?_
        rw [arrD, arrT]
        unfold arr1
        rw [if_neg z, if_neg (fun y => z ⟨y.1, y.2.1⟩)]
        exact hs
      refine ie (nend_c rfl (by omega) (by omega)) (rd_v rfl (by omega) (by omega) r1 (j_I (is (fun c1 => rd_v rfl (by omega) (by omega) r3 (is (fun c3 => ?_) (fun c3 => nx (fun z => c3 z.2)))) (fun c1 => nx (fun z => c1 z.1)))))
      unfold w_X0_come
      have hs1 : CS c g0 (gu g (c + 1) j 0) (gu (arrD D h j) 1 j 0) := CS_w hs.1 (by omega) (by omega) (by omega) _
      have e6 : (gu g (c + 1) j 0) (c + 6) j = nI kk := by
        rw [hs1.at (by omega) (by omega) (by omega), gu_k _ _ _ (by decide)]
        exact ek'
      have e2 : (gu g (c + 1) j 0) (c + 2) j = nI o := by
        rw [hs1.at (by omega) (by omega) (by omega), gu_k _ _ _ (by decide)]
        exact eo'
      refine wr_n (k := j) (by omega) (by omega) (rd_v rfl (by omega) (by omega) e6 (rd_v rfl (by omega) (by omega) e6 (j_I ?_)))
      have fin : ∀ G, CS c g0 G (gu (arrD D h j) 1 j 0) → (c = 43 → G 51 = if kk < 40 then upd (g 51) (40 * j + kk) (nI o) else g 51) → (fp_rd (G (c + 6)) 60 (nI j) fun v3 => fp_wr G (c + 6) 60 (nI j) (v3 + 1) fun g3 => w_X0_arrive_2 (r + 1) c (nI (nMa g0)) (nI h) (nI (j + 1)) g3 K) := by
        intro G hG h51
        have e6' : G (c + 6) j = nI kk := by
          rw [hG.at (by omega) (by omega) (by omega), gu_k _ _ _ (by decide)]
          exact ek'
        refine rd_v rfl (by omega) (by omega) e6' (wr_n (k := j) (by omega) (by omega) (ih (j + 1) _ (by omega) ⟨?_, fun c43 => ?_⟩))
        · rw [arrD]
          unfold arr1
          rw [if_pos ⟨c1, c3⟩]
          unfold comD
          rw [ek']
          exact CS_w hG (by omega) (by omega) (by omega) _
        · have st := OKT_step (hs.2 c43) ek' (by omega)
          rw [arrD, arrT]
          unfold arr1
          rw [if_pos ⟨c1, c3⟩]
          subst c43
          have e51 : gu G (43 + 6) j (nI kk + 1) 51 = G 51 := gu_k _ _ _ (by decide)
          rw [e51, h51 rfl, ek', tn_n (by omega)]
          rw [eo'] at st ⊢
          by_cases c40 : kk < 40
          · rw [if_pos ⟨c1, c3, by rw [show (40 : Int32) = nI 40 from rfl, lt_n (by omega) (by omega)]; exact c40⟩]
            rw [if_pos c40, if_pos c40] at st
            rw [if_pos c40]
            exact st
          · rw [if_neg (fun y => c40 (by have := y.2.2; rw [show (40 : Int32) = nI 40 from rfl, lt_n (by omega) (by omega)] at this; exact this))]
            rw [if_neg c40, if_neg c40] at st
            rw [if_neg c40]
            exact st
      have e51 : (gu g (c + 1) j 0) 51 = g 51 ∨ c ≠ 43 := by
        by_cases z : c = 43
        · subst z
          exact Or.inl (gu_k _ _ _ (by decide))
        · exact Or.inr z
      rw [show (40 : Int32) = nI 40 from rfl]
      refine is (fun c40 => fin _ hs1 (fun c43 => ?_)) (fun c40 => ?_)
      · rw [le_n (by omega) (by omega)] at c40
        rw [if_neg (by omega)]
        exact e51.elim id (fun z => absurd c43 z)
      · rw [le_n (by omega) (by omega)] at c40
        rw [show nI j * nI 40 + nI kk = nI (40 * j + kk) from ix_mul j 40 kk]
        rcases hc with rfl | rfl
        · refine ie ?_ (rd_v rfl (by omega) (by omega) e2 (wr_n (k := 40 * j + kk) (show 40 * j + kk < 2400 by omega) (by decide) ?_))
          · show ¬ nI 2400 ≤ nI (40 * j + kk)
            rw [le_n (by omega) (by omega)]
            omega
          · rw [by_o o (by omega)]
            refine fin _ (CS_gu (Or.inl rfl) hs1 (q := 43 + 8) (by omega) _ _) (fun _ => ?_)
            rw [if_pos (by omega)]
            show gu (gu g (43 + 1) j 0) 51 (40 * j + kk) (nI o) 51 = _
            rw [gu_f, e51.elim id (fun z => absurd rfl z)]
        · refine it ?_ (fin _ hs1 (fun z => absurd z (by decide)))
          show nI 0 ≤ nI (40 * j + kk)
          rw [le_n (by omega) (by omega)]
          omega
  exact loop (nMa g0) 0 g (by omega) hs
def QL (A : fp_G) (j sz : Nat) (Q : Nat → Nat) : Prop := sz ≤ j ∧ (∀ i, i < sz → Q i < j ∧ A 1 (Q i) = 0) ∧ (∀ i i2, i < i2 → i2 < sz → lexB A (Q i) (Q i2) = true) ∧ ∀ G : Nat → Nat, sN (fun i => G (Q i)) sz = sN (fun m => if A 1 m = 0 then G m else 0) j
theorem QL_skip {A : fp_G} {j sz : Nat} {Q : Nat → Nat} (h : QL A j sz Q) (hj : ¬ A 1 j = 0) : QL A (j + 1) sz Q := by
  refine ⟨by have := h.1; omega, fun i hi => ⟨by have := (h.2.1 i hi).1; omega, (h.2.1 i hi).2⟩, h.2.2.1, fun G => ?_⟩
  rw [h.2.2.2 G]
  show _ = sN (fun m => if A 1 m = 0 then G m else 0) j + (if A 1 j = 0 then G j else 0)
  rw [if_neg hj]
  rfl
theorem QL_ins {A : fp_G} {j sz p : Nat} {Q : Nat → Nat} (h : QL A j sz Q) (hj : A 1 j = 0) (hp : p ≤ sz) (h1 : 0 < p → ¬ A 3 j < A 3 (Q (p - 1))) (h2 : ∀ i, p ≤ i → i < sz → A 3 j < A 3 (Q i)) : QL A (j + 1) (sz + 1) (insB Q p j) := by
  have le3 : ∀ i i2, i < i2 → i2 < sz → ¬ A 3 (Q i2) < A 3 (Q i) := by
    intro i i2 a b
    have := h.2.2.1 i i2 a b
    unfold lexB at this
    simp only [Bool.or_eq_true, Bool.and_eq_true, decide_eq_true_eq] at this
    rcases this with z | ⟨z, _⟩
    · rw [lt_I] at *
      omega
    · rw [z, lt_I]
      omega
  refine ⟨by have := h.1; omega, fun i hi => ?_, ?_, fun G => ?_⟩
  · unfold insB
    by_cases a : i < p
    · rw [if_pos a]
      have := h.2.1 i (by omega)
      exact ⟨by omega, this.2⟩
    · rw [if_neg a]
      by_cases b : i = p
      · rw [if_pos b]
        exact ⟨by omega, hj⟩
      · rw [if_neg b]
        have := h.2.1 (i - 1) (by omega)
        exact ⟨by omega, this.2⟩
  · refine ord_ins (R := fun a b => lexB A a b = true) hp h.2.2.1 (fun i hi => ?_) (fun i a b => ?_)
    · have n1 : ¬ A 3 j < A 3 (Q i) := by
        by_cases z : i = p - 1
        · subst z
          exact h1 (by omega)
        · have a1 := le3 i (p - 1) (by omega) (by omega)
          have a2 := h1 (by omega)
          rw [lt_I] at *
          omega
      have hq := (h.2.1 i (by omega)).1
      unfold lexB
      simp only [Bool.or_eq_true, Bool.and_eq_true, decide_eq_true_eq]
      by_cases z : A 3 (Q i) = A 3 j
      · exact Or.inr ⟨z, hq⟩
      · left
        rw [eq_I] at z
        rw [lt_I] at *
        omega
    · unfold lexB
      rw [decide_eq_true (h2 i a b), Bool.true_or]
  · rw [sN_ins G Q p j sz hp, h.2.2.2 G]
    show _ = sN (fun m => if A 1 m = 0 then G m else 0) j + (if A 1 j = 0 then G j else 0)
    rw [if_pos hj]
def RQ (g : fp_G) (sz : Nat) (Q : Nat → Nat) : Prop := ∀ i, i < sz → g 3 i = nI (Q i)
theorem s4_lineUp {c : Nat} {g0 g A : fp_G} {T : Nat → Int32} {K : Int32 → fp_G → Prop} (hc : isC c) (hn : nMa g0 ≤ 60) (h5 : g0 37 5 = nI (nMa g0)) (hs : CT c g0 g A T)
    (k : ∀ g' sz Q, CT c g0 g' A T → QL A (nMa g0) sz Q → RQ g' sz Q → K (nI sz) g') : w_X4_lineUp c g K := by
  unfold w_X4_lineUp
  refine ⟨nMa g0 + 1, ?_⟩
  have hc2 : 43 ≤ c := by rcases hc with rfl | rfl <;> omega
  have ct3 : ∀ G f, CT c g0 G A T → CT c g0 (gc G 3 f) A T := fun G f hG => ⟨CS_gc hc hG.1 (by omega) f, fun c43 => by rw [gc_k _ _ (by decide)]; exact hG.2 c43⟩
  have loop : ∀ r j g sz Q, j + r = nMa g0 → CT c g0 g A T → QL A j sz Q → RQ g sz Q → w_X4_lineUp_4 (r + 1) c (nI sz) (nI j) g K := by
    intro r
    induction r with
    | zero =>
      intro j g sz Q hj hs hq hr
      have hj : j = nMa g0 := by omega
      rw [w_X4_lineUp_4]
      rw [hj] at hq
      refine it ?_ (k g sz Q hs hq hr)
      rw [hj]
      exact end_c (by rw [hs.1.1 37 5 (by omega)]; exact h5)
    | succ r ih =>
      intro j g sz Q hj hs hq hr
      have hsz := hq.1
      rw [w_X4_lineUp_4]
      have r1 : g (c + 1) j = A 1 j := hs.1.at (by omega) (by omega) (by omega)
      rw [show nI j + 1 = nI (j + 1) from (nI_succ j).symm]
      refine ie (nend_c (n := nMa g0) (by rw [hs.1.1 37 5 (by omega)]; exact h5) (by omega) (by omega)) (rd_v rfl (by omega) (by omega) r1 (j_I (is (fun c1 => ⟨sz + 1, ?_⟩) (fun c1 => ih (j + 1) g sz Q (by omega) hs (QL_skip hq c1) hr))))
      have inner : ∀ p f, p ≤ sz → (∀ i, i < p → f i = nI (Q i)) → (∀ i, p < i → i ≤ sz → f i = nI (Q (i - 1))) → (∀ i, p ≤ i → i < sz → A 3 j < A 3 (Q i)) →
          w_X4_lineUp_27 (p + 1) c (nI sz) (nI j) (nI p) (gc g 3 f) K (fun v6 g3 => fp_wr g3 3 60 v6 (nI j) fun g4 => w_X4_lineUp_4 (r + 1) c (nI sz + 1) (nI (j + 1)) g4 K) := by
        have stop : ∀ p f, p ≤ sz → (∀ i, i < p → f i = nI (Q i)) → (∀ i, p < i → i ≤ sz → f i = nI (Q (i - 1))) → (0 < p → ¬ A 3 j < A 3 (Q (p - 1))) → (∀ i, p ≤ i → i < sz → A 3 j < A 3 (Q i)) → (fp_wr (gc g 3 f) 3 60 (nI p) (nI j) fun g4 => w_X4_lineUp_4 (r + 1) c (nI sz + 1) (nI (j + 1)) g4 K) := by
          intro p f hp f1 f2 h1 h2
          refine wr_n (k := p) (by omega) (by omega) ?_
          rw [gcu_s, show nI sz + 1 = nI (sz + 1) from (nI_succ sz).symm]
          refine ih (j + 1) _ (sz + 1) (insB Q p j) (by omega) (ct3 g _ hs) (QL_ins hq c1 hp h1 h2) (fun i hi => ?_)
          show upd f p (nI j) i = nI (insB Q p j i)
          unfold insB
          by_cases a : i < p
          · rw [upd_n _ _ (by omega), if_pos a]
            exact f1 i a
          · rw [if_neg a]
            by_cases b : i = p
            · subst b
              rw [upd_s, if_pos rfl]
            · rw [upd_n _ _ b, if_neg b]
              exact f2 i (by omega) (by omega)
        intro p
        induction p with
        | zero =>
          intro f hp f1 f2 h2
          rw [w_X4_lineUp_27]
          exact it (show nI 0 ≤ 0 by decide) (stop 0 f hp f1 f2 (fun z => absurd z (by omega)) h2)
        | succ p ihp =>
          intro f hp f1 f2 h2
          rw [w_X4_lineUp_27]
          have e1 : nI (p + 1) - 1 = nI p := by rw [nI_succ]; exact inc_dec p
          have hqp := (hq.2.1 p (by omega)).1
          have e3 : gc g 3 f 3 p = nI (Q p) := f1 p (by omega)
          have rQ : gc g 3 f (c + 3) (Q p) = A 3 (Q p) := (ct3 g f hs).1.at (by omega) (by omega) (by omega)
          have rj : gc g 3 f (c + 3) j = A 3 j := (ct3 g f hs).1.at (by omega) (by omega) (by omega)
          rw [show nI (p + 1) + -1 = nI p by rw [← Int32.sub_eq_add_neg]; exact e1]
          refine ie ?_ (rd_v e1 (by omega) (by omega) e3 (rd_v rfl (by omega) (by omega) rQ (rd_v rfl (by omega) (by omega) rj (is (fun c3 => stop (p + 1) f hp f1 f2 (fun _ => ?_) h2) (fun c3 => rd_v e1 (by omega) (by omega) e3 (wr_n (k := p + 1) (by omega) (by omega) ?_))))))
          · show ¬ nI (p + 1) ≤ nI 0
            rw [le_n (by omega) (by omega)]
            omega
          · show ¬ A 3 j < A 3 (Q p)
            rw [le_I] at c3
            rw [lt_I]
            omega
          · rw [gcu_s]
            refine ihp _ (by omega) (fun i hi => ?_) (fun i hi hi2 => ?_) (fun i hi hi2 => ?_)
            · rw [upd_n _ _ (by omega)]
              exact f1 i (by omega)
            · by_cases z : i = p + 1
              · subst z
                rw [upd_s]
                rfl
              · rw [upd_n _ _ z]
                exact f2 i (by omega) hi2
            · by_cases z : i = p
              · subst z
                rw [le_I] at c3
                rw [lt_I]
                omega
              · exact h2 i (by omega) hi2
      have main := inner sz (g 3) (Nat.le_refl _) hr (fun i hi hi2 => absurd hi (by omega)) (fun i hi hi2 => absurd hi (by omega))
      rw [gc_id] at main
      exact main
  exact loop (nMa g0) 0 g 0 (fun _ => 0) (by omega) hs ⟨by omega, fun i hi => absurd hi (by omega), fun i i2 _ hi => absurd hi (by omega), fun G => rfl⟩ (fun i hi => absurd hi (by omega))
