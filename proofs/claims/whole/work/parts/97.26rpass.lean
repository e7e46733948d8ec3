/-! ===== the reference passes an hour ===== -/
def FK (gs g : fp_G) : Prop := ∀ q, (113 ≤ q ∧ q ≤ 119) → g q = gs q
def RP (g0 gs g D : fp_G) (T : Nat → Int32) : Prop := RR g0 g D ∧ OKT (nMa g0) D T (g 100) ∧ FK gs g
theorem FK_gu {gs g : fp_G} (h : FK gs g) {q : Nat} (hq : q < 113) (i : Nat) (v : Int32) : FK gs (gu g q i v) := fun a ha => by
  rw [gu_k _ _ _ (by omega)]
  exact h a ha
theorem lex_tr {A : fp_G} {a b c : Nat} (h1 : lexB A a b = true) (h2 : lexB A b c = true) : lexB A a c = true := by
  unfold lexB at *
  simp only [Bool.or_eq_true, Bool.and_eq_true, decide_eq_true_eq, lt_I, eq_I] at *
  omega
theorem lex_tot (A : fp_G) {a b : Nat} (h : a ≠ b) : lexB A a b = true ∨ lexB A b a = true := by
  unfold lexB
  simp only [Bool.or_eq_true, Bool.and_eq_true, decide_eq_true_eq, lt_I, eq_I]
  omega
theorem rk_lt {A : fp_G} {n a b : Nat} (ha : a < n) (h1 : A 1 a = 0) (h2 : A 2 a = A 2 b) (hl : lexB A a b = true) : rkD A n a < rkD A n b := by
  refine ctB_lt n (fun m _ z => ?_) ⟨a, ha, ?_, ?_⟩
  · unfold rkP at *
    simp only [Bool.and_eq_true, decide_eq_true_eq] at *
    exact ⟨z.1, by rw [z.2.1, h2], lex_tr z.2.2 hl⟩
  · unfold rkP
    rw [decide_eq_true h1, decide_eq_true h2, hl]
    rfl
  · unfold rkP
    rw [lex_ir, Bool.and_false, Bool.and_false]
theorem rk_inj {A : fp_G} {n a b : Nat} (ha : a < n) (hb : b < n) (h1 : A 1 a = 0) (h1' : A 1 b = 0) (h2 : A 2 a = A 2 b) (e : rkD A n a = rkD A n b) : a = b := by
  refine Classical.byContradiction (fun z => ?_)
  rcases lex_tot A z with h | h
  · have := rk_lt ha h1 h2 h
    omega
  · have := rk_lt hb h1' h2.symm h
    omega
theorem ctB_or (p q : Nat → Bool) : ∀ n, ctB (fun i => p i || q i) n ≤ ctB p n + ctB q n
  | 0 => Nat.le_refl _
  | n + 1 => by
    have := ctB_or p q n
    simp only [ctB]
    by_cases e : p n = true
    · by_cases e2 : q n = true
      · simp [e, e2]
        omega
      · simp [e, e2]
        omega
    · by_cases e2 : q n = true
      · simp [e, e2]
        omega
      · simp [e, e2]
        exact this
theorem ctB_one {p : Nat → Bool} : ∀ n, (∀ i j, i < n → j < n → p i = true → p j = true → i = j) → ctB p n ≤ 1
  | 0, _ => Nat.zero_le _
  | n + 1, h => by
    rw [ctB]
    cases e : p n
    · have := ctB_one n (fun i j hi hj => h i j (by omega) (by omega))
      simpa using this
    · have : ctB p n ≤ 0 := ctB_bound 0 n (fun i hi z => by have := h i n (by omega) (by omega) z e; omega)
      simp
      omega
theorem rk_few (A : fp_G) (n : Nat) (x : Int32) : ∀ k, ctB (fun m => decide (A 1 m = 0) && (decide (A 2 m = x) && decide (rkD A n m < k))) n ≤ k
  | 0 => ctB_bound 0 n (fun i _ z => by simp at z)
  | k + 1 => by
    have ih := rk_few A n x k
    have h1 := ctB_one (p := fun m => decide (A 1 m = 0) && (decide (A 2 m = x) && decide (rkD A n m = k))) n (fun i j hi hj a b => by
      simp only [Bool.and_eq_true, decide_eq_true_eq] at a b
      exact rk_inj hi hj a.1 b.1 (by rw [a.2.1, b.2.1]) (by rw [a.2.2, b.2.2]))
    have h2 := ctB_or (fun m => decide (A 1 m = 0) && (decide (A 2 m = x) && decide (rkD A n m < k))) (fun m => decide (A 1 m = 0) && (decide (A 2 m = x) && decide (rkD A n m = k))) n
    have h3 := ctB_mono (p := fun m => decide (A 1 m = 0) && (decide (A 2 m = x) && decide (rkD A n m < k + 1))) (q := fun m => (decide (A 1 m = 0) && (decide (A 2 m = x) && decide (rkD A n m < k))) || (decide (A 1 m = 0) && (decide (A 2 m = x) && decide (rkD A n m = k)))) n (fun i _ z => by
      simp only [Bool.and_eq_true, Bool.or_eq_true, decide_eq_true_eq] at *
      have : rkD A n i < k ∨ rkD A n i = k := by omega
      rcases this with y | y
      · exact Or.inl ⟨z.1, z.2.1, y⟩
      · exact Or.inr ⟨z.1, z.2.1, y⟩)
    omega
def cdP (D X : Nat → Nat → Int32) (o m : Nat) : Prop := D 1 m = 0 ∧ D 2 m = nI o ∧ X 112 m = 0
theorem s9_nextAt {g0 g D : fp_G} {F : Nat → (Nat → Int32) → Bool} {K : Int32 → fp_G → Prop} {o : Nat} (hq : QQ g0 F) (hs : RR g0 g D)
    (k : ∀ v, ((v = -9 ∧ ∀ m, m < nMa g0 → ¬ cdP D g o m) ∨ ∃ b, b < nMa g0 ∧ v = nI b ∧ cdP D g o b ∧ ∀ m, m < nMa g0 → cdP D g o m → m = b ∨ lexB D b m = true) → K v g) : w_X9_nextAt (nI o) g K := by
  obtain ⟨hn, _, h42⟩ := hq.1.2.1.Ma
  have H := hs.1.1
  unfold w_X9_nextAt
  refine ⟨nMa g0 + 1, ?_⟩
  have loop : ∀ r j v, j + r = nMa g0 → ((v = -9 ∧ ∀ m, m < j → ¬ cdP D g o m) ∨ ∃ b, b < j ∧ v = nI b ∧ cdP D g o b ∧ ∀ m, m < j → cdP D g o m → m = b ∨ lexB D b m = true) → w_X9_nextAt_5 (r + 1) (nI o) v (nI j) g K := by
    intro r
    induction r with
    | zero =>
      intro j v hj hv
      have hj : j = nMa g0 := by omega
      rw [w_X9_nextAt_5]
      rw [hj] at hv
      exact it (by rw [hj]; exact end_c (by rw [H 67 42 rfl]; exact h42)) (k v hv)
    | succ r ih =>
      intro j v hj hv
      rw [w_X9_nextAt_5]
      have r1 : g 95 j = D 1 j := hs.at (r := 1) (by omega) (by omega) (by omega)
      have r2 : g 96 j = D 2 j := hs.at (r := 2) (by omega) (by omega) (by omega)
      have r3 : ∀ m, m < nMa g0 → g 97 m = D 3 m := fun m hm => hs.at (r := 3) (by omega) (by omega) hm
      rw [show nI j + 1 = nI (j + 1) from (nI_succ j).symm]
      have skip : ¬ cdP D g o j → w_X9_nextAt_5 (r + 1) (nI o) v (nI (j + 1)) g K := by
        intro z
        refine ih (j + 1) v (by omega) ?_
        rcases hv with ⟨e, h⟩ | ⟨b, hb, e, hc, h⟩
        · refine Or.inl ⟨e, fun m hm => ?_⟩
          by_cases y : m = j
          · subst y
            exact z
          · exact h m (by omega)
        · refine Or.inr ⟨b, by omega, e, hc, fun m hm hcm => ?_⟩
          by_cases y : m = j
          · subst y
            exact absurd hcm z
          · exact h m (by omega) hcm
      refine ie (nend_c (n := nMa g0) (by rw [H 67 42 rfl]; exact h42) (by omega) (by omega)) (rd_v rfl (by omega) (by omega) r1 (j_I (is (fun c1 => rd_v rfl (by omega) (by omega) r2 (is (fun c2 => rd_n (by omega) (by omega) (is (fun c3 => j_I ?_) (fun c3 => skip (fun z => c3 z.2.2)))) (fun c2 => skip (fun z => c2 z.2.1)))) (fun c1 => skip (fun z => c1 z.1)))))
      have hcj : cdP D g o j := ⟨c1, c2, c3⟩
      rcases hv with ⟨e, h⟩ | ⟨b, hb, e, hc, h⟩
      · subst e
        refine it (by decide) (ih (j + 1) _ (by omega) (Or.inr ⟨j, by omega, rfl, hcj, fun m hm hcm => ?_⟩))
        by_cases y : m = j
        · exact Or.inl y
        · exact absurd hcm (h m (by omega))
      · subst e
        refine ie ?_ (rd_v rfl (by omega) (by omega) (r3 j (by omega)) (rd_v rfl (by omega) (by omega) (r3 b (by omega)) (is (fun c4 => ih (j + 1) _ (by omega) (Or.inr ⟨b, by omega, rfl, hc, fun m hm hcm => ?_⟩)) (fun c4 => ih (j + 1) _ (by omega) (Or.inr ⟨j, by omega, rfl, hcj, fun m hm hcm => ?_⟩)))))
        · show ¬ nI b < nI 0
          rw [lt_n (by omega) (by omega)]
          omega
        · by_cases y : m = j
          · subst y
            right
            unfold lexB
            simp only [Bool.or_eq_true, Bool.and_eq_true, decide_eq_true_eq, lt_I, eq_I]
            rw [le_I] at c4
            omega
          · exact h m (by omega) hcm
        · by_cases y : m = j
          · exact Or.inl y
          · right
            have hjb : lexB D j b = true := by
              unfold lexB
              simp only [Bool.or_eq_true, Bool.and_eq_true, decide_eq_true_eq, lt_I, eq_I]
              rw [le_I] at c4
              omega
            rcases h m (by omega) hcm with z | z
            · subst z
              exact hjb
            · exact lex_tr hjb z
  exact loop (nMa g0) 0 (-9) (by omega) (Or.inl ⟨rfl, fun m hm => absurd hm (by omega)⟩)
def pk (g A : fp_G) (n o k m : Nat) : Bool := decide (m < n) && (decide (A 1 m = 0) && (decide (tn (A 2 m) < o ∧ rkD A n m < hdN g (tn (A 2 m))) || decide (tn (A 2 m) = o ∧ rkD A n m < k)))
theorem s9_pass {h b0 : Nat} {g0 gs A : fp_G} {F : Nat → (Nat → Int32) → Bool} {T : Nat → Int32} {K : Int32 → fp_G → Prop} (hq : QQ g0 F) (hh : h ≤ 4000) (hA : IA g0 A b0)
    (k : ∀ g', RP g0 gs g' (PD g0 F h A (prc g0 A (nMa g0))) T → K 0 g') :
    ∀ r o g, o + r = nO g0 → RP g0 gs g (PD g0 F h A (pk g0 A (nMa g0) o 0)) T → (∀ m, m < nMa g0 → g 112 m = bI (pk g0 A (nMa g0) o 0 m)) → w_X9_passes_57 (r + 1) (nI h) (nI o) g K := by
  obtain ⟨hn, _, h42⟩ := hq.1.2.1.Ma
  obtain ⟨hO, _, h12⟩ := hq.1.2.1.O
  have oA : ∀ m, m < nMa g0 → ∃ x, x < nO g0 ∧ A 2 m = nI x ∧ tn (A 2 m) = x := by
    intro m hm
    obtain ⟨⟨x, hx, e⟩, _⟩ := hA m hm
    exact ⟨x, hx, e, by rw [e, tn_n (by omega)]⟩
  have pA : ∀ o k m, pk g0 A (nMa g0) o k m = true → A 1 m = 0 := by
    intro o k m z
    unfold pk at z
    simp only [Bool.and_eq_true, decide_eq_true_eq] at z
    exact z.2.1
  intro r
  induction r with
  | zero =>
    intro o g ho hs h112
    have ho : o = nO g0 := by omega
    rw [w_X9_passes_57]
    have H := hs.1.1.1
    refine it (by rw [ho]; exact end_c (by rw [H 67 12 rfl]; exact h12)) (k g ?_)
    have e : PD g0 F h A (pk g0 A (nMa g0) o 0) = PD g0 F h A (prc g0 A (nMa g0)) := by
      refine PD_congr (fun m => ?_)
      unfold pk prc
      by_cases c : m < nMa g0
      · obtain ⟨x, hx, ex, tx⟩ := oA m c
        rw [decide_eq_true c, tx]
        by_cases c2 : rkD A (nMa g0) m < hdN g0 x
        · rw [decide_eq_true (p := x < o ∧ rkD A (nMa g0) m < hdN g0 x) ⟨by omega, c2⟩, decide_eq_true c2]
          simp
        · rw [decide_eq_false (p := x < o ∧ rkD A (nMa g0) m < hdN g0 x) (fun z => c2 z.2), decide_eq_false c2, decide_eq_false (p := x = o ∧ rkD A (nMa g0) m < 0) (fun z => by omega)]
          simp
      · rw [decide_eq_false c]
        simp
    rw [← e]
    exact hs
  | succ r ih =>
    intro o g ho hs h112
    rw [w_X9_passes_57]
    have H := hs.1.1.1
    obtain ⟨hd, ed⟩ := hq.1.2.2.1.hd (o := o) (by omega)
    have e69 : g0 69 = g0 7 := hq.1.1.2.1
    rw [show nI o + 1 = nI (o + 1) from (nI_succ o).symm]
    refine ie (nend_c (n := nO g0) (by rw [H 67 12 rfl]; exact h12) (by omega) (by omega)) ?_
    -- what stands unseen at o
    have free : ∀ (kk : Nat) (G : fp_G), RR g0 G (PD g0 F h A (pk g0 A (nMa g0) o kk)) → (∀ m, m < nMa g0 → G 112 m = bI (pk g0 A (nMa g0) o kk m)) → ∀ m, m < nMa g0 → (cdP (PD g0 F h A (pk g0 A (nMa g0) o kk)) G o m ↔ (pk g0 A (nMa g0) o kk m = false ∧ A 1 m = 0 ∧ A 2 m = nI o)) := by
      intro kk G hG h1 m hm
      constructor
      · rintro ⟨z1, z2, z3⟩
        rw [h1 m hm] at z3
        have pf : pk g0 A (nMa g0) o kk m = false := by
          cases y : pk g0 A (nMa g0) o kk m
          · rfl
          · rw [y] at z3
            exact absurd z3 (by decide)
        rw [PD_no pf] at z1 z2
        exact ⟨pf, z1, z2⟩
      · rintro ⟨pf, z1, z2⟩
        refine ⟨by rw [PD_no pf]; exact z1, by rw [PD_no pf]; exact z2, ?_⟩
        rw [h1 m hm, pf]
        rfl
    have rkk : ∀ (kk m : Nat), m < nMa g0 → A 1 m = 0 → A 2 m = nI o → (pk g0 A (nMa g0) o kk m = true ↔ rkD A (nMa g0) m < kk) := by
      intro kk m hm z1 z2
      unfold pk
      rw [decide_eq_true hm, decide_eq_true z1, z2, tn_n (by omega), decide_eq_false (p := o < o ∧ rkD A (nMa g0) m < hdN g0 o) (fun z => by omega)]
      simp
    -- to the next office
    have leave : ∀ (kk : Nat) (G : fp_G), kk ≤ hdN g0 o → (kk = hdN g0 o ∨ ∀ m, m < nMa g0 → A 1 m = 0 → A 2 m = nI o → rkD A (nMa g0) m < kk) → RP g0 gs G (PD g0 F h A (pk g0 A (nMa g0) o kk)) T → (∀ m, m < nMa g0 → G 112 m = bI (pk g0 A (nMa g0) o kk m)) → w_X9_passes_57 (r + 1) (nI h) (nI (o + 1)) G K := by
      intro kk G hk hall hG h1
      have e : ∀ m, pk g0 A (nMa g0) (o + 1) 0 m = pk g0 A (nMa g0) o kk m := by
        intro m
        by_cases c : m < nMa g0
        · obtain ⟨x, hx, ex, tx⟩ := oA m c
          unfold pk
          rw [decide_eq_true c, tx]
          by_cases c1 : A 1 m = 0
          · rw [decide_eq_true c1]
            by_cases cx : x = o
            · subst cx
              have hrk : rkD A (nMa g0) m < hdN g0 x ↔ rkD A (nMa g0) m < kk := by
                rcases hall with z | z
                · rw [z]
                · have := z m c c1 ex
                  omega
              by_cases c2 : rkD A (nMa g0) m < kk
              · rw [decide_eq_true (p := x < x + 1 ∧ rkD A (nMa g0) m < hdN g0 x) ⟨by omega, hrk.mpr c2⟩, decide_eq_true (p := x = x ∧ rkD A (nMa g0) m < kk) ⟨rfl, c2⟩]
                simp
              · rw [decide_eq_false (p := x < x + 1 ∧ rkD A (nMa g0) m < hdN g0 x) (fun z => c2 (hrk.mp z.2)), decide_eq_false (p := x = x ∧ rkD A (nMa g0) m < kk) (fun z => c2 z.2), decide_eq_false (p := x = x + 1 ∧ rkD A (nMa g0) m < 0) (fun z => by omega), decide_eq_false (p := x < x ∧ rkD A (nMa g0) m < hdN g0 x) (fun z => by omega)]
            · rw [decide_eq_false (p := x = o ∧ rkD A (nMa g0) m < kk) (fun z => cx z.1), decide_eq_false (p := x = o + 1 ∧ rkD A (nMa g0) m < 0) (fun z => by omega)]
              by_cases c2 : x < o ∧ rkD A (nMa g0) m < hdN g0 x
              · rw [decide_eq_true c2, decide_eq_true (p := x < o + 1 ∧ rkD A (nMa g0) m < hdN g0 x) ⟨by omega, c2.2⟩]
              · rw [decide_eq_false c2, decide_eq_false (p := x < o + 1 ∧ rkD A (nMa g0) m < hdN g0 x) (fun z => c2 ⟨by omega, z.2⟩)]
          · rw [decide_eq_false c1]
            rfl
        · unfold pk
          rw [decide_eq_false c]
          rfl
      refine ih (o + 1) G (by omega) ?_ (fun m hm => by rw [e m]; exact h1 m hm)
      rw [PD_congr e]
      exact hG
    have inner : ∀ d kk v G, kk + d = hdN g0 o → RP g0 gs G (PD g0 F h A (pk g0 A (nMa g0) o kk)) T → (∀ m, m < nMa g0 → G 112 m = bI (pk g0 A (nMa g0) o kk m)) →
        ((v = -9 ∧ ∀ m, m < nMa g0 → ¬ cdP (PD g0 F h A (pk g0 A (nMa g0) o kk)) G o m) ∨ ∃ b, b < nMa g0 ∧ v = nI b ∧ cdP (PD g0 F h A (pk g0 A (nMa g0) o kk)) G o b ∧ ∀ m, m < nMa g0 → cdP (PD g0 F h A (pk g0 A (nMa g0) o kk)) G o m → m = b ∨ lexB (PD g0 F h A (pk g0 A (nMa g0) o kk)) b m = true) →
        w_X9_passes_74 (d + 1) (nI h) (nI o) v (nI kk) G K (fun g5 => w_X9_passes_57 (r + 1) (nI h) (nI (o + 1)) g5 K) := by
      intro d
      induction d with
      | zero =>
        intro kk v G hk hG h1 hv
        rw [w_X9_passes_74]
        refine rd_v (v := nI (hdN g0 o)) rfl (by omega) (by omega) (by rw [hG.1.1.1 69 o rfl, e69]; exact ed) (it ?_ (leave kk G (by omega) (Or.inl (by omega)) hG h1))
        rw [le_n (by omega) (by omega)]
        omega
      | succ d ihd =>
        intro kk v G hk hG h1 hv
        rw [w_X9_passes_74]
        refine rd_v (v := nI (hdN g0 o)) rfl (by omega) (by omega) (by rw [hG.1.1.1 69 o rfl, e69]; exact ed) (ie (by rw [le_n (by omega) (by omega)]; omega) ?_)
        rcases hv with ⟨e, hno⟩ | ⟨b, hb, e, hcb, hmin⟩
        · subst e
          refine it (by decide) (leave kk G (by omega) (Or.inr (fun m hm z1 z2 => ?_)) hG h1)
          refine Classical.byContradiction (fun z => hno m hm ((free kk G hG.1 h1 m hm).mpr ⟨?_, z1, z2⟩))
          cases y : pk g0 A (nMa g0) o kk m
          · rfl
          · exact absurd ((rkk kk m hm z1 z2).mp y) z
        · subst e
          obtain ⟨pf, b1, b2⟩ := (free kk G hG.1 h1 b hb).mp hcb
          have hkb : kk ≤ rkD A (nMa g0) b := by
            refine Nat.le_of_not_lt (fun z => ?_)
            rw [(rkk kk b hb b1 b2).mpr z] at pf
            cases pf
          have hbk : rkD A (nMa g0) b ≤ kk := by
            refine Nat.le_trans (ctB_mono (nMa g0) (fun m hm z => ?_)) (rk_few A (nMa g0) (nI o) kk)
            unfold rkP at z
            simp only [Bool.and_eq_true, decide_eq_true_eq] at z ⊢
            refine ⟨z.1, by rw [z.2.1]; exact b2, ?_⟩
            refine (rkk kk m hm z.1 (by rw [z.2.1]; exact b2)).mp ?_
            cases y : pk g0 A (nMa g0) o kk m
            · rcases hmin m hm ((free kk G hG.1 h1 m hm).mpr ⟨y, z.1, by rw [z.2.1]; exact b2⟩) with w | w
              · subst w
                rw [lex_ir] at z
                cases z.2.2
              · have e1 : lexB (PD g0 F h A (pk g0 A (nMa g0) o kk)) b m = lexB A b m := by
                  unfold lexB
                  rw [PD_no pf, PD_no y]
                rw [e1, lex_as z.2.2] at w
                cases w
            · rfl
          have erk : rkD A (nMa g0) b = kk := by omega
          refine ie ?_ (wr_n (k := b) (by omega) (by omega) ?_)
          · show ¬ nI b < nI 0
            rw [lt_n (by omega) (by omega)]
            omega
          have hG1 : RF g0 (gu G 112 b 1) (gu G 112 b 1) (PD g0 F h A (pk g0 A (nMa g0) o kk)) := ⟨RR_gu hG.1 (by omega) _ _, Fr9_refl _⟩
          have hIA := IA_PD hq hA (h := h) (pA o kk)
          have b7 : PD g0 F h A (pk g0 A (nMa g0) o kk) 7 b = 0 := (hIA.1 b hb).2.1 (Or.inl hcb.1)
          have oth : ∀ m, m ≠ b → pk g0 A (nMa g0) o (kk + 1) m = pk g0 A (nMa g0) o kk m := by
            intro m hmb
            by_cases c : m < nMa g0
            · obtain ⟨x, hx, ex, tx⟩ := oA m c
              unfold pk
              rw [decide_eq_true c, tx]
              by_cases c1 : A 1 m = 0
              · have : (x = o ∧ rkD A (nMa g0) m < kk + 1) ↔ (x = o ∧ rkD A (nMa g0) m < kk) := by
                  constructor
                  · rintro ⟨z1, z2⟩
                    refine ⟨z1, ?_⟩
                    have : rkD A (nMa g0) m ≠ kk := fun z3 => hmb (rk_inj c hb c1 b1 (by rw [ex, z1, b2]) (by rw [z3, erk]))
                    omega
                  · rintro ⟨z1, z2⟩
                    exact ⟨z1, by omega⟩
                by_cases c2 : x = o ∧ rkD A (nMa g0) m < kk
                · rw [decide_eq_true c2, decide_eq_true (this.mpr c2)]
                · rw [decide_eq_false c2, decide_eq_false (fun z => c2 (this.mp z))]
              · rw [decide_eq_false c1]
                rfl
            · unfold pk
              rw [decide_eq_false c]
              rfl
          have p1 : pk g0 A (nMa g0) o (kk + 1) b = true := (rkk (kk + 1) b hb b1 b2).mpr (by omega)
          rw [show vp_nar .boolean 1 = 1 from rfl]
          refine s9_sees hq hG1 hb (by omega) (fun m hm => (hIA.1 m hm).1) b7 (fun g' h' => ?_)
          rw [PD_step (p' := pk g0 A (nMa g0) o (kk + 1)) pf p1 oth] at h'
          have e112 : ∀ m, m < nMa g0 → g' 112 m = bI (pk g0 A (nMa g0) o (kk + 1) m) := by
            intro m hm
            rw [h'.2 112 (by omega)]
            by_cases z : m = b
            · subst z
              rw [gu_s, p1]
              rfl
            · rw [gu_i _ _ z, oth m z]
              exact h1 m hm
          have hP : RP g0 gs g' (PD g0 F h A (pk g0 A (nMa g0) o (kk + 1))) T := by
            refine ⟨h'.1, fun m hm j hj h40 => ?_, fun q hq2 => ?_⟩
            · rw [h'.2 100 (Or.inl rfl), gu_k _ _ _ (by decide)]
              refine hG.2.1 m hm j ?_ h40
              rw [hIA.2 m hm]
              rw [(IA_PD hq hA (h := h) (pA o (kk + 1))).2 m hm] at hj
              exact hj
            · rw [h'.2 q (by omega), gu_k _ _ _ (by omega)]
              exact hG.2.2 q hq2
          refine s9_nextAt hq h'.1 (fun v hv => ?_)
          rw [show nI kk + 1 = nI (kk + 1) from (nI_succ kk).symm]
          exact ihd (kk + 1) v g' (by omega) hP e112 hv
    exact s9_nextAt hq hs.1 (fun v hv => ⟨hdN g0 o + 1, inner (hdN g0 o) 0 v g (by omega) hs h112 hv⟩)
theorem s9_passes {h : Nat} {g0 gs g D : fp_G} {F : Nat → (Nat → Int32) → Bool} {T : Nat → Int32} {K : Int32 → fp_G → Prop} (hq : QQ g0 F) (hh : h ≤ 4000) (hI : IV g0 D h) (hs : RP g0 gs g D T)
    (k : ∀ g', RP g0 gs g' (hourD g0 F D h) (arrT D T h (nMa g0)) → K 0 g') : w_X9_passes (nI h) g K := by
  obtain ⟨hn, _, h42⟩ := hq.1.2.1.Ma
  have hO := hq.1.2.1.O.1
  have hA : IA g0 (arrD D h (nMa g0)) (h + 2) := IV_arr hI rfl
  unfold w_X9_passes
  refine ⟨nMa g0 + 1, ?_⟩
  have loop : ∀ r j g, j + r = nMa g0 → RP g0 gs g (arrD D h j) (arrT D T h j) → (∀ m, m < j → g 112 m = 0) → w_X9_passes_2 (r + 1) (nI h) (nI j) g K := by
    intro r
    induction r with
    | zero =>
      intro j g hj hs h112
      have hj : j = nMa g0 := by omega
      have H := hs.1.1.1
      rw [w_X9_passes_2]
      rw [hj] at hs h112
      have p0 : ∀ m, pk g0 (arrD D h (nMa g0)) (nMa g0) 0 0 m = false := by
        intro m
        unfold pk
        rw [decide_eq_false (p := tn (arrD D h (nMa g0) 2 m) < 0 ∧ _) (fun z => by omega), decide_eq_false (p := tn (arrD D h (nMa g0) 2 m) = 0 ∧ _) (fun z => by omega)]
        simp
      refine it (by rw [hj]; exact end_c (by rw [H 67 42 rfl]; exact h42)) ⟨nO g0 + 1, s9_pass hq hh hA k (nO g0) 0 g (by omega) ?_ (fun m hm => by rw [p0 m]; exact h112 m hm)⟩
      rw [PD_zero p0]
      exact hs
    | succ r ih =>
      intro j g hj hs h112
      rw [w_X9_passes_2]
      have H := hs.1.1.1
      obtain ⟨⟨o, ho, eo⟩, _, kk, hk, ek⟩ := hI j (by omega)
      have eo' : arrD D h j 2 j = nI o := by rw [arrD_o D h 2 j j (Nat.le_refl _)]; exact eo
      have ek' : arrD D h j 6 j = nI kk := by rw [arrD_o D h 6 j j (Nat.le_refl _)]; exact ek
      rw [show nI j + 1 = nI (j + 1) from (nI_succ j).symm, show vp_nar .boolean 0 = 0 from rfl]
      have hs6 : RP g0 gs (gu g 112 j 0) (arrD D h j) (arrT D T h j) := ⟨RR_gu hs.1 (by omega) _ _, by rw [gu_k _ _ _ (by decide)]; exact hs.2.1, FK_gu hs.2.2 (by omega) _ _⟩
      have s112 : ∀ (G : fp_G), G 112 = gu g 112 j 0 112 → ∀ m, m < j + 1 → G 112 m = 0 := by
        intro G e m hm
        rw [e]
        by_cases z : m = j
        · subst z
          exact gu_s _ _ _ _
        · rw [gu_i _ _ z]
          exact h112 m (by omega)
      have nx : ¬ (arrD D h j 1 j = 1 ∧ arrD D h j 3 j = nI h) → w_X9_passes_2 (r + 1) (nI h) (nI (j + 1)) (gu g 112 j 0) K := by
        intro z
        refine ih (j + 1) _ (by omega) ?_ (s112 _ rfl)
        rw [arrD, arrT]
        unfold arr1
        rw [if_neg z, if_neg (fun y => z ⟨y.1, y.2.1⟩)]
        exact hs6
      refine ie (nend_c (n := nMa g0) (by rw [H 67 42 rfl]; exact h42) (by omega) (by omega)) (wr_n (k := j) (by omega) (by omega) (rd_v rfl (by omega) (by omega) (hs6.1.at (r := 1) (by omega) (by omega) (by omega)) (j_I (is (fun c1 => rd_v rfl (by omega) (by omega) (hs6.1.at (r := 3) (by omega) (by omega) (by omega)) (is (fun c3 => rd_v (v := nI o) rfl (by omega) (by omega) (by rw [← eo']; exact hs6.1.at (r := 2) (by omega) (by omega) (by omega)) ?_) (fun c3 => nx (fun z => c3 z.2)))) (fun c1 => nx (fun z => c1 z.1))))))
      unfold w_X9_comes
      refine wr_n (k := j) (by omega) (by omega) (wr_n (k := j) (by omega) (by omega) (wr_n (k := j) (by omega) (by omega) ?_))
      have q1 : RR g0 (gu (gu (gu (gu g 112 j 0) 95 j 0) 96 j (nI o)) 97 j (nI h)) (gu (arrD D h j) 1 j 0) := by
        have := RR_w (RR_w (RR_w hs6.1 (r := 1) (m := j) (by omega) (by omega) (by omega) 0) (r := 2) (m := j) (by omega) (by omega) (by omega) (nI o)) (r := 3) (m := j) (by omega) (by omega) (by omega) (nI h)
        rw [gu_id (gu (arrD D h j) 1 j 0) (q := 2) (by rw [gu_k _ _ _ (by decide)]; exact eo'), gu_id (gu (arrD D h j) 1 j 0) (q := 3) (by rw [gu_k _ _ _ (by decide)]; exact c3)] at this
        exact this
      have fk1 : FK gs (gu (gu (gu (gu g 112 j 0) 95 j 0) 96 j (nI o)) 97 j (nI h)) := FK_gu (FK_gu (FK_gu hs6.2.2 (by omega) _ _) (by omega) _ _) (by omega) _ _
      have e100 : gu (gu (gu (gu g 112 j 0) 95 j 0) 96 j (nI o)) 97 j (nI h) 100 = g 100 := by rw [gu_k _ _ _ (by decide), gu_k _ _ _ (by decide), gu_k _ _ _ (by decide), gu_k _ _ _ (by decide)]
      have e112 : gu (gu (gu (gu g 112 j 0) 95 j 0) 96 j (nI o)) 97 j (nI h) 112 = gu g 112 j 0 112 := by rw [gu_k _ _ _ (by decide), gu_k _ _ _ (by decide), gu_k _ _ _ (by decide)]
      generalize gu (gu (gu (gu g 112 j 0) 95 j 0) 96 j (nI o)) 97 j (nI h) = G at q1 fk1 e100 e112
      have e6 : G 99 j = nI kk := by
        rw [show G 99 j = _ from q1.at (r := 6) (by omega) (by omega) (by omega), gu_k _ _ _ (by decide)]
        exact ek'
      have fin : ∀ G2, RR g0 G2 (gu (arrD D h j) 1 j 0) → FK gs G2 → G2 112 = gu g 112 j 0 112 → G2 100 = (if kk < 40 then upd (g 100) (40 * j + kk) (nI o) else g 100) → (fp_rd (G2 99) 60 (nI j) fun v2 => fp_wr G2 99 60 (nI j) (v2 + 1) fun g5 => w_X9_passes_2 (r + 1) (nI h) (nI (j + 1)) g5 K) := by
        intro G2 h1 h2 h3 h4
        have e6' : G2 99 j = nI kk := by
          rw [show G2 99 j = _ from h1.at (r := 6) (by omega) (by omega) (by omega), gu_k _ _ _ (by decide)]
          exact ek'
        refine rd_v rfl (by omega) (by omega) e6' (wr_n (k := j) (by omega) (by omega) (ih (j + 1) _ (by omega) ⟨?_, ?_, FK_gu h2 (by omega) _ _⟩ (s112 _ (by rw [gu_k _ _ _ (by decide)]; exact h3))))
        · rw [arrD]
          unfold arr1
          rw [if_pos ⟨c1, c3⟩]
          unfold comD
          rw [ek']
          exact RR_w h1 (r := 6) (by omega) (by omega) (by omega) _
        · have st := OKT_step hs.2.1 ek' (by omega)
          rw [arrD, arrT]
          unfold arr1
          rw [if_pos ⟨c1, c3⟩, gu_k _ _ _ (by decide), h4, ek', tn_n (by omega)]
          rw [eo'] at st ⊢
          by_cases c40 : kk < 40
          · rw [if_pos ⟨c1, c3, by rw [show (40 : Int32) = nI 40 from rfl, lt_n (by omega) (by omega)]; exact c40⟩]
            rw [if_pos c40, if_pos c40] at st
            rw [if_pos c40]
            exact st
          · rw [if_neg (fun y => c40 (by have := y.2.2; rw [show (40 : Int32) = nI 40 from rfl, lt_n (by omega) (by omega)] at this; exact this))]
            rw [if_neg c40, if_neg c40] at st
            rw [if_neg c40]
            exact st
      rw [show (40 : Int32) = nI 40 from rfl]
      refine rd_v rfl (by omega) (by omega) e6 (j_I (is (fun c40 => fin G q1 fk1 e112 ?_) (fun c40 => rd_v rfl (by omega) (by omega) e6 (wr_e (k := 40 * j + kk) (by rw [pk_mul, nI_add]) ?_ (by omega) (fin _ (RR_gu q1 (Or.inl rfl) _ _) (FK_gu fk1 (by omega) _ _) (by rw [gu_k _ _ _ (by decide)]; exact e112) ?_)))))
      · rw [le_n (by omega) (by omega)] at c40
        rw [if_neg (by omega)]
        exact e100
      · rw [le_n (by omega) (by omega)] at c40
        omega
      · rw [le_n (by omega) (by omega)] at c40
        rw [if_pos (by omega), gu_f, e100]
  exact loop (nMa g0) 0 g (by omega) hs (fun m hm => absurd hm (by omega))
