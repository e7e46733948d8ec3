/-! ===== the class passes an hour ===== -/
def IA (g A : fp_G) (b : Nat) : Prop := ∀ m, m < nMa g → (∃ o, o < nO g ∧ A 2 m = nI o) ∧ ((A 1 m = 0 ∨ A 1 m = 1) → A 7 m = 0) ∧ ∃ k, k ≤ b ∧ A 6 m = nI k
def G6 (g : fp_G) (e e' : Nat → Int32) : Prop := (∃ o, o < nO g ∧ e' 2 = nI o) ∧ ((e' 1 = 0 ∨ e' 1 = 1) → e' 7 = 0) ∧ e' 6 = e 6
theorem G6_up {g : fp_G} {e e' : Nat → Int32} (h : G6 g e e') {r : Nat} (hr : r = 3 ∨ r = 4 ∨ r = 5) (v : Int32) : G6 g e (upd e' r v) := by
  unfold G6
  rw [upd_n _ _ (by omega), upd_n _ _ (by omega), upd_n _ _ (by omega), upd_n _ _ (by omega)]
  exact h
theorem G6_fin {g : fp_G} {e e' : Nat → Int32} (h : G6 g e e') {w : Int32} (h0 : w ≠ 0) (h1 : w ≠ 1) (x : Nat) : G6 g e (finE e' w x) := by
  unfold finE
  refine G6_up ?_ (Or.inl rfl) _
  refine ⟨by rw [upd_n _ _ (by decide)]; exact h.1, fun z => ?_, by rw [upd_n _ _ (by decide)]; exact h.2.2⟩
  rw [upd_s] at z
  exact absurd z (fun y => y.elim h0 h1)
theorem G6_see {g : fp_G} {F : Nat → (Nat → Int32) → Bool} {m h : Nat} {e : Nat → Int32} (hq : QQ g F) (ho : ∃ o, o < nO g ∧ e 2 = nI o) (h1 : e 1 = 0) (h7 : (e 1 = 0 ∨ e 1 = 1) → e 7 = 0) : G6 g e (seeE g F m h e) := by
  have h0 : G6 g e e := ⟨ho, h7, rfl⟩
  have ht : G6 g e (tbX g F m h e) ∧ tbX g F m h e 1 = e 1 ∧ tbX g F m h e 7 = e 7 := by
    unfold tbX tbE turE
    repeat' split
    all_goals first | exact ⟨G6_up (G6_up h0 (by omega) _) (by omega) _, by rw [upd_n _ _ (by decide), upd_n _ _ (by decide)], by rw [upd_n _ _ (by decide), upd_n _ _ (by decide)]⟩ | exact ⟨h0, rfl, rfl⟩
  unfold seeE
  split
  · exact G6_fin h0 (by decide) (by decide) h
  split
  · exact h0
  unfold hanE
  split
  · exact G6_fin ht.1 (by decide) (by decide) h
  split
  · unfold finE
    refine G6_up ?_ (Or.inl rfl) _
    refine ⟨by rw [upd_n _ _ (by decide), upd_n _ _ (by decide)]; exact ht.1.1, fun z => ?_, by rw [upd_n _ _ (by decide), upd_n _ _ (by decide)]; exact ht.1.2.2⟩
    rw [upd_s] at z
    exact absurd z (by decide)
  split
  · split
    · exact ht.1
    · unfold turE
      exact G6_up (G6_up ht.1 (by omega) _) (by omega) _
  unfold sndE
  split
  · rename_i c
    refine G6_up ?_ (Or.inl rfl) _
    obtain ⟨w, hw, ew⟩ : ∃ w, w < nW g ∧ wS g (tn (e 2)) (gS g (tbX g F m h e 4) m (tn (e 2)) h) = nI w := by
      rcases wS_c (g := g) (tn (e 2)) (gS g (tbX g F m h e 4) m (tn (e 2)) h) with z | z
      · rw [z] at c
        exact absurd (by decide) c.1
      · exact z
    have hW := hq.1.2.1.W.1
    rw [ew, tn_n (by omega)]
    refine ⟨⟨oth g (tn (e 2)) w, oth_lt hq.1.2.2.1 hq.1.2.1.O.1 hw, by rw [upd_s]⟩, fun _ => ?_, ?_⟩
    · rw [upd_n _ _ (by decide), upd_n _ _ (by decide), ht.2.2]
      exact h7 (Or.inl h1)
    · rw [upd_n _ _ (by decide), upd_n _ _ (by decide)]
      exact ht.1.2.2
  · exact ht.1
theorem IA_PD {g : fp_G} {F : Nat → (Nat → Int32) → Bool} {h b : Nat} {A : fp_G} {p : Nat → Bool} (hq : QQ g F) (hA : IA g A b) (hp : ∀ m, p m = true → A 1 m = 0) : IA g (PD g F h A p) b ∧ ∀ m, m < nMa g → PD g F h A p 6 m = A 6 m := by
  have key : ∀ m, m < nMa g → G6 g (fun r => A r m) (fun r => PD g F h A p r m) := by
    intro m hm
    cases e : p m
    · have : (fun r => PD g F h A p r m) = fun r => A r m := funext (fun r => PD_no e r)
      rw [this]
      exact ⟨(hA m hm).1, (hA m hm).2.1, rfl⟩
    · have : (fun r => PD g F h A p r m) = seeE g F m h (fun r => A r m) := by
        funext r
        unfold PD
        rw [e]
        rfl
      rw [this]
      exact G6_see hq (hA m hm).1 (hp m e) (hA m hm).2.1
  refine ⟨fun m hm => ⟨(key m hm).1, (key m hm).2.1, ?_⟩, fun m hm => (key m hm).2.2⟩
  obtain ⟨k, hk, ek⟩ := (hA m hm).2.2
  exact ⟨k, hk, by rw [show PD g F h A p 6 m = A 6 m from (key m hm).2.2]; exact ek⟩
def anyN (p : Nat → Bool) : Nat → Bool
  | 0 => false
  | i + 1 => anyN p i || p i
theorem anyN_t {p : Nat → Bool} : ∀ {n : Nat}, anyN p n = true ↔ ∃ i, i < n ∧ p i = true
  | 0 => ⟨fun z => (by cases z), fun ⟨i, hi, _⟩ => absurd hi (by omega)⟩
  | n + 1 => by
    rw [anyN, Bool.or_eq_true, anyN_t (n := n)]
    constructor
    · rintro (⟨i, hi, e⟩ | e)
      · exact ⟨i, by omega, e⟩
      · exact ⟨n, by omega, e⟩
    · rintro ⟨i, hi, e⟩
      by_cases z : i = n
      · subst z
        exact Or.inr e
      · exact Or.inl ⟨i, by omega, e⟩
theorem ctB_sN (p : Nat → Bool) : ∀ n, ctB p n = sN (fun i => if p i then 1 else 0) n
  | 0 => rfl
  | n + 1 => by
    rw [ctB, sN, ctB_sN p n]
    split <;> omega
theorem lex_as {A : fp_G} {a b : Nat} (h : lexB A a b = true) : lexB A b a = false := by
  unfold lexB at h ⊢
  simp only [Bool.or_eq_true, Bool.and_eq_true, decide_eq_true_eq] at h
  rcases h with z | ⟨z1, z2⟩
  · rw [decide_eq_false (by rw [lt_I] at *; omega), decide_eq_false (p := A 3 b = A 3 a) (by rw [lt_I] at z; rw [eq_I]; omega)]
    rfl
  · rw [decide_eq_false (by rw [z1, lt_I]; omega), decide_eq_false (p := b < a) (by omega), Bool.and_false]
    rfl
theorem lex_ir (A : fp_G) (a : Nat) : lexB A a a = false := by
  cases h : lexB A a a
  · rfl
  · rw [lex_as h] at h
    cases h
theorem rk_cnt {A : fp_G} {n sz : Nat} {Q : Nat → Nat} (hq : QL A n sz Q) {i o : Nat} (hi : i < sz) (eo : A 2 (Q i) = nI o) : rkD A n (Q i) = sN (fun j => if A 2 (Q j) = nI o then 1 else 0) i := by
  unfold rkD
  rw [ctB_sN]
  have e1 : sN (fun m' => if rkP A (Q i) m' = true then 1 else 0) n = sN (fun m' => if A 1 m' = 0 then (if A 2 m' = nI o ∧ lexB A m' (Q i) = true then 1 else 0) else 0) n := by
    refine sN_cong n (fun m' _ => ?_)
    unfold rkP
    rw [eo]
    by_cases c1 : A 1 m' = 0
    · rw [if_pos c1, decide_eq_true c1, Bool.true_and]
      by_cases c2 : A 2 m' = nI o
      · rw [decide_eq_true c2, Bool.true_and]
        cases lexB A m' (Q i)
        · rw [if_neg (by decide), if_neg (fun z => by cases z.2)]
        · rw [if_pos rfl, if_pos ⟨c2, rfl⟩]
      · rw [decide_eq_false c2, Bool.false_and, if_neg (by decide), if_neg (fun z => c2 z.1)]
    · rw [if_neg c1, decide_eq_false c1, Bool.false_and, if_neg (by decide)]
  rw [e1, ← hq.2.2.2 (fun m' => if A 2 m' = nI o ∧ lexB A m' (Q i) = true then 1 else 0)]
  rw [sN_cut i sz hi (fun q hq1 hq2 => by rw [if_neg (fun z => by rw [lex_as (hq.2.2.1 i q hq1 hq2)] at z; cases z.2)])]
  show sN _ i + (if A 2 (Q i) = nI o ∧ lexB A (Q i) (Q i) = true then 1 else 0) = _
  rw [if_neg (fun z => by rw [lex_ir] at z; cases z.2), Nat.add_zero]
  refine sN_cong i (fun j hj => ?_)
  have hl := hq.2.2.1 j i hj hi
  by_cases c2 : A 2 (Q j) = nI o
  · rw [if_pos c2, if_pos ⟨c2, hl⟩]
  · rw [if_neg c2, if_neg (fun z => c2 z.1)]
theorem QL_mem {A : fp_G} {n sz : Nat} {Q : Nat → Nat} (hq : QL A n sz Q) {m : Nat} (hm : m < n) (h1 : A 1 m = 0) : ∃ i, i < sz ∧ Q i = m := by
  have e := hq.2.2.2 (fun x => if x = m then 1 else 0)
  have : sN (fun x => if A 1 x = 0 then (if x = m then 1 else 0) else 0) n = sN (fun x => if x = m then 1 else 0) n := by
    refine sN_cong n (fun x _ => ?_)
    by_cases z : x = m
    · subst z
      rw [if_pos h1]
    · rw [if_neg z]
      split <;> rfl
  rw [this] at e
  have n0 := sN_one m n hm
  rw [← e] at n0
  obtain ⟨i, hi, e2⟩ := sN_pos _ n0
  refine ⟨i, hi, ?_⟩
  by_cases z : Q i = m
  · exact z
  · rw [if_neg z] at e2
    exact absurd rfl e2
theorem cnt_le (P : Nat → Prop) [DecidablePred P] : ∀ i, sN (fun j => if P j then 1 else 0) i ≤ i
  | 0 => Nat.le_refl _
  | i + 1 => by
    have := cnt_le P i
    rw [sN]
    split <;> omega
theorem s_fill {g : fp_G} {K : Int32 → fp_G → Prop} (k : ∀ f, (∀ i, i < 12 → f i = 0) → K 0 (gc g 4 f)) : w_J7_fill_53178 4 12 0 g K := by
  unfold w_J7_fill_53178
  have loop : ∀ r j f, j + r = 12 → (∀ i, i < j → f i = 0) → w_J7_fill_53178_5 (r + 1) 4 12 0 (nI j) (Int32.ofNat 12) (gc g 4 f) K := by
    intro r
    induction r with
    | zero =>
      intro j f hj h
      have hj : j = 12 := by omega
      subst hj
      rw [w_J7_fill_53178_5]
      exact it (end_c (a := Int32.ofNat 12) rfl) (k f h)
    | succ r ih =>
      intro j f hj h
      rw [w_J7_fill_53178_5]
      refine ie (nend_c (a := Int32.ofNat 12) (n := 12) rfl (by omega) (by omega)) (wr_n (k := j) (by omega) (by omega) ?_)
      rw [gcu_s, show nI j + 1 = nI (j + 1) from (nI_succ j).symm]
      refine ih (j + 1) _ (by omega) (fun i hi => ?_)
      by_cases z : i = j
      · subst z
        exact upd_s _ _ _
      · rw [upd_n _ _ z]
        exact h i (by omega)
  have main := loop 12 0 (g 4) (by omega) (fun i hi => absurd hi (by omega))
  rw [gc_id] at main
  exact ⟨13, main⟩
theorem VNet.hd {g : fp_G} (h : VNet g) {o : Nat} (ho : o < nO g) : hdN g o ≤ 99 ∧ g 7 o = nI (hdN g o) := by
  obtain ⟨x, hx, e⟩ := h.1 o ho
  unfold hdN
  rw [e, tn_n (by omega)]
  exact ⟨hx, rfl⟩
theorem s4_pass29 {c h sz b : Nat} {g0 A : fp_G} {F : Nat → (Nat → Int32) → Bool} {T : Nat → Int32} {Q : Nat → Nat} {K : Int32 → fp_G → Prop} (hc : isC c) (hq : QQ g0 F) (hh : h ≤ 4000) (hA : IA g0 A b) (hQ : QL A (nMa g0) sz Q)
    (k : ∀ g', CT c g0 g' (PD g0 F h A (prc g0 A (nMa g0))) T → K 0 g') :
    ∀ r i g, i + r = sz → CT c g0 g (PD g0 F h A (fun m => prc g0 A (nMa g0) m && anyN (fun j => decide (Q j = m)) i)) T → RQ g sz Q → (∀ o, o < nO g0 → g 4 o = nI (min (sN (fun j => if A 2 (Q j) = nI o then 1 else 0) i) (hdN g0 o))) → w_X4_passHour_29 (r + 1) c (nI h) (nI sz) (nI i) g K := by
  have hn := hq.1.2.1.Ma.1
  have hO := hq.1.2.1.O.1
  have hsz := hQ.1
  have pA : ∀ i m, (prc g0 A (nMa g0) m && anyN (fun j => decide (Q j = m)) i) = true → A 1 m = 0 := by
    intro i m z
    unfold prc at z
    simp only [Bool.and_eq_true, decide_eq_true_eq] at z
    exact z.1.2.1
  intro r
  induction r with
  | zero =>
    intro i g hi hs hr h4
    have hi : i = sz := by omega
    rw [w_X4_passHour_29]
    refine it (by rw [hi]; exact end_c rfl) (k g ?_)
    have e : PD g0 F h A (fun m => prc g0 A (nMa g0) m && anyN (fun j => decide (Q j = m)) i) = PD g0 F h A (prc g0 A (nMa g0)) := by
      refine PD_congr (fun m => ?_)
      cases z : prc g0 A (nMa g0) m
      · rfl
      · rw [Bool.true_and, anyN_t]
        have z2 := z
        unfold prc at z2
        simp only [Bool.and_eq_true, decide_eq_true_eq] at z2
        obtain ⟨j, hj, e⟩ := QL_mem hQ z2.1 z2.2.1
        exact ⟨j, by omega, decide_eq_true e⟩
    rw [← e]
    exact hs
  | succ r ih =>
    intro i g hi hs hr h4
    rw [w_X4_passHour_29]
    have H := hs.1.stc hc
    obtain ⟨hqi, hq1⟩ := hQ.2.1 i (by omega)
    obtain ⟨⟨o, ho, eo⟩, _⟩ := hA (Q i) hqi
    have dist : ∀ j, j < i → Q j ≠ Q i := by
      intro j hj z
      have := hQ.2.2.1 j i hj (by omega)
      rw [z, lex_ir] at this
      cases this
    have pf : (fun m => prc g0 A (nMa g0) m && anyN (fun j => decide (Q j = m)) i) (Q i) = false := by
      have : anyN (fun j => decide (Q j = Q i)) i = false := by
        cases z : anyN (fun j => decide (Q j = Q i)) i
        · rfl
        · obtain ⟨j, hj, e⟩ := anyN_t.mp z
          exact absurd (of_decide_eq_true e) (dist j hj)
      show (prc g0 A (nMa g0) (Q i) && anyN (fun j => decide (Q j = Q i)) i) = false
      rw [this, Bool.and_false]
    have eo2 : g (c + 2) (Q i) = nI o := by
      rw [hs.1.at (by omega) (by omega) hqi, PD_no pf]
      exact eo
    obtain ⟨hd, ed⟩ := hq.1.2.2.1.hd ho
    have ed' : g 7 o = nI (hdN g0 o) := by rw [H 7 o rfl]; exact ed
    have hcnt := cnt_le (fun j => A 2 (Q j) = nI o) i
    have rk := rk_cnt hQ (i := i) (by omega) eo
    have hp : prc g0 A (nMa g0) (Q i) = decide (sN (fun j => if A 2 (Q j) = nI o then 1 else 0) i < hdN g0 o) := by
      unfold prc
      rw [decide_eq_true hqi, decide_eq_true hq1, rk, eo, tn_n (by omega)]
      rfl
    have other : ∀ m, m ≠ Q i → (prc g0 A (nMa g0) m && anyN (fun j => decide (Q j = m)) (i + 1)) = (prc g0 A (nMa g0) m && anyN (fun j => decide (Q j = m)) i) := by
      intro m hm
      rw [anyN, decide_eq_false (p := Q i = m) (fun z => hm z.symm), Bool.or_false]
    rw [show nI i + 1 = nI (i + 1) from (nI_succ i).symm]
    refine ie (nend_c rfl (by omega) (by omega)) (rd_v rfl (by omega) (by omega) (hr i (by omega)) (rd_v rfl (by omega) (by omega) eo2 (rd_v rfl (by omega) (by omega) (h4 o ho) (rd_v rfl (by omega) (by omega) ed' (j_I (is (fun c1 => ?_) (fun c1 => rd_v rfl (by omega) (by omega) (h4 o ho) (wr_n (k := o) (by omega) (by omega) ?_))))))))
    · rw [le_n (by omega) (by omega)] at c1
      refine ih (i + 1) g (by omega) ?_ hr (fun o2 ho2 => ?_)
      · have e : PD g0 F h A (fun m => prc g0 A (nMa g0) m && anyN (fun j => decide (Q j = m)) (i + 1)) = PD g0 F h A (fun m => prc g0 A (nMa g0) m && anyN (fun j => decide (Q j = m)) i) := by
          refine PD_congr (fun m => ?_)
          by_cases z : m = Q i
          · subst z
            rw [hp, decide_eq_false (by omega)]
            rfl
          · exact other m z
        rw [e]
        exact hs
      · rw [h4 o2 ho2, sN]
        by_cases z : A 2 (Q i) = nI o2
        · have : o2 = o := by
            rw [eo, eq_n (by omega) (by omega)] at z
            exact z.symm
          subst this
          rw [if_pos z, show min (sN (fun j => if A 2 (Q j) = nI o2 then 1 else 0) i) (hdN g0 o2) = min (sN (fun j => if A 2 (Q j) = nI o2 then 1 else 0) i + 1) (hdN g0 o2) by omega]
        · rw [if_neg z]
          rfl
    · rw [le_n (by omega) (by omega)] at c1
      have hs4 : CF c g0 (gu g 4 o (nI (min (sN (fun j => if A 2 (Q j) = nI o then 1 else 0) i) (hdN g0 o)) + 1)) (gu g 4 o (nI (min (sN (fun j => if A 2 (Q j) = nI o then 1 else 0) i) (hdN g0 o)) + 1)) (PD g0 F h A (fun m => prc g0 A (nMa g0) m && anyN (fun j => decide (Q j = m)) i)) := ⟨CS_gu hc hs.1 (q := 4) (by omega) _ _, rfl, rfl, rfl⟩
      refine s4_see hc hq hs4 hqi (by omega) (fun m hm => ((IA_PD hq hA (pA i)).1 m hm).1) (fun g' h' => ?_)
      rw [PD_step (p' := fun m => prc g0 A (nMa g0) m && anyN (fun j => decide (Q j = m)) (i + 1)) pf (by show (prc g0 A (nMa g0) (Q i) && anyN (fun j => decide (Q j = Q i)) (i + 1)) = true; rw [hp, decide_eq_true (by omega), anyN, decide_eq_true (p := Q i = Q i) rfl, Bool.or_true]; rfl) other] at h'
      refine ih (i + 1) g' (by omega) ⟨h'.1, fun c43 => ?_⟩ (fun j hj => ?_) (fun o2 ho2 => ?_)
      · intro m hm j hj h40
        have e51 : g' 51 = g 51 := by
          subst c43
          have := h'.2.2.2
          rw [show gu g 4 o (nI (min (sN (fun j => if A 2 (Q j) = nI o then 1 else 0) i) (hdN g0 o)) + 1) (43 + 8) = g 51 from gu_k _ _ _ (by decide)] at this
          exact this
        rw [e51]
        refine hs.2 c43 m hm j ?_ h40
        rw [(IA_PD hq hA (pA i)).2 m hm]
        rw [(IA_PD hq hA (pA (i + 1))).2 m hm] at hj
        exact hj
      · rw [h'.2.1, gu_k _ _ _ (by decide)]
        exact hr j hj
      · rw [h'.2.2.1, sN]
        by_cases z : A 2 (Q i) = nI o2
        · have : o2 = o := by
            rw [eo, eq_n (by omega) (by omega)] at z
            exact z.symm
          subst this
          rw [gu_s, if_pos z, show nI (min (sN (fun j => if A 2 (Q j) = nI o2 then 1 else 0) i) (hdN g0 o2)) + 1 = nI (min (sN (fun j => if A 2 (Q j) = nI o2 then 1 else 0) i) (hdN g0 o2) + 1) from (nI_succ _).symm, show min (sN (fun j => if A 2 (Q j) = nI o2 then 1 else 0) i) (hdN g0 o2) + 1 = min (sN (fun j => if A 2 (Q j) = nI o2 then 1 else 0) i + 1) (hdN g0 o2) by omega]
        · have : o2 ≠ o := fun y => z (by rw [y]; exact eo)
          rw [gu_i _ _ this, if_neg z]
          exact h4 o2 ho2
theorem s4_passHour {c h : Nat} {g0 g D : fp_G} {F : Nat → (Nat → Int32) → Bool} {T : Nat → Int32} {K : Int32 → fp_G → Prop} (hc : isC c) (hq : QQ g0 F) (hh : h ≤ 4000) (hI : IV g0 D h) (hs : CT c g0 g D T)
    (k : ∀ g', CT c g0 g' (hourD g0 F D h) (arrT D T h (nMa g0)) → K 0 g') : w_X4_passHour c (nI h) g K := by
  obtain ⟨hn, h5, _⟩ := hq.1.2.1.Ma
  have hO := hq.1.2.1.O.1
  have H := hs.1.stc hc
  have hA : IA g0 (arrD D h (nMa g0)) (h + 2) := IV_arr hI rfl
  unfold w_X4_passHour
  rw [show g 37 5 = nI (nMa g0) by rw [H 37 5 rfl]; exact h5]
  refine s0_arrive hc hn hO hI hh hs (fun g1 hs1 => s4_lineUp hc hn h5 hs1 (fun g2 sz Q hs2 hQ hr2 => s_fill (fun f hf => ⟨sz + 1, ?_⟩)))
  have e0 : PD g0 F h (arrD D h (nMa g0)) (fun m => prc g0 (arrD D h (nMa g0)) (nMa g0) m && anyN (fun j => decide (Q j = m)) 0) = arrD D h (nMa g0) := PD_zero (fun m => Bool.and_false _)
  refine s4_pass29 hc hq hh hA hQ k sz 0 _ (by omega) ⟨?_, fun c43 => by rw [gc_k _ _ (by decide), e0]; exact hs2.2 c43⟩ (fun i hi => by rw [gc_k _ _ (by decide)]; exact hr2 i hi) (fun o ho => ?_)
  · rw [e0]
    exact CS_gc hc hs2.1 (by omega) f
  · show f o = nI (min 0 (hdN g0 o))
    rw [hf o (by omega), Nat.zero_min]
    rfl
theorem IV_hour {g D : fp_G} {F : Nat → (Nat → Int32) → Bool} {h : Nat} (hq : QQ g F) (hI : IV g D h) : IV g (hourD g F D h) (h + 1) := by
  have hA : IA g (arrD D h (nMa g)) (h + 2) := IV_arr hI rfl
  exact (IA_PD hq hA (fun m z => by unfold prc at z; simp only [Bool.and_eq_true, decide_eq_true_eq] at z; exact z.2.1)).1
