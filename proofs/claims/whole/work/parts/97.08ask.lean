/-! ===== far, late, is, list, stateOf, manAt ===== -/
theorem outS_k (a : Int32) (l h : Int) : (outS a l h = 0 ∧ l ≤ a.toInt ∧ a.toInt ≤ h) ∨ ∃ k : Nat, k < 7 ∧ outS a l h = - nI k ∧ ¬ (0 : Int32) ≤ - nI k ∧ ¬ (- nI k = 0) ∧ - (- nI k) = nI k := by
  rcases outS_c a l h with ⟨e, _⟩ | ⟨e, _⟩ | ⟨e, c⟩
  · exact Or.inr ⟨4, by decide, e, by decide, by decide, by decide⟩
  · exact Or.inr ⟨6, by decide, e, by decide, by decide, by decide⟩
  · exact Or.inl ⟨e, c⟩
/-- the part of R that the queries need -/
def Q (g : fp_G) : Prop := Same g ∧ Cnt g ∧ VNet g ∧ VRoll g ∧ VFar g
theorem Q.fd {g : fp_G} (h : Q g) {f : Nat → Int32} (hf : ∀ k, k < 144 → f k = g 9 k) : Fdd (gc g 78 f) := ⟨hf, h.1.2.2.1, h.2.2.2.2.1⟩
theorem Q.ff {g : fp_G} (h : Q g) (f : Nat → Int32) : Q (gc g 78 f) := h
theorem Q.find {g : fp_G} {K : Int32 → fp_G → Prop} (h : Q g) (k : ∀ f, Fdd (gc g 78 f) → Q (gc g 78 f) → K 0 (gc g 78 f)) : w_X9_findFar g K := s9_findFar h.1 h.2.1 h.2.2.1 h.2.2.2.2 (fun f hf => k f (h.fd hf) (h.ff f))
theorem s8_reached {d : Nat} {g : fp_G} {K : Int32 → fp_G → Prop} (hd : d ≤ 1000000) (k : K (if d < 1000000 then nI d else -9) g) : w_X8_reachedOrNone (nI d) g K := by
  unfold w_X8_reachedOrNone
  rw [show (1000000 : Int32) = nI 1000000 from rfl]
  refine is (fun c => ?_) (fun c => ?_)
  · rw [le_n (by omega) (by omega)] at c
    rw [if_neg (by omega)] at k
    exact k
  · rw [le_n (by omega) (by omega)] at c
    rw [if_pos (by omega)] at k
    exact k
theorem stB_ff (g : fp_G) (f : Nat → Int32) (m : Int32) (h l : Nat) : stB (gc g 78 f) m h l = stB g m h l := by
  unfold stB
  rw [show pS (gc g 78 f) = pS g from rfl, show nSt (gc g 78 f) = nSt g from rfl, show gc g 78 f 26 = g 26 from rfl]
theorem uAt_ff (g : fp_G) (f : Nat → Int32) (u : Int32) (h l : Nat) : uAt (gc g 78 f) u h l = uAt g u h l := by
  unfold uAt
  rw [show pM (gc g 78 f) = pM g from rfl, show nMo (gc g 78 f) = nMo g from rfl, show gc g 78 f 20 = g 20 from rfl, show gc g 78 f 21 = g 21 from rfl]
theorem c_far {a b : Int32} {g : fp_G} {P : Int32 → Int32 → fp_G → Prop} (h : Q g) (ok : ∀ r f, P r r (gc g 78 f)) (no : ∀ r k, P r r (refG g k)) : w_X8_far a b g (fun r g1 => w_X9_far a b g1 (fun r2 g2 => P r r2 g2)) := by
  obtain ⟨hO, h6, hk6⟩ := h.2.1.O
  have hB : FarB g := h.2.2.2.2.1
  unfold w_X8_far
  by_cases ha : inN a (nO g)
  · refine ht_X2_hasOffice hO h6 ha ?_
    dsimp only [fp_j]
    refine ie (by decide) ?_
    by_cases hb : inN b (nO g)
    · refine ht_X2_hasOffice hO h6 hb (ie (by decide) ?_)
      have ha2 := ha
      have hb2 := hb
      obtain ⟨i, hi, ei⟩ := ha2
      obtain ⟨j, hj, ej⟩ := hb2
      rw [ei, ej]
      have hd := hB.d (i := i) (j := j) (by omega) (by omega)
      refine s2_far hB (by omega) (by omega) (s8_reached hd.1 ?_)
      unfold w_X9_far
      rw [← ei, ← ej]
      refine ht_X9_isOffice hO hk6 ha ?_
      dsimp only [fp_j]
      refine ie (by decide) (ht_X9_isOffice hO hk6 hb (ie (by decide) (h.find (fun f fd _ => ?_))))
      have e : 12 * a + b = nI (12 * i + j) := by rw [ei, ej, show (12 : Int32) = nI 12 from rfl, pk_mul, nI_add]
      have v : gc g 78 f 78 (12 * i + j) = nI (dN g i j) := by
        rw [fd.1 _ (by omega)]
        exact hd.2
      refine rd_v e (by omega) (by omega) v ?_
      rw [show (1000000 : Int32) = nI 1000000 from rfl]
      refine is (fun c => rd_v e (by omega) (by omega) v ?_) (fun c => ?_)
      · rw [lt_n (by omega) (by omega)] at c
        rw [if_pos c]
        exact ok _ _
      · rw [lt_n (by omega) (by omega)] at c
        rw [if_neg c]
        exact ok _ _
    · refine hf_X2_hasOffice hO h6 hb (it rfl (e_refuse (k := 1) rfl (by decide) ?_))
      unfold w_X9_far
      refine ht_X9_isOffice hO hk6 ha ?_
      dsimp only [fp_j]
      exact ie (by decide) (hf_X9_isOffice hO hk6 hb (it rfl (e_no (k := 1) rfl (by decide) (no _ 1))))
  · refine hf_X2_hasOffice hO h6 ha ?_
    dsimp only [fp_j]
    refine it rfl (e_refuse (k := 1) rfl (by decide) ?_)
    unfold w_X9_far
    refine hf_X9_isOffice hO hk6 ha ?_
    dsimp only [fp_j]
    exact it rfl (e_no (k := 1) rfl (by decide) (no _ 1))
theorem c_late {a : Int32} {g : fp_G} {P : Int32 → Int32 → fp_G → Prop} (h : Q g) (ok : ∀ r f, P r r (gc g 78 f)) (no : ∀ r k, P r r (refG g k)) : w_X8_late a g (fun r g1 => w_X9_late a g1 (fun r2 g2 => P r r2 g2)) := by
  obtain ⟨hO, h6, hk6⟩ := h.2.1.O
  have hB : FarB g := h.2.2.2.2.1
  unfold w_X8_late
  by_cases ha : inN a (nO g)
  · refine ht_X2_hasOffice hO h6 ha (ie (by decide) ?_)
    have ha2 := ha
    obtain ⟨i, hi, ei⟩ := ha2
    rw [ei]
    refine s2_late hB (by omega) (s8_reached (hB.late (by omega)) ?_)
    unfold w_X9_late
    rw [← ei]
    refine ht_X9_isOffice hO hk6 ha (ie (by decide) (h.find (fun f fd _ => ?_)))
    rw [ei]
    refine s9_lateOf fd (by omega) ?_
    exact ok _ _
  · refine hf_X2_hasOffice hO h6 ha (it rfl (e_refuse (k := 1) rfl (by decide) ?_))
    unfold w_X9_late
    exact hf_X9_isOffice hO hk6 ha (it rfl (e_no (k := 1) rfl (by decide) (no _ 1)))
theorem c_is {u x : Int32} {g : fp_G} {P : Int32 → Int32 → fp_G → Prop} (h : Q g) (ok : ∀ r, P r r g) (no : ∀ r k, P r r (refG g k)) : w_X8_is u x g (fun r g1 => w_X9_is u x g1 (fun r2 g2 => P r r2 g2)) := by
  unfold w_X8_is
  by_cases hu : inN u 16
  · refine ht_X8_isUnit hu ?_
    dsimp only [fp_j]
    refine ie (by decide) (e_outside (l := 0) (h := 2000) rfl rfl ?_)
    rcases outS_k x 0 2000 with ⟨e, c⟩ | ⟨k, hk, e, h1, h2, h3⟩
    · obtain ⟨t, et, ht⟩ := nat_of (by omega) c.1 c.2
      rw [e]
      refine it (by decide) ?_
      rw [et]
      refine s6_unitAt (l := 0) h.2.1 h.2.2.2.1 (by omega) (by omega) ?_
      unfold w_X9_is
      rw [← et]
      refine ht_X9_isUnit hu (ie (by decide) (e_out (l := 0) (h := 2000) rfl rfl ?_))
      rw [e]
      refine it rfl ?_
      rw [et]
      exact s9_unitAt (l := 0) h.1 h.2.1 h.2.2.2.1 (Or.inl ⟨rfl, rfl⟩) (by omega) (ok _)
    · rw [e]
      refine ie h1 (e_refuse (k := k) h3 hk ?_)
      unfold w_X9_is
      refine ht_X9_isUnit hu (ie (by decide) (e_out (l := 0) (h := 2000) rfl rfl ?_))
      rw [e]
      exact ie h2 (e_no (k := k) h3 hk (no _ k))
  · refine hf_X8_isUnit hu ?_
    dsimp only [fp_j]
    refine it rfl (ie (by decide) (e_refuse (k := 1) rfl (by decide) ?_))
    unfold w_X9_is
    exact hf_X9_isUnit hu (it rfl (e_no (k := 1) rfl (by decide) (no _ 1)))
theorem c_list {o u x : Int32} {g : fp_G} {P : Int32 → Int32 → fp_G → Prop} (h : Q g) (ok : ∀ r f, P r r (gc g 78 f)) (no : ∀ r k, P r r (refG g k)) : w_X8_list o u x g (fun r g1 => w_X9_list o u x g1 (fun r2 g2 => P r r2 g2)) := by
  obtain ⟨hO, h6, hk6⟩ := h.2.1.O
  have hB : FarB g := h.2.2.2.2.1
  unfold w_X8_list
  by_cases ho : inN o (nO g)
  · refine ht_X2_hasOffice hO h6 ho ?_
    dsimp only [fp_j]
    refine ie (by decide) ?_
    by_cases hu : inN u 16
    · refine ht_X8_isUnit hu (ie (by decide) (ie (by decide) (e_outside (l := 0) (h := 2000) rfl rfl ?_)))
      rcases outS_k x 0 2000 with ⟨e, c⟩ | ⟨k, hk, e, h1, h2, h3⟩
      · obtain ⟨t, et, ht⟩ := nat_of (by omega) c.1 c.2
        have ho2 := ho
        obtain ⟨i, hi, ei⟩ := ho2
        rw [e]
        refine it (by decide) ?_
        rw [et, ei]
        refine s2_late hB (by omega) (s6_unitAt h.2.1 h.2.2.2.1 (by omega) (hB.late (by omega)) ?_)
        unfold w_X9_list
        rw [← et, ← ei]
        refine ht_X9_isOffice hO hk6 ho ?_
        dsimp only [fp_j]
        refine ie (by decide) (ht_X9_isUnit hu (ie (by decide) (e_out (l := 0) (h := 2000) rfl rfl ?_)))
        rw [e]
        refine it rfl (h.find (fun f fd q => ?_))
        rw [et]
        refine s9_unitAt (l := lateN g i) q.1 q.2.1 q.2.2.2.1 (Or.inr ⟨fd, i, by omega, ei, rfl⟩) (by omega) ?_
        rw [uAt_ff]
        exact ok _ _
      · rw [e]
        refine ie h1 (e_refuse (k := k) h3 hk ?_)
        unfold w_X9_list
        refine ht_X9_isOffice hO hk6 ho ?_
        dsimp only [fp_j]
        refine ie (by decide) (ht_X9_isUnit hu (ie (by decide) (e_out (l := 0) (h := 2000) rfl rfl ?_)))
        rw [e]
        exact ie h2 (e_no (k := k) h3 hk (no _ k))
    · refine hf_X8_isUnit hu (it rfl (it rfl (ie (by decide) (e_refuse (k := 1) rfl (by decide) ?_))))
      unfold w_X9_list
      refine ht_X9_isOffice hO hk6 ho ?_
      dsimp only [fp_j]
      exact ie (by decide) (hf_X9_isUnit hu (it rfl (e_no (k := 1) rfl (by decide) (no _ 1))))
  · refine hf_X2_hasOffice hO h6 ho ?_
    dsimp only [fp_j]
    refine it rfl (it rfl (ie (by decide) (e_refuse (k := 1) rfl (by decide) ?_)))
    unfold w_X9_list
    refine hf_X9_isOffice hO hk6 ho ?_
    dsimp only [fp_j]
    exact it rfl (e_no (k := 1) rfl (by decide) (no _ 1))
theorem c_manAt {x : Int32} {g : fp_G} {P : Int32 → Int32 → fp_G → Prop} (h : Q g) (hN : Now g) (ok : ∀ r, P r r g) (no : ∀ r k, P r r (refG g k)) : w_X8_manAt x g (fun r g1 => w_X9_manAt x g1 (fun r2 g2 => P r r2 g2)) := by
  obtain ⟨hM, h7, hk7⟩ := h.2.1.Me
  obtain ⟨hn, h9, hk9⟩ := hN.n
  unfold w_X8_manAt
  by_cases hm : inN x (nMe g)
  · refine ht_X6_hasMan hM h7 hm (ie (by decide) ?_)
    have hm2 := hm
    obtain ⟨m, hm2, em⟩ := hm2
    rw [em, h9]
    refine s6_manIsAt h.2.1 h.2.2.2.1 (by omega) (by omega) ?_
    unfold w_X9_manAt
    rw [← em]
    refine ht_X9_isMan hM hk7 hm (ie (by decide) ?_)
    rw [em, hk9]
    exact s9_whereIs h.1 h.2.1 h.2.2.2.1 (by omega) (by omega) (ok _)
  · refine hf_X6_hasMan hM h7 hm (it rfl (e_refuse (k := 1) rfl (by decide) ?_))
    unfold w_X9_manAt
    exact hf_X9_isMan hM hk7 hm (it rfl (e_no (k := 1) rfl (by decide) (no _ 1)))
theorem c_stateOf {x y o : Int32} {g : fp_G} {P : Int32 → Int32 → fp_G → Prop} (h : Q g) (ok : ∀ r f, P r r (gc g 78 f)) (no : ∀ r k, P r r (refG g k)) : w_X8_stateOf x y o g (fun r g1 => w_X9_stateOf x y o g1 (fun r2 g2 => P r r2 g2)) := by
  obtain ⟨hM, h7, hk7⟩ := h.2.1.Me
  obtain ⟨hO, h6, hk6⟩ := h.2.1.O
  have hB : FarB g := h.2.2.2.2.1
  unfold w_X8_stateOf
  refine j_I ?_
  by_cases hm : inN x (nMe g)
  · have hm2 := hm
    obtain ⟨m, hm2, em⟩ := hm2
    by_cases c1 : o = -1
    · refine it c1 (ht_X6_hasMan hM h7 hm (j_I (j_I (ie (by decide) (j_I (ie (by decide) (j_I (ie (by decide) (e_outside (l := 0) (h := 2000) rfl rfl ?_)))))))))
      rcases outS_k y 0 2000 with ⟨e, c⟩ | ⟨k, hk, e, h1, h2, h3⟩
      · obtain ⟨t, et, ht⟩ := nat_of (by omega) c.1 c.2
        rw [e]
        refine it (by decide) (ie (by decide) ?_)
        rw [et]
        refine s6_stateBy (l := 0) h.2.1 h.2.2.2.1 (by omega) (by omega) ?_
        unfold w_X9_stateOf
        rw [← et]
        refine ht_X9_isMan hM hk7 hm ?_
        dsimp only [fp_j]
        refine ie (by decide) (it c1 (e_out (l := 0) (h := 2000) rfl rfl ?_))
        rw [e]
        refine it rfl (h.find (fun f fd q => ?_))
        rw [et]
        refine s9_stateAt (l := 0) q.1 q.2.1 q.2.2.2.1 (Or.inl ⟨c1, rfl⟩) (by omega) ?_
        rw [stB_ff]
        exact ok _ _
      · rw [e]
        refine ie h1 (e_refuse (k := k) h3 hk ?_)
        unfold w_X9_stateOf
        refine ht_X9_isMan hM hk7 hm ?_
        dsimp only [fp_j]
        refine ie (by decide) (it c1 (e_out (l := 0) (h := 2000) rfl rfl ?_))
        rw [e]
        exact ie h2 (e_no (k := k) h3 hk (no _ k))
    · refine ie c1 (ht_X6_hasMan hM h7 hm (j_I (j_I (ie (by decide) (j_I (it rfl ?_))))))
      by_cases ho : inN o (nO g)
      · refine ht_X2_hasOffice hO h6 ho (ie (by decide) (j_I (ie (by decide) (e_outside (l := 0) (h := 2000) rfl rfl ?_))))
        rcases outS_k y 0 2000 with ⟨e, c⟩ | ⟨k, hk, e, h1, h2, h3⟩
        · obtain ⟨t, et, ht⟩ := nat_of (by omega) c.1 c.2
          have ho2 := ho
          obtain ⟨i, hi, ei⟩ := ho2
          rw [e]
          refine it (by decide) (it rfl ?_)
          rw [et, ei]
          refine s2_late hB (by omega) (s6_stateBy h.2.1 h.2.2.2.1 (by omega) (hB.late (by omega)) ?_)
          unfold w_X9_stateOf
          rw [← et, ← ei]
          refine ht_X9_isMan hM hk7 hm ?_
          dsimp only [fp_j]
          refine ie (by decide) (ie c1 (ht_X9_isOffice hO hk6 ho (ie (by decide) (e_out (l := 0) (h := 2000) rfl rfl ?_))))
          rw [e]
          refine it rfl (h.find (fun f fd q => ?_))
          rw [et]
          refine s9_stateAt (l := lateN g i) q.1 q.2.1 q.2.2.2.1 (Or.inr ⟨fd, i, by omega, ei, rfl⟩) (by omega) ?_
          rw [stB_ff]
          exact ok _ _
        · rw [e]
          refine ie h1 (e_refuse (k := k) h3 hk ?_)
          unfold w_X9_stateOf
          refine ht_X9_isMan hM hk7 hm ?_
          dsimp only [fp_j]
          refine ie (by decide) (ie c1 (ht_X9_isOffice hO hk6 ho (ie (by decide) (e_out (l := 0) (h := 2000) rfl rfl ?_))))
          rw [e]
          exact ie h2 (e_no (k := k) h3 hk (no _ k))
      · refine hf_X2_hasOffice hO h6 ho (it rfl (j_I (it rfl (ie (by decide) (e_refuse (k := 1) rfl (by decide) ?_)))))
        unfold w_X9_stateOf
        refine ht_X9_isMan hM hk7 hm ?_
        dsimp only [fp_j]
        exact ie (by decide) (ie c1 (hf_X9_isOffice hO hk6 ho (it rfl (e_no (k := 1) rfl (by decide) (no _ 1)))))
  · have m9 : w_X9_stateOf x y o (gu g 1 1 (g 1 1 + 1)) (fun r2 g2 => P (-1) r2 g2) := by
      unfold w_X9_stateOf
      refine hf_X9_isMan hM hk7 hm ?_
      dsimp only [fp_j]
      exact it rfl (e_no (k := 1) rfl (by decide) (no _ 1))
    refine is (fun _ => hf_X6_hasMan hM h7 hm (j_I (j_I (it rfl (j_I (it rfl (ie (by decide) (e_refuse (k := 1) rfl (by decide) m9)))))))) (fun _ => hf_X6_hasMan hM h7 hm (j_I (j_I (it rfl (j_I (it rfl (ie (by decide) (e_refuse (k := 1) rfl (by decide) m9))))))))
