/-! ===== the start: what the tables say, the two constructors, all cells in their order ===== -/
theorem st_lw {w : Cond} (h : w ∈ fp_lw) : w ∈ lw_tbl := (List.mem_filter.mp h).1
theorem st_arr {s : State} {args : Array Value} {ty : FieldType} (h : (Cond.arrayClass ty).before args s = true) : ∃ c : ClassId, ArrOfT s c ty ∧ s.vm.findClass ("[" ++ ty.toString) = some c := by
  obtain ⟨c, k, comp, h1, h2, h3⟩ := Cond.arrayClass_spec h
  exact ⟨c, fun N z => ⟨(fun k h => by cases h), k, h2, comp, h3⟩, h1⟩
def st_tm (i : Nat) : Term := if i = 0 then .string RX4 48 else .string RX5 80
theorem st_cong {len : List Nat} {byt : List (List Int32)} {a b a2 b2 : Nat → Nat} {A : Nat → Prop} {U : State} {H : Heap} (h : vk_S 2 len byt a b A U H) (e1 : ∀ i, i < 2 → a2 i = a i) (e2 : ∀ i, i < 2 → b2 i = b i) : vk_S 2 len byt a2 b2 A U H := by
  refine ⟨fun i hi => ?_, fun i j hi hj e => ?_⟩
  · rw [e1 i hi, e2 i hi]
    exact h.1 i hi
  · rw [e1 i hi, e1 j hj] at e
    exact h.2 i j hi hj e
theorem st_str {s : State} {b : Nat} (hts : ∀ w ∈ lw_tbl, w.before #[Value.ref b] s = true) (hgv : (Jvm.Cond.and given_1 narrow_1).before #[Value.ref b] s = true) : ∃ adK adV : Nat → Nat, vk_S 2 [9, 3] [[107, 119, 97, 104, 115, 117, 111, 98, 99], [60, 61, 62]] adK adV (fun q => s.heap.size ≤ q) s s.heap ∧ vk_R RX4 48 "kwahsuobc" (adK 0) s ∧ vk_R RX5 72 "kwahsuobc" (adK 0) s ∧ vk_R RX5 80 "<=>" (adK 1) s := by
  have hs := flat_of_before _ hgv
  have two : ∀ {P : Nat → Prop}, P 0 → P 1 → ∀ i : Nat, i < 2 → P i := fun {P} h0 h1 i hi => by
    rcases (show i = 0 ∨ i = 1 by omega) with rfl | rfl
    · exact h0
    · exact h1

  have hel0 : ∀ j : Nat, j < 9 → (Cond.eq (.elem (.field (.string RX4 48) "java/lang/String" "value" "[B") (.int (Int32.ofNat j))) (.int (([107, 119, 97, 104, 115, 117, 111, 98, 99] : List Int32).getD j 0))).before #[Value.ref b] s = true := by
    intro j hj
    rcases (show j = 0 ∨ j = 1 ∨ j = 2 ∨ j = 3 ∨ j = 4 ∨ j = 5 ∨ j = 6 ∨ j = 7 ∨ j = 8 by omega) with rfl | rfl | rfl | rfl | rfl | rfl | rfl | rfl | rfl
    · exact hs (.eq (.elem (.field (.string RX4 48) "java/lang/String" "value" "[B") (.int 0)) (.int 107)) (by decide +kernel)
    · exact hs (.eq (.elem (.field (.string RX4 48) "java/lang/String" "value" "[B") (.int 1)) (.int 119)) (by decide +kernel)
    · exact hs (.eq (.elem (.field (.string RX4 48) "java/lang/String" "value" "[B") (.int 2)) (.int 97)) (by decide +kernel)
    · exact hs (.eq (.elem (.field (.string RX4 48) "java/lang/String" "value" "[B") (.int 3)) (.int 104)) (by decide +kernel)
    · exact hs (.eq (.elem (.field (.string RX4 48) "java/lang/String" "value" "[B") (.int 4)) (.int 115)) (by decide +kernel)
    · exact hs (.eq (.elem (.field (.string RX4 48) "java/lang/String" "value" "[B") (.int 5)) (.int 117)) (by decide +kernel)
    · exact hs (.eq (.elem (.field (.string RX4 48) "java/lang/String" "value" "[B") (.int 6)) (.int 111)) (by decide +kernel)
    · exact hs (.eq (.elem (.field (.string RX4 48) "java/lang/String" "value" "[B") (.int 7)) (.int 98)) (by decide +kernel)
    · exact hs (.eq (.elem (.field (.string RX4 48) "java/lang/String" "value" "[B") (.int 8)) (.int 99)) (by decide +kernel)
  have hel1 : ∀ j : Nat, j < 3 → (Cond.eq (.elem (.field (.string RX5 80) "java/lang/String" "value" "[B") (.int (Int32.ofNat j))) (.int (([60, 61, 62] : List Int32).getD j 0))).before #[Value.ref b] s = true := by
    intro j hj
    rcases (show j = 0 ∨ j = 1 ∨ j = 2 by omega) with rfl | rfl | rfl
    · exact hs (.eq (.elem (.field (.string RX5 80) "java/lang/String" "value" "[B") (.int 0)) (.int 60)) (by decide +kernel)
    · exact hs (.eq (.elem (.field (.string RX5 80) "java/lang/String" "value" "[B") (.int 1)) (.int 61)) (by decide +kernel)
    · exact hs (.eq (.elem (.field (.string RX5 80) "java/lang/String" "value" "[B") (.int 2)) (.int 62)) (by decide +kernel)
  have hdif : ∀ i j : Nat, i < 2 → j < 2 → i ≠ j → (Cond.not (Cond.eq (st_tm i) (st_tm j))).before #[Value.ref b] s = true ∨ (Cond.not (Cond.eq (st_tm j) (st_tm i))).before #[Value.ref b] s = true := by
    intro i j hi hj hne
    have h9 := hs (.not (.eq (.string RX4 48) (.string RX5 80))) (by decide +kernel)
    rcases (show i = 0 ∧ j = 1 ∨ i = 1 ∧ j = 0 by omega) with ⟨rfl, rfl⟩ | ⟨rfl, rfl⟩
    · exact Or.inl h9
    · exact Or.inr h9
  obtain ⟨adK, adV, hS, hE⟩ := vk_Sof (args := #[Value.ref b]) (s := s) (N := 2) (tm := st_tm) (len := [9, 3]) (byt := [[107, 119, 97, 104, 115, 117, 111, 98, 99], [60, 61, 62]]) (A := fun q => s.heap.size ≤ q) (two (by decide) (by decide))
    (two (hs (.exactly (.string RX4 48) "java/lang/String") (by decide +kernel)) (hs (.exactly (.string RX5 80) "java/lang/String") (by decide +kernel)))
    (two (hs (.eq (.field (.string RX4 48) "java/lang/String" "coder" "B") (.int 0)) (by decide +kernel)) (hs (.eq (.field (.string RX5 80) "java/lang/String" "coder" "B") (.int 0)) (by decide +kernel)))
    (two (hs (.arrayOf (.field (.string RX4 48) "java/lang/String" "value" "[B") .byte) (by decide +kernel)) (hs (.arrayOf (.field (.string RX5 80) "java/lang/String" "value" "[B") .byte) (by decide +kernel)))
    (two (hs (.eq (.length (.field (.string RX4 48) "java/lang/String" "value" "[B")) (.int 9)) (by decide +kernel)) (hs (.eq (.length (.field (.string RX5 80) "java/lang/String" "value" "[B")) (.int 3)) (by decide +kernel)))
    (two hel0 hel1)
    hdif (fun a ha => Nat.not_le.mpr ha)
  have e48 := hE 0 (by decide)
  have e80 := hE 1 (by decide)
  have e48 : (Term.string RX4 48).eval #[Value.ref b] s none [] s = some (.ref (adK 0)) := e48
  have e80 : (Term.string RX5 80).eval #[Value.ref b] s none [] s = some (.ref (adK 1)) := e80
  obtain ⟨y, y1, y2⟩ := Cond.eq_one (hs (.eq (.string RX4 48) (.string RX5 72)) (by decide +kernel))
  have e72 : (Term.string RX5 72).eval #[Value.ref b] s none [] s = some (.ref (adK 0)) := by
    have y1 : (Term.string RX4 48).eval #[Value.ref b] s none [] s = some y := y1
    rw [e48] at y1
    cases y1
    exact y2
  exact ⟨adK, adV, hS, vk_R.of (hts (.stringRef RX4 48 "kwahsuobc") (List.mem_of_getElem? (i := 302) (by decide +kernel))) e48, vk_R.of (hts (.stringRef RX5 72 "kwahsuobc") (List.mem_of_getElem? (i := 760) (by decide +kernel))) e72, vk_R.of (hts (.stringRef RX5 80 "<=>") (List.mem_of_getElem? (i := 838) (by decide +kernel))) e80⟩
