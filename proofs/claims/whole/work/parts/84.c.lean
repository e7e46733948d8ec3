def fp_far0 (f : Nat → Int32) : Prop := ∀ j, j < 144 → f j = if j % 13 = 0 then 0 else 1000000
/-- what is left to show, with no machine in it -/
def fp_goal : Prop := ∀ (N : Nat) (xs f : Nat → Int32), N ≤ 3072 → fp_far0 f → ∃ n, w_L_law_18 n N xs 0 (fp_g0 f) (fun r _ => r = 1)
set_option maxRecDepth 100000 in
set_option maxHeartbeats 4000000 in
theorem start_open (hpure : fp_goal) {p : Program} {e : Env} {s : State} {m : MethodId} {below : List Frame} {meth : Method} {c : Code} (l : Launch) {b L : Nat} {xs : Nat → Int32} (hL : L ≤ 3072) (C0 : lw_At p s m meth c b L xs) : W p l e room_1 s m #[Value.ref b] below meth c s.heap [] 0 0 (lw_Z below #[Value.ref b] s) (entryFrame m ([Value.ref b] : List Value).toArray 4) := by
  obtain ⟨hx, hb, hr, hml, hown, hts, hX, hbl, hlocks, hgv⟩ := id C0
  have hlw : ∀ w ∈ fp_lw, w.before #[Value.ref b] s = true := fun w hw => hts w (st_lw hw)
  have hs := flat_of_before _ hgv
  obtain ⟨c0, iS0, hKn0⟩ := u_known (C := RX0) (T := TX0) (N := 8) (n := 8) hlw in_X0 (hlw _ nw_X0)
  obtain ⟨c1, iS1, hKn1⟩ := u_known (C := RX1) (T := TX1) (N := 6) (n := 6) hlw in_X1 (hlw _ nw_X1)
  obtain ⟨c2, iS2, hKn2⟩ := u_known (C := RX2) (T := TX2) (N := 14) (n := 14) hlw in_X2 (hlw _ nw_X2)
  obtain ⟨c3, iS3, hKn3⟩ := u_known (C := RX3) (T := TX3) (N := 7) (n := 7) hlw in_X3 (hlw _ nw_X3)
  obtain ⟨c4, iS4, hKn4⟩ := u_known (C := RX4) (T := TX4) (N := 8) (n := 8) hlw in_X4 (hlw _ nw_X4)
  obtain ⟨c5, iS5, hKn5⟩ := u_known (C := RX5) (T := TX5) (N := 7) (n := 7) hlw in_X5 (hlw _ nw_X5)
  obtain ⟨c6, iS6, hKn6⟩ := u_known (C := RX6) (T := TX6) (N := 13) (n := 13) hlw in_X6 (hlw _ nw_X6)
  obtain ⟨c7, iS7, hKn7⟩ := u_known (C := RX7) (T := TX7) (N := 7) (n := 7) hlw in_X7 (hlw _ nw_X7)
  obtain ⟨c8, iS8, hKn8⟩ := u_known (C := RX8) (T := TX8) (N := 10) (n := 10) hlw in_X8 (hlw _ nw_X8)
  obtain ⟨c9, iS9, hKn9⟩ := u_known (C := RX9) (T := TX9) (N := 77) (n := 77) hlw in_X9 (hlw _ nw_X9)
  obtain ⟨dC, dI, hKc⟩ : ∃ (dC : Nat → ClassId) (dI : Nat → Nat → Nat), ∀ (k : Nat) (q : vw_C), vwCl[k]? = some q → u_Kn s q.1 q.2.1 q.2.2 (dC k) (dI k) := by
    refine ⟨fun k => [c0, c1, c2, c3, c4, c5, c6, c7, c8, c9].getD k c0, fun k => [iS0, iS1, iS2, iS3, iS4, iS5, iS6, iS7, iS8, iS9].getD k iS0, ?_⟩
    intro k q hq
    match k, hq with
    | 0, hq => cases hq; exact hKn0
    | 1, hq => cases hq; exact hKn1
    | 2, hq => cases hq; exact hKn2
    | 3, hq => cases hq; exact hKn3
    | 4, hq => cases hq; exact hKn4
    | 5, hq => cases hq; exact hKn5
    | 6, hq => cases hq; exact hKn6
    | 7, hq => cases hq; exact hKn7
    | 8, hq => cases hq; exact hKn8
    | 9, hq => cases hq; exact hKn9
    | k + 10, hq => simp [vwCl] at hq
  clear hKn0 hKn1 hKn2 hKn3 hKn4 hKn5 hKn6 hKn7 hKn8 hKn9
  obtain ⟨ai, ai1, ai2⟩ := st_arr (hlw _ ar_int)
  obtain ⟨az, az1, az2⟩ := st_arr (hlw _ ar_boolean)
  obtain ⟨ab, ab1, ab2⟩ := st_arr (hlw _ ar_byte)
  obtain ⟨adK, adV, hStr, hR4, hR5, hR8⟩ := st_str hts hgv
  obtain ⟨E0, hE0⟩ : ∃ E0 : fp_E, E0 = ((dC, dI), (fun k => if k = 124 then adK 0 else if k = 125 then adK 1 else if k = 126 then adV 0 else adV 1), fun ty => match ty with | .int => ai | .boolean => az | _ => ab) := ⟨_, rfl⟩
  have hK : va_K E0.1 vwCl [(E0.2.2 .int, .int), (E0.2.2 .boolean, .boolean), (E0.2.2 .byte, .byte)] s := by
    subst hE0
    refine ⟨hKc, fun k q h => ?_⟩
    match k, h with
    | 0, h => cases h; exact ⟨ai1, ai2⟩
    | 1, h => cases h; exact ⟨az1, az2⟩
    | 2, h => cases h; exact ⟨ab1, ab2⟩
    | k + 3, h => simp at h
  have hStr0 : vk_S 2 [9, 3] [[107, 119, 97, 104, 115, 117, 111, 98, 99], [60, 61, 62]] (fun i => E0.2.1 (fp_NC + i)) (fun i => E0.2.1 (fp_NC + 2 + i)) (fun q => s.heap.size ≤ q) s s.heap := by
    subst hE0
    refine st_cong hStr (fun i hi => ?_) (fun i hi => ?_)
    · rcases (show i = 0 ∨ i = 1 by omega) with rfl | rfl <;> rfl
    · rcases (show i = 0 ∨ i = 1 by omega) with rfl | rfl <;> rfl
  have a0 : E0.2.1 fp_NC = adK 0 := by subst hE0; rfl
  have a1 : E0.2.1 (fp_NC + 1) = adK 1 := by subst hE0; rfl
  clear hE0
  have hv1 : (Term.static RJ0 "COMPACT_STRINGS" "Z").eval #[Value.ref b] s none [] s = some (.int 1) := Cond.eq_int (hs (.eq (.static RJ0 "COMPACT_STRINGS" "Z") (.int 1)) (by decide +kernel)) rfl
  have hZ : va_Z RJ0 "COMPACT_STRINGS" "Z" (.int 1) (fun q => s.heap.size ≤ q) s s.heap := va_Zof (hts (.laysStatic RJ0 "COMPACT_STRINGS" "Z") (List.mem_of_getElem? (i := 312) (by decide +kernel))) (hts (.initialized RJ0) (List.mem_of_getElem? (i := 69) (by decide +kernel))) hv1 (fun a ha => Nat.not_le.mpr ha)
  have hN : ∀ w ∈ fp_nests, va_Nw w s := by
    intro w hw
    simp only [fp_nests, List.mem_cons, List.not_mem_nil, or_false] at hw
    rcases hw with rfl | rfl | rfl | rfl | rfl | rfl
    · exact va_Nw.of rfl (hts _ (List.mem_of_getElem? (i := 89) (by decide +kernel)))
    · exact va_Nw.of rfl (hts _ (List.mem_of_getElem? (i := 155) (by decide +kernel)))
    · exact va_Nw.of rfl (hts _ (List.mem_of_getElem? (i := 207) (by decide +kernel)))
    · exact va_Nw.of rfl (hts _ (List.mem_of_getElem? (i := 213) (by decide +kernel)))
    · exact va_Nw.of rfl (hts _ (List.mem_of_getElem? (i := 269) (by decide +kernel)))
    · exact va_Nw.of rfl (hts _ (List.mem_of_getElem? (i := 392) (by decide +kernel)))
  have hw8 : ∃ b0, ∀ w ∈ b0 :: fp_lw, w.before #[Value.ref b] s = true := ⟨Cond.initialized RX8, fun w hw => by
    rcases List.mem_cons.mp hw with h | h
    · rw [h]; exact hlw _ nz_X8
    · exact hlw _ h⟩
  have hKN : fp_KN E0 s.heap.size s s.heap := ⟨hK, hStr0, by rw [a0]; exact hR4, hZ, hN⟩
  have hl := lv_entry ([.ref b]) (n := 4) (Nat.le_of_ble_eq_true rfl)
  rw [lg_entry_eq]
  generalize (lg_sl ([.ref b]) ++ List.replicate (4 - (lg_sl ([.ref b])).length) Slot.unset).toArray = ls at hl ⊢
  have hl : lv_has ls 4 [(0, .ref b)] := hl
  obtain ⟨Y, hY⟩ : ∃ Y : fp_Y, Y = ((p, l, e, room_1, s, m, #[Value.ref b], below, meth, c), E0, (fun q => s.heap.size ≤ q), lw_Z below #[Value.ref b] s, 4, s.heap.size) := ⟨_, rfl⟩
  have C : fp_CC Y cL_law RL := by
    subst hY
    exact ⟨hx, hb, hml, hown, hw8, hKN, fun q h => h, fun q h => Nat.not_le.mpr h, Nat.le_refl _⟩
  have hRoom : Y.1.2.2.2.1 = room_1 := by subst hY; rfl
  have hn4 : Y.2.2.2.2.1 = 4 := by subst hY; rfl
  have eE : Y.2.1 = E0 := by subst hY; rfl
  have key : WC Y 0 [some (.ref b), none, none, none] [] [] 0 0 := by
    refine wc_new C (ci := 8) (fs := [.null, .null, .null, .null, .null, .null, .null, .null, .null, .int 0]) rfl in_X8 tyX8 tyX8_ok cl_L_7 nw_X8 nz_X8 (by decide +kernel) (by rw [hRoom]; exact Nat.le_of_ble_eq_true rfl) (by rw [hRoom]; exact Nat.le_of_ble_eq_true rfl) dL_law_0 (fun h8 => ?_)
    show WC Y 3 [some (.ref b), none, none, none] [.ref h8] [(h8, .inr (8, [.null, .null, .null, .null, .null, .null, .null, .null, .null, .int 0]))] 1 10
    refine wc_dup C dL_law_3 rfl ?_
    refine wc_callI C (p := 0) (wr := []) [] si_X8 (Or.inl ml_L_9) ii_X8 rfl rfl (by decide) (by decide) dL_law_4 rfl rfl (Nat.le_of_ble_eq_true rfl) (by rw [hRoom]; exact ⟨Nat.le_of_ble_eq_true rfl, Nat.le_of_ble_eq_true rfl⟩) (by rw [hRoom]; exact Nat.le_of_ble_eq_true rfl) (by rw [hRoom]; exact Nat.le_of_ble_eq_true rfl) (fun w1 hF => ?_)
    obtain ⟨q0, q0_9, q0_9_9, q1_9_9, q2_9_9, q3_9_9, q4_9_9, q5_9_9, q6_9_9, q7_9_9, q8_9_9, q9_9_9, q10_9_9, f0_9_9, q1_9, q0_20_9, q1_20_9, q2_20_9, q3_20_9, q4_20_9, q5_20_9, q6_20_9, q7_20_9, q8_20_9, q9_20_9, q2_9, q0_31_9, q0_9_31_9, q1_9_31_9, q1_31_9, q2_31_9, q3_31_9, q4_31_9, q3_9, q0_42_9, q1_42_9, q2_42_9, q3_42_9, q4_42_9, q4_9, q5_9, q6_9, q1, q0_67, q1_67, q2_67, q3_67, q4_67, q5_67, q6_67, q7_67, q2, q0_79, q1_79, q2_79, q3_79, q4_79, q5_79, q6_79, q7_79, q3, q0_90, q1_90, q2_90, q3_90, q4_90, q4, hf, rfl⟩ := hF
    show WC Y 7 [some (.ref b), none, none, none] [.ref h8] (mk_X8 Y.2.1 h8 q0 q0_9 q0_9_9 q1_9_9 q2_9_9 q3_9_9 q4_9_9 q5_9_9 q6_9_9 q7_9_9 q8_9_9 q9_9_9 q10_9_9 f0_9_9 q1_9 q0_20_9 q1_20_9 q2_20_9 q3_20_9 q4_20_9 q5_20_9 q6_20_9 q7_20_9 q8_20_9 q9_20_9 q2_9 q0_31_9 q0_9_31_9 q1_9_31_9 q1_31_9 q2_31_9 q3_31_9 q4_31_9 q3_9 q0_42_9 q1_42_9 q2_42_9 q3_42_9 q4_42_9 q4_9 q5_9 q6_9 q1 q0_67 q1_67 q2_67 q3_67 q4_67 q5_67 q6_67 q7_67 q2 q0_79 q1_79 q2_79 q3_79 q4_79 q5_79 q6_79 q7_79 q3 q0_90 q1_90 q2_90 q3_90 q4_90 q4) 67 6814
    refine wc_astore_n C (i := 1) dL_law_7 rfl (by rw [hn4]; decide) rfl rfl ?_
    refine wc_new C (ci := 9) (fs := [.null, .null, .null, .null, .null, .null, .null, .null, .null, .null, .null, .null, .int 0, .int 0, .int 0, .int 0, .null, .null, .null, .null, .null, .null, .null, .null, .null, .null, .int 0, .int 0, .int 0, .null, .null, .null, .null, .null, .null, .null, .null, .null, .null, .null, .null, .null, .int 0, .int 0, .null, .null, .null, .null, .null, .null, .null, .int 0, .int 0, .int 0, .int 0, .null, .null, .int 0, .int 0, .int 0, .null, .null, .null, .null, .null, .null, .null, .null, .null, .null, .null, .null, .int 0, .int 0, .int 0, .int 0, .int 0]) rfl in_X9 tyX9 tyX9_ok cl_L_10 nw_X9 nz_X9 (by decide +kernel) (by rw [hRoom]; exact Nat.le_of_ble_eq_true rfl) (by rw [hRoom]; exact Nat.le_of_ble_eq_true rfl) dL_law_8 (fun h9 => ?_)
    show WC Y 11 [some (.ref b), some (.ref h8), none, none] [.ref h9] (mk_X8 Y.2.1 h8 q0 q0_9 q0_9_9 q1_9_9 q2_9_9 q3_9_9 q4_9_9 q5_9_9 q6_9_9 q7_9_9 q8_9_9 q9_9_9 q10_9_9 f0_9_9 q1_9 q0_20_9 q1_20_9 q2_20_9 q3_20_9 q4_20_9 q5_20_9 q6_20_9 q7_20_9 q8_20_9 q9_20_9 q2_9 q0_31_9 q0_9_31_9 q1_9_31_9 q1_31_9 q2_31_9 q3_31_9 q4_31_9 q3_9 q0_42_9 q1_42_9 q2_42_9 q3_42_9 q4_42_9 q4_9 q5_9 q6_9 q1 q0_67 q1_67 q2_67 q3_67 q4_67 q5_67 q6_67 q7_67 q2 q0_79 q1_79 q2_79 q3_79 q4_79 q5_79 q6_79 q7_79 q3 q0_90 q1_90 q2_90 q3_90 q4_90 q4 ++ [(h9, .inr (9, [.null, .null, .null, .null, .null, .null, .null, .null, .null, .null, .null, .null, .int 0, .int 0, .int 0, .int 0, .null, .null, .null, .null, .null, .null, .null, .null, .null, .null, .int 0, .int 0, .int 0, .null, .null, .null, .null, .null, .null, .null, .null, .null, .null, .null, .null, .null, .int 0, .int 0, .null, .null, .null, .null, .null, .null, .null, .int 0, .int 0, .int 0, .int 0, .null, .null, .int 0, .int 0, .int 0, .null, .null, .null, .null, .null, .null, .null, .null, .null, .null, .null, .null, .int 0, .int 0, .int 0, .int 0, .int 0]))]) 68 6891
    refine wc_dup C dL_law_11 rfl ?_
    refine wc_callI C (p := 67) (wr := mk_X8 Y.2.1 h8 q0 q0_9 q0_9_9 q1_9_9 q2_9_9 q3_9_9 q4_9_9 q5_9_9 q6_9_9 q7_9_9 q8_9_9 q9_9_9 q10_9_9 f0_9_9 q1_9 q0_20_9 q1_20_9 q2_20_9 q3_20_9 q4_20_9 q5_20_9 q6_20_9 q7_20_9 q8_20_9 q9_20_9 q2_9 q0_31_9 q0_9_31_9 q1_9_31_9 q1_31_9 q2_31_9 q3_31_9 q4_31_9 q3_9 q0_42_9 q1_42_9 q2_42_9 q3_42_9 q4_42_9 q4_9 q5_9 q6_9 q1 q0_67 q1_67 q2_67 q3_67 q4_67 q5_67 q6_67 q7_67 q2 q0_79 q1_79 q2_79 q3_79 q4_79 q5_79 q6_79 q7_79 q3 q0_90 q1_90 q2_90 q3_90 q4_90 q4) [0, 1, 2, 3, 4, 5, 6, 7, 8, 9, 10, 11, 12, 13, 14, 15, 16, 17, 18, 19, 20, 21, 22, 23, 24, 25, 26, 27, 28, 29, 30, 31, 32, 33, 34, 35, 36, 37, 38, 39, 40, 41, 42, 43, 44, 45, 46, 47, 48, 49, 50, 51, 52, 53, 54, 55, 56, 57, 58, 59, 60, 61, 62, 63, 64, 65, 66] si_X9 (Or.inl ml_L_12) ii_X9 rfl rfl (by decide) (by decide) dL_law_12 rfl rfl (Nat.le_of_ble_eq_true rfl) (by rw [hRoom]; exact ⟨Nat.le_of_ble_eq_true rfl, Nat.le_of_ble_eq_true rfl⟩) (by rw [hRoom]; exact Nat.le_of_ble_eq_true rfl) (by rw [hRoom]; exact Nat.le_of_ble_eq_true rfl) (fun w1 hF => ?_)
    obtain ⟨mq0, mq1, mq2, mq3, mq4, mq5, mq6, mq7, mq8, mq9, mq10, mq11, mq12, mq13, mq14, mq15, mq16, mq17, mq18, mq19, mq20, mq21, mq22, mq23, mq24, mq25, mq26, mq27, mq28, mq29, mq30, mq31, mq32, mq33, mq34, mq35, mq36, mq37, mq38, mq39, mq40, mq41, mq42, mq43, mq44, mq45, mq46, mq47, mq48, mq49, mq50, mq51, mq52, mq53, mq54, mq55, rfl⟩ := hF
    show WC Y 15 [some (.ref b), some (.ref h8), none, none] [.ref h9] (mk_X8 Y.2.1 h8 q0 q0_9 q0_9_9 q1_9_9 q2_9_9 q3_9_9 q4_9_9 q5_9_9 q6_9_9 q7_9_9 q8_9_9 q9_9_9 q10_9_9 f0_9_9 q1_9 q0_20_9 q1_20_9 q2_20_9 q3_20_9 q4_20_9 q5_20_9 q6_20_9 q7_20_9 q8_20_9 q9_20_9 q2_9 q0_31_9 q0_9_31_9 q1_9_31_9 q1_31_9 q2_31_9 q3_31_9 q4_31_9 q3_9 q0_42_9 q1_42_9 q2_42_9 q3_42_9 q4_42_9 q4_9 q5_9 q6_9 q1 q0_67 q1_67 q2_67 q3_67 q4_67 q5_67 q6_67 q7_67 q2 q0_79 q1_79 q2_79 q3_79 q4_79 q5_79 q6_79 q7_79 q3 q0_90 q1_90 q2_90 q3_90 q4_90 q4 ++ mk_X9 Y.2.1 h9 mq0 mq1 mq2 mq3 mq4 mq5 mq6 mq7 mq8 mq9 mq10 mq11 mq12 mq13 mq14 mq15 mq16 mq17 mq18 mq19 mq20 mq21 mq22 mq23 mq24 mq25 mq26 mq27 mq28 mq29 mq30 mq31 mq32 mq33 mq34 mq35 mq36 mq37 mq38 mq39 mq40 mq41 mq42 mq43 mq44 mq45 mq46 mq47 mq48 mq49 mq50 mq51 mq52 mq53 mq54 mq55) 124 13785
    refine wc_astore_n C (i := 2) dL_law_15 rfl (by rw [hn4]; decide) rfl rfl ?_
    refine wc_iconst C (v := 0) dL_law_16 (by decide) ?_
    refine wc_istore_n C (i := 3) dL_law_17 rfl (by rw [hn4]; decide) rfl rfl ?_
    intro ls H locs hl hP hD hS
    subst hY
    have hat := st_hat E0 b h8 h9 q0 q0_9 q0_9_9 q1_9_9 q2_9_9 q3_9_9 q4_9_9 q5_9_9 q6_9_9 q7_9_9 q8_9_9 q9_9_9 q10_9_9 f0_9_9 q1_9 q0_20_9 q1_20_9 q2_20_9 q3_20_9 q4_20_9 q5_20_9 q6_20_9 q7_20_9 q8_20_9 q9_20_9 q2_9 q0_31_9 q0_9_31_9 q1_9_31_9 q1_31_9 q2_31_9 q3_31_9 q4_31_9 q3_9 q0_42_9 q1_42_9 q2_42_9 q3_42_9 q4_42_9 q4_9 q5_9 q6_9 q1 q0_67 q1_67 q2_67 q3_67 q4_67 q5_67 q6_67 q7_67 q2 q0_79 q1_79 q2_79 q3_79 q4_79 q5_79 q6_79 q7_79 q3 q0_90 q1_90 q2_90 q3_90 q4_90 q4 mq0 mq1 mq2 mq3 mq4 mq5 mq6 mq7 mq8 mq9 mq10 mq11 mq12 mq13 mq14 mq15 mq16 mq17 mq18 mq19 mq20 mq21 mq22 mq23 mq24 mq25 mq26 mq27 mq28 mq29 mq30 mq31 mq32 mq33 mq34 mq35 mq36 mq37 mq38 mq39 mq40 mq41 mq42 mq43 mq44 mq45 mq46 mq47 mq48 mq49 mq50 mq51 mq52 mq53 mq54 mq55
    generalize has : ([h8, q4, q0, q4_9, q5_9, q6_9, q0_9, q0_9_9, q1_9_9, q2_9_9, q3_9_9, q4_9_9, q5_9_9, q6_9_9, q7_9_9, q8_9_9, q9_9_9, q10_9_9, q1_9, q0_20_9, q1_20_9, q2_20_9, q3_20_9, q4_20_9, q5_20_9, q6_20_9, q7_20_9, q8_20_9, q9_20_9, q2_9, q1_31_9, q2_31_9, q3_31_9, q4_31_9, q0_31_9, q0_9_31_9, q1_9_31_9, q3_9, q0_42_9, q1_42_9, q2_42_9, q3_42_9, q4_42_9, q1, q0_67, q1_67, q2_67, q3_67, q4_67, q5_67, q6_67, q7_67, q2, q0_79, q1_79, q2_79, q3_79, q4_79, q5_79, q6_79, q7_79, q3, q0_90, q1_90, q2_90, q3_90, q4_90, h9, mq0, mq1, mq2, mq3, mq4, mq5, mq6, mq7, mq8, mq9, mq10, mq11, mq12, mq13, mq14, mq15, mq16, mq17, mq18, mq19, mq20, mq21, mq22, mq23, mq24, mq25, mq26, mq27, mq28, mq29, mq30, mq31, mq32, mq33, mq34, mq35, mq36, mq37, mq38, mq39, mq40, mq41, mq42, mq43, mq44, mq45, mq46, mq47, mq48, mq49, mq50, mq51, mq52, mq53, mq54, mq55] : List Nat) = as at hat
    have hP : va_P E0.1 vwCl _ H := hP
    have hD : va_D (fun q => s.heap.size ≤ q) _ := hD
    have ha8 : as.getD 0 0 = h8 := by rw [← has]; rfl
    have ha9 : as.getD 67 0 = h9 := by rw [← has]; rfl
    clear has
    obtain ⟨n, hn⟩ := hpure L xs f0_9_9 hL hf
    have hA : ∀ q, fp_A (E0.1, st_ad E0.2.1 as b, E0.2.2) q → s.heap.size ≤ q := by
      rintro q ⟨k, hk, rfl⟩
      exact hD.2 (st_pi k) _ (hat k hk)
    have hInj : fp_Inj (E0.1, st_ad E0.2.1 as b, E0.2.2) := by
      intro i j hi hj e9
      have h7 := hD.1 (st_pi i) (st_pi j) _ _ (hat i hi) (hat j hj) e9
      rw [← st_piq i hi, ← st_piq j hj, h7]
    have hEnv : fp_Env (E0.1, st_ad E0.2.1 as b, E0.2.2) s s.heap := by
      refine ⟨hK, hInj, ?_, ?_, ?_, hZ.narrow hA⟩
      · refine st_cong (vk_S.narrow hStr0 hA) (fun i hi => ?_) (fun i hi => ?_)
        · rcases (show i = 0 ∨ i = 1 by omega) with rfl | rfl <;> rfl
        · rcases (show i = 0 ∨ i = 1 by omega) with rfl | rfl <;> rfl
      · show vk_R RX5 72 "kwahsuobc" (E0.2.1 fp_NC) s
        rw [a0]
        exact hR5
      · show vk_R RX5 80 "<=>" (E0.2.1 (fp_NC + 1)) s
        rw [a1]
        exact hR8
    have hPw : va_P E0.1 vwCl (fp_ws (E0.1, st_ad E0.2.1 as b, E0.2.2) (fp_g0 f0_9_9)) H := by
      intro k q hk
      obtain ⟨h1, rfl⟩ := fp_ws_inv hk
      exact hP (st_pi k) _ (hat k h1)
    refine W.widen (k := 600000) (n := 7302250) (Nat.le_of_ble_eq_true rfl) (Nat.le_of_ble_eq_true rfl) ?_
    refine ok_L_law_18 (Z := ((p, l, e, room_1, s, m, #[Value.ref b], below, meth, c), (E0.1, st_ad E0.2.1 as b, E0.2.2), false, (fun r _ => r = 1), 4, 1000, lw_Z below #[Value.ref b] s, 600000, 7302250, fun q => s.heap.size ≤ q))
      ⟨hx, hb, hml, hown, hw8, hEnv, hr, hlocks, ⟨Nat.le_of_ble_eq_true rfl, Nat.le_of_ble_eq_true rfl, Nat.le_of_ble_eq_true rfl, Nat.le_of_ble_eq_true rfl⟩, hA, fun q h1 h2 => absurd h2 (Nat.not_le.mpr h1)⟩
      ⟨b, rfl, rfl, rfl, rfl, rfl, hX, hbl⟩ rfl rfl n 0 (fp_g0 f0_9_9) hn ls H locs ?_ hPw hS
    show lv_has ls 4 [(0, .ref b), (1, .ref (as.getD 0 0)), (2, .ref (as.getD 67 0)), (3, .int 0)]
    rw [ha8, ha9]
    exact hl
  subst hY
  exact key ls s.heap [] hl (fun k q h => by simp at h) ⟨fun i j p q h => by simp at h, fun k q h => by simp at h⟩ va_S.rf
