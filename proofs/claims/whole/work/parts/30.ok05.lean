set_option maxRecDepth 20000 in
theorem ok_X7_canBeMade_4 {Z : fp_Z} (C : fp_C Z cX7_canBeMade RX7 ((Option.some Jvm.ClassFile.FieldType.boolean))) (hv : fp_V Z false) (hn : Z.2.2.2.2.1 = 5) (hd : Z.2.2.2.2.2.1 = 2) {x1 : Int32} : ∀ (n : Nat) (x2 : Int32) (x3 : Int32) (g : fp_G), w_X7_canBeMade_4 n x1 x2 x3 g Z.2.2.2.1 → WA Z 4 [some (.ref 61), some (.int x1), some (.int x2), some (.int x3), none] [] g := by
  intro n
  induction n with
  | zero => intro x2 x3 g h; exact h.elim
  | succ n ih =>
    intro x2 x3 g h
    rw [w_X7_canBeMade_4] at h
    refine wa_iload_n C (i := 3) dX7_canBeMade_4 rfl rfl ?_
    refine wa_aload_n C (i := 0) dX7_canBeMade_5 rfl rfl ?_
    refine wa_getI C (j := 3) lq_61 sh_61 rfl in_X7 (by decide) rfl f_X7_27 dX7_canBeMade_6 ?_
    refine wa_icmp_ge C (tgt := 58) dX7_canBeMade_9 (by decide) h (fun h => ?_) (fun h => ?_)
    · refine wa_iconst C (v := 1) dX7_canBeMade_58 (by decide) ?_
      exact wa_zret C hv rfl rfl dX7_canBeMade_59 h
    · refine wa_aload_n C (i := 0) dX7_canBeMade_12 rfl rfl ?_
      refine wa_getR C (j := 4) lq_61 sh_61 rfl in_X7 (by decide) rfl f_X7_21 dX7_canBeMade_13 ?_
      refine wa_iload_n C (i := 3) dX7_canBeMade_16 rfl rfl ?_
      refine wa_iald C lq_65 sh_65 dX7_canBeMade_17 h (fun v1 h => ?_)
      refine wa_istore C (i := 4) dX7_canBeMade_18 (by rw [hn]; decide) rfl rfl ?_
      refine wa_iload C dX7_canBeMade_20 rfl ?_
      refine wa_iload_n C (i := 1) dX7_canBeMade_22 rfl rfl ?_
      refine wa_callSi C s_X7_49 t_X7_isIn dX7_canBeMade_23 (ok_X7_isIn h) rfl rfl (Nat.le_of_ble_eq_true rfl) (by rw [hd]; decide) (fun v2 g1 h => ?_)
      refine fp_k1 (Q := fun x2j52 => WA Z 52 [some (.ref 61), some (.int x1), some (.int x2j52), some (.int x3), none] [] g1) h (fun x2j52 h => ?_) (fun J52 hJ52 h => ?_)
      · refine wa_iinc C (i := 3) dX7_canBeMade_52 rfl (fp_inc1 _) (by rw [hn]; decide) rfl rfl ?_
        refine wa_goto C (tgt := 4) dX7_canBeMade_55 (by decide) ?_
        exact WA.weak (ih _ _ _ h) ⟨rfl, ⟨rfl, ⟨rfl, ⟨rfl, trivial⟩⟩⟩⟩
      refine wa_if_eq C (tgt := 52) dX7_canBeMade_26 (by decide) h (fun h => ?_) (fun h => ?_)
      · exact WA.weak (hJ52 _ h) ⟨rfl, ⟨rfl, ⟨rfl, ⟨rfl, trivial⟩⟩⟩⟩
      · refine wa_iload_n C (i := 2) dX7_canBeMade_29 rfl rfl ?_
        refine wa_aload_n C (i := 0) dX7_canBeMade_30 rfl rfl ?_
        refine wa_getR C (j := 0) lq_61 sh_61 rfl in_X7 (by decide) rfl f_X7_9 dX7_canBeMade_31 ?_
        refine wa_iload C dX7_canBeMade_34 rfl ?_
        refine wa_iald C lq_62 sh_62 dX7_canBeMade_36 h (fun v3 h => ?_)
        refine wa_iadd C dX7_canBeMade_37 ?_
        refine wa_istore_n C (i := 2) dX7_canBeMade_38 rfl (by rw [hn]; decide) rfl rfl ?_
        refine wa_iload_n C (i := 2) dX7_canBeMade_39 rfl rfl ?_
        refine wa_aload_n C (i := 0) dX7_canBeMade_40 rfl rfl ?_
        refine wa_getR C (j := 1) lq_61 sh_61 rfl in_X7 (by decide) rfl f_X7_15 dX7_canBeMade_41 ?_
        refine wa_iload C dX7_canBeMade_44 rfl ?_
        refine wa_iald C lq_63 sh_63 dX7_canBeMade_46 h (fun v4 h => ?_)
        refine wa_icmp_le C (tgt := 52) dX7_canBeMade_47 (by decide) h (fun h => ?_) (fun h => ?_)
        · exact WA.weak (hJ52 _ h) ⟨rfl, ⟨rfl, ⟨rfl, ⟨rfl, trivial⟩⟩⟩⟩
        · refine wa_iconst C (v := 0) dX7_canBeMade_50 (by decide) ?_
          exact wa_zret C hv rfl rfl dX7_canBeMade_51 h

set_option maxRecDepth 20000 in
theorem ok_X7_canBeMade {l : Launch} {E : fp_E} {x1 : Int32} {g : fp_G} {K : Int32 → fp_G → Prop} (h : w_X7_canBeMade x1 g K) : fp_M l E yX7_canBeMade cX7_canBeMade 5 ((Option.some Jvm.ClassFile.FieldType.boolean)) false 2 [.ref 61, .int x1] g K := by
  unfold w_X7_canBeMade at h
  refine fp_enter rfl [some (.ref 61), some (.int x1), none, none, none] (Nat.le_of_ble_eq_true rfl) (fun q hq => hq) (fun Z hE hl hv hK hn hd C => ?_)
  subst hE hl hK
  refine wa_iconst C (v := 0) dX7_canBeMade_0 (by decide) ?_
  refine wa_istore_n C (i := 2) dX7_canBeMade_1 rfl (by rw [hn]; decide) rfl rfl ?_
  refine wa_iconst C (v := 0) dX7_canBeMade_2 (by decide) ?_
  refine wa_istore_n C (i := 3) dX7_canBeMade_3 rfl (by rw [hn]; decide) rfl rfl ?_
  obtain ⟨n4, h⟩ := h
  exact WA.weak (ok_X7_canBeMade_4 C hv hn hd n4 _ _ _ h) ⟨rfl, ⟨rfl, ⟨rfl, ⟨rfl, trivial⟩⟩⟩⟩

set_option maxRecDepth 20000 in
theorem ok_X7_sumOf_5 {Z : fp_Z} (C : fp_C Z cX7_sumOf RX7 ((Option.some Jvm.ClassFile.FieldType.int))) (hv : fp_V Z false) (hn : Z.2.2.2.2.1 = 5) (hd : Z.2.2.2.2.2.1 = 2) {a : Nat} (ha : a < fp_NC ∧ fp_sh a = .inl (.int, 7)) {x2 : Int32} : ∀ (n : Nat) (x3 : Int32) (x4 : Int32) (g : fp_G), w_X7_sumOf_5 n a x2 x3 x4 g Z.2.2.2.1 → WA Z 5 [some (.ref 61), some (.ref a), some (.int x2), some (.int x3), some (.int x4)] [] g := by
  intro n
  induction n with
  | zero => intro x3 x4 g h; exact h.elim
  | succ n ih =>
    intro x3 x4 g h
    rw [w_X7_sumOf_5] at h
    refine wa_iload C dX7_sumOf_5 rfl ?_
    refine wa_aload_n C (i := 0) dX7_sumOf_7 rfl rfl ?_
    refine wa_getI C (j := 3) lq_61 sh_61 rfl in_X7 (by decide) rfl f_X7_27 dX7_sumOf_8 ?_
    refine wa_icmp_ge C (tgt := 36) dX7_sumOf_11 (by decide) h (fun h => ?_) (fun h => ?_)
    · refine wa_iload_n C (i := 3) dX7_sumOf_36 rfl rfl ?_
      exact wa_iret C hv rfl dX7_sumOf_37 h
    · refine wa_iload C dX7_sumOf_14 rfl ?_
      refine wa_iload_n C (i := 2) dX7_sumOf_16 rfl rfl ?_
      refine wa_callSi C s_X7_49 t_X7_isIn dX7_sumOf_17 (ok_X7_isIn h) rfl rfl (Nat.le_of_ble_eq_true rfl) (by rw [hd]; decide) (fun v1 g1 h => ?_)
      refine fp_k1 (Q := fun x3j30 => WA Z 30 [some (.ref 61), some (.ref a), some (.int x2), some (.int x3j30), some (.int x4)] [] g1) h (fun x3j30 h => ?_) (fun J30 hJ30 h => ?_)
      · refine wa_iinc C (i := 4) dX7_sumOf_30 rfl (fp_inc1 _) (by rw [hn]; decide) rfl rfl ?_
        refine wa_goto C (tgt := 5) dX7_sumOf_33 (by decide) ?_
        exact WA.weak (ih _ _ _ h) ⟨rfl, ⟨rfl, ⟨rfl, ⟨rfl, ⟨rfl, trivial⟩⟩⟩⟩⟩
      refine wa_if_eq C (tgt := 30) dX7_sumOf_20 (by decide) h (fun h => ?_) (fun h => ?_)
      · exact WA.weak (hJ30 _ h) ⟨rfl, ⟨rfl, ⟨rfl, ⟨rfl, ⟨rfl, trivial⟩⟩⟩⟩⟩
      · refine wa_iload_n C (i := 3) dX7_sumOf_23 rfl rfl ?_
        refine wa_aload_n C (i := 1) dX7_sumOf_24 rfl rfl ?_
        refine wa_iload C dX7_sumOf_25 rfl ?_
        refine wa_iald C ha.1 ha.2 dX7_sumOf_27 h (fun v2 h => ?_)
        refine wa_iadd C dX7_sumOf_28 ?_
        refine wa_istore_n C (i := 3) dX7_sumOf_29 rfl (by rw [hn]; decide) rfl rfl ?_
        exact WA.weak (hJ30 _ h) ⟨rfl, ⟨rfl, ⟨rfl, ⟨rfl, ⟨rfl, trivial⟩⟩⟩⟩⟩

set_option maxRecDepth 20000 in
theorem ok_X7_sumOf {l : Launch} {E : fp_E} {a : Nat} (ha : a < fp_NC ∧ fp_sh a = .inl (.int, 7)) {x2 : Int32} {g : fp_G} {K : Int32 → fp_G → Prop} (h : w_X7_sumOf a x2 g K) : fp_M l E yX7_sumOf cX7_sumOf 5 ((Option.some Jvm.ClassFile.FieldType.int)) false 2 [.ref 61, .ref a, .int x2] g K := by
  unfold w_X7_sumOf at h
  refine fp_enter rfl [some (.ref 61), some (.ref a), some (.int x2), none, none] (Nat.le_of_ble_eq_true rfl) (fun q hq => hq) (fun Z hE hl hv hK hn hd C => ?_)
  subst hE hl hK
  refine wa_iconst C (v := 0) dX7_sumOf_0 (by decide) ?_
  refine wa_istore_n C (i := 3) dX7_sumOf_1 rfl (by rw [hn]; decide) rfl rfl ?_
  refine wa_iconst C (v := 0) dX7_sumOf_2 (by decide) ?_
  refine wa_istore C (i := 4) dX7_sumOf_3 (by rw [hn]; decide) rfl rfl ?_
  obtain ⟨n5, h⟩ := h
  exact WA.weak (ok_X7_sumOf_5 C hv hn hd ha n5 _ _ _ h) ⟨rfl, ⟨rfl, ⟨rfl, ⟨rfl, ⟨rfl, trivial⟩⟩⟩⟩⟩

set_option maxRecDepth 20000 in
theorem ok_X7_lettersOf {l : Launch} {E : fp_E} {x1 : Int32} {g : fp_G} {K : Int32 → fp_G → Prop} (h : w_X7_lettersOf x1 g K) : fp_M l E yX7_lettersOf cX7_lettersOf 2 ((Option.some Jvm.ClassFile.FieldType.int)) false 3 [.ref 61, .int x1] g K := by
  unfold w_X7_lettersOf at h
  refine fp_enter rfl [some (.ref 61), some (.int x1)] (Nat.le_of_ble_eq_true rfl) (fun q hq => hq) (fun Z hE hl hv hK hn hd C => ?_)
  subst hE hl hK
  refine wa_aload_n C (i := 0) dX7_lettersOf_0 rfl rfl ?_
  refine wa_aload_n C (i := 0) dX7_lettersOf_1 rfl rfl ?_
  refine wa_getR C (j := 2) lq_61 sh_61 rfl in_X7 (by decide) rfl f_X7_18 dX7_lettersOf_2 ?_
  refine wa_iload_n C (i := 1) dX7_lettersOf_5 rfl rfl ?_
  refine wa_callVi C lq_61 sh_61 rfl s_X7_52 i_X7_sumOf e_X7_sumOf dX7_lettersOf_6 (ok_X7_sumOf ⟨lq_64, sh_64⟩ h) rfl rfl (Nat.le_of_ble_eq_true rfl) (by rw [hd]; decide) (fun v1 g1 h => ?_)
  exact wa_iret C hv rfl dX7_lettersOf_9 h

set_option maxRecDepth 20000 in
theorem ok_X7_hoursOf {l : Launch} {E : fp_E} {x1 : Int32} {g : fp_G} {K : Int32 → fp_G → Prop} (h : w_X7_hoursOf x1 g K) : fp_M l E yX7_hoursOf cX7_hoursOf 2 ((Option.some Jvm.ClassFile.FieldType.int)) false 3 [.ref 61, .int x1] g K := by
  unfold w_X7_hoursOf at h
  refine fp_enter rfl [some (.ref 61), some (.int x1)] (Nat.le_of_ble_eq_true rfl) (fun q hq => hq) (fun Z hE hl hv hK hn hd C => ?_)
  subst hE hl hK
  refine wa_aload_n C (i := 0) dX7_hoursOf_0 rfl rfl ?_
  refine wa_aload_n C (i := 0) dX7_hoursOf_1 rfl rfl ?_
  refine wa_getR C (j := 0) lq_61 sh_61 rfl in_X7 (by decide) rfl f_X7_9 dX7_hoursOf_2 ?_
  refine wa_iload_n C (i := 1) dX7_hoursOf_5 rfl rfl ?_
  refine wa_callVi C lq_61 sh_61 rfl s_X7_52 i_X7_sumOf e_X7_sumOf dX7_hoursOf_6 (ok_X7_sumOf ⟨lq_62, sh_62⟩ h) rfl rfl (Nat.le_of_ble_eq_true rfl) (by rw [hd]; decide) (fun v1 g1 h => ?_)
  exact wa_iret C hv rfl dX7_hoursOf_9 h

set_option maxRecDepth 20000 in
theorem ok_X7_isBetter {l : Launch} {E : fp_E} {x1 : Int32} {x2 : Int32} {g : fp_G} {K : Int32 → fp_G → Prop} (h : w_X7_isBetter x1 x2 g K) : fp_M l E yX7_isBetter cX7_isBetter 4 ((Option.some Jvm.ClassFile.FieldType.boolean)) false 4 [.ref 61, .int x1, .int x2] g K := by
  unfold w_X7_isBetter at h
  refine fp_enter rfl [some (.ref 61), some (.int x1), some (.int x2), none] (Nat.le_of_ble_eq_true rfl) (fun q hq => hq) (fun Z hE hl hv hK hn hd C => ?_)
  subst hE hl hK
  refine wa_aload_n C (i := 0) dX7_isBetter_0 rfl rfl ?_
  refine wa_iload_n C (i := 1) dX7_isBetter_1 rfl rfl ?_
  refine wa_callVi C lq_61 sh_61 rfl s_X7_42 i_X7_lettersOf e_X7_lettersOf dX7_isBetter_2 (ok_X7_lettersOf h) rfl rfl (Nat.le_of_ble_eq_true rfl) (by rw [hd]; decide) (fun v1 g1 h => ?_)
  refine wa_aload_n C (i := 0) dX7_isBetter_5 rfl rfl ?_
  refine wa_iload_n C (i := 2) dX7_isBetter_6 rfl rfl ?_
  refine wa_callVi C lq_61 sh_61 rfl s_X7_42 i_X7_lettersOf e_X7_lettersOf dX7_isBetter_7 (ok_X7_lettersOf h) rfl rfl (Nat.le_of_ble_eq_true rfl) (by rw [hd]; decide) (fun v2 g2 h => ?_)
  refine wa_isub C dX7_isBetter_10 ?_
  refine wa_istore_n C (i := 3) dX7_isBetter_11 rfl (by rw [hn]; decide) rfl rfl ?_
  refine wa_iload_n C (i := 3) dX7_isBetter_12 rfl rfl ?_
  refine fp_j0 (Q := fun g3 => WA Z 33 [none, none, none, none] [] g3) h (fun g3 h => ?_) (fun J33 hJ33 h => ?_)
  · refine wa_iconst C (v := 1) dX7_isBetter_33 (by decide) ?_
    refine wa_goto C (tgt := 38) dX7_isBetter_34 (by decide) ?_
    exact wa_zret C hv rfl rfl dX7_isBetter_38 h
  refine wa_if_gt C (tgt := 33) dX7_isBetter_13 (by decide) h (fun h => ?_) (fun h => ?_)
  · exact WA.weak (hJ33 _ h) trivial
  · refine wa_iload_n C (i := 3) dX7_isBetter_16 rfl rfl ?_
    refine fp_j0 (Q := fun g4 => WA Z 37 [none, none, none, none] [] g4) h (fun g4 h => ?_) (fun J37 hJ37 h => ?_)
    · refine wa_iconst C (v := 0) dX7_isBetter_37 (by decide) ?_
      exact wa_zret C hv rfl rfl dX7_isBetter_38 h
    refine wa_if_ne C (tgt := 37) dX7_isBetter_17 (by decide) h (fun h => ?_) (fun h => ?_)
    · refine wa_aload_n C (i := 0) dX7_isBetter_20 rfl rfl ?_
      refine wa_iload_n C (i := 1) dX7_isBetter_21 rfl rfl ?_
      refine wa_callVi C lq_61 sh_61 rfl s_X7_46 i_X7_hoursOf e_X7_hoursOf dX7_isBetter_22 (ok_X7_hoursOf h) rfl rfl (Nat.le_of_ble_eq_true rfl) (by rw [hd]; decide) (fun v3 g5 h => ?_)
      refine wa_aload_n C (i := 0) dX7_isBetter_25 rfl rfl ?_
      refine wa_iload_n C (i := 2) dX7_isBetter_26 rfl rfl ?_
      refine wa_callVi C lq_61 sh_61 rfl s_X7_46 i_X7_hoursOf e_X7_hoursOf dX7_isBetter_27 (ok_X7_hoursOf h) rfl rfl (Nat.le_of_ble_eq_true rfl) (by rw [hd]; decide) (fun v4 g6 h => ?_)
      refine wa_icmp_ge C (tgt := 37) dX7_isBetter_30 (by decide) h (fun h => ?_) (fun h => ?_)
      · exact WA.weak (hJ37 _ h) trivial
      · exact WA.weak (hJ33 _ h) trivial
    · exact WA.weak (hJ37 _ h) trivial

set_option maxRecDepth 20000 in
theorem ok_X7_bestSet_4 {Z : fp_Z} (C : fp_C Z cX7_bestSet RX7 ((Option.some Jvm.ClassFile.FieldType.int))) (hv : fp_V Z false) (hn : Z.2.2.2.2.1 = 3) (hd : Z.2.2.2.2.2.1 = 5) : ∀ (n : Nat) (x1 : Int32) (x2 : Int32) (g : fp_G), w_X7_bestSet_4 n x1 x2 g Z.2.2.2.1 → WA Z 4 [some (.ref 61), some (.int x1), some (.int x2)] [] g := by
  intro n
  induction n with
  | zero => intro x1 x2 g h; exact h.elim
  | succ n ih =>
    intro x1 x2 g h
    rw [w_X7_bestSet_4] at h
    refine wa_iload_n C (i := 2) dX7_bestSet_4 rfl rfl ?_
    refine wa_iconst C (v := 1) dX7_bestSet_5 (by decide) ?_
    refine wa_aload_n C (i := 0) dX7_bestSet_6 rfl rfl ?_
    refine wa_getI C (j := 3) lq_61 sh_61 rfl in_X7 (by decide) rfl f_X7_27 dX7_bestSet_7 ?_
    refine wa_ishl C dX7_bestSet_10 ?_
    refine wa_icmp_ge C (tgt := 39) dX7_bestSet_11 (by decide) h (fun h => ?_) (fun h => ?_)
    · refine wa_iload_n C (i := 1) dX7_bestSet_39 rfl rfl ?_
      exact wa_iret C hv rfl dX7_bestSet_40 h
    · refine wa_aload_n C (i := 0) dX7_bestSet_14 rfl rfl ?_
      refine wa_iload_n C (i := 2) dX7_bestSet_15 rfl rfl ?_
      refine wa_callVi C lq_61 sh_61 rfl s_X7_34 i_X7_canBeMade e_X7_canBeMade dX7_bestSet_16 (ok_X7_canBeMade h) rfl rfl (Nat.le_of_ble_eq_true rfl) (by rw [hd]; decide) (fun v1 g1 h => ?_)
      refine fp_j1 (Q := fun x1j33 g2 => WA Z 33 [some (.ref 61), some (.int x1j33), some (.int x2)] [] g2) h (fun x1j33 g2 h => ?_) (fun J33 hJ33 h => ?_)
      · refine wa_iinc C (i := 2) dX7_bestSet_33 rfl (fp_inc1 _) (by rw [hn]; decide) rfl rfl ?_
        refine wa_goto C (tgt := 4) dX7_bestSet_36 (by decide) ?_
        exact WA.weak (ih _ _ _ h) ⟨rfl, ⟨rfl, ⟨rfl, trivial⟩⟩⟩
      refine wa_if_eq C (tgt := 33) dX7_bestSet_19 (by decide) h (fun h => ?_) (fun h => ?_)
      · exact WA.weak (hJ33 _ _ h) ⟨rfl, ⟨rfl, ⟨rfl, trivial⟩⟩⟩
      · refine wa_aload_n C (i := 0) dX7_bestSet_22 rfl rfl ?_
        refine wa_iload_n C (i := 2) dX7_bestSet_23 rfl rfl ?_
        refine wa_iload_n C (i := 1) dX7_bestSet_24 rfl rfl ?_
        refine wa_callVi C lq_61 sh_61 rfl s_X7_38 i_X7_isBetter e_X7_isBetter dX7_bestSet_25 (ok_X7_isBetter h) rfl rfl (Nat.le_of_ble_eq_true rfl) (by rw [hd]; decide) (fun v2 g3 h => ?_)
        refine wa_if_eq C (tgt := 33) dX7_bestSet_28 (by decide) h (fun h => ?_) (fun h => ?_)
        · exact WA.weak (hJ33 _ _ h) ⟨rfl, ⟨rfl, ⟨rfl, trivial⟩⟩⟩
        · refine wa_iload_n C (i := 2) dX7_bestSet_31 rfl rfl ?_
          refine wa_istore_n C (i := 1) dX7_bestSet_32 rfl (by rw [hn]; decide) rfl rfl ?_
          exact WA.weak (hJ33 _ _ h) ⟨rfl, ⟨rfl, ⟨rfl, trivial⟩⟩⟩

set_option maxRecDepth 20000 in
theorem ok_X7_bestSet {l : Launch} {E : fp_E} {g : fp_G} {K : Int32 → fp_G → Prop} (h : w_X7_bestSet  g K) : fp_M l E yX7_bestSet cX7_bestSet 3 ((Option.some Jvm.ClassFile.FieldType.int)) false 5 [.ref 61] g K := by
  unfold w_X7_bestSet at h
  refine fp_enter rfl [some (.ref 61), none, none] (Nat.le_of_ble_eq_true rfl) (fun q hq => hq) (fun Z hE hl hv hK hn hd C => ?_)
  subst hE hl hK
  refine wa_iconst C (v := 0) dX7_bestSet_0 (by decide) ?_
  refine wa_istore_n C (i := 1) dX7_bestSet_1 rfl (by rw [hn]; decide) rfl rfl ?_
  refine wa_iconst C (v := 1) dX7_bestSet_2 (by decide) ?_
  refine wa_istore_n C (i := 2) dX7_bestSet_3 rfl (by rw [hn]; decide) rfl rfl ?_
  obtain ⟨n4, h⟩ := h
  exact WA.weak (ok_X7_bestSet_4 C hv hn hd n4 _ _ _ h) ⟨rfl, ⟨rfl, ⟨rfl, trivial⟩⟩⟩

set_option maxRecDepth 20000 in
theorem ok_X7_rowMade_6 {Z : fp_Z} (C : fp_C Z cX7_rowMade RX7 ((Option.some Jvm.ClassFile.FieldType.int))) (hv : fp_V Z false) (hn : Z.2.2.2.2.1 = 5) (hd : Z.2.2.2.2.2.1 = 2) : ∀ (n : Nat) (x1 : Int32) (x2 : Int32) (x3 : Int32) (g : fp_G), w_X7_rowMade_6 n x1 x2 x3 g Z.2.2.2.1 → WA Z 6 [some (.ref 61), some (.int x1), some (.int x2), some (.int x3), none] [] g := by
  intro n
  induction n with
  | zero => intro x1 x2 x3 g h; exact h.elim
  | succ n ih =>
    intro x1 x2 x3 g h
    rw [w_X7_rowMade_6] at h
    refine wa_iload_n C (i := 3) dX7_rowMade_6 rfl rfl ?_
    refine wa_aload_n C (i := 0) dX7_rowMade_7 rfl rfl ?_
    refine wa_getI C (j := 6) lq_61 sh_61 rfl in_X7 (by decide) rfl f_X7_31 dX7_rowMade_8 ?_
    refine wa_icmp_ge C (tgt := 83) dX7_rowMade_11 (by decide) h (fun h => ?_) (fun h => ?_)
    · refine wa_aload_n C (i := 0) dX7_rowMade_83 rfl rfl ?_
      refine wa_getI C (j := 6) lq_61 sh_61 rfl in_X7 (by decide) rfl f_X7_31 dX7_rowMade_84 ?_
      exact wa_iret C hv rfl dX7_rowMade_87 h
    · refine wa_aload_n C (i := 0) dX7_rowMade_14 rfl rfl ?_
      refine wa_getR C (j := 5) lq_61 sh_61 rfl in_X7 (by decide) rfl f_X7_24 dX7_rowMade_15 ?_
      refine wa_iload_n C (i := 3) dX7_rowMade_18 rfl rfl ?_
      refine wa_iald C lq_66 sh_66 dX7_rowMade_19 h (fun v1 h => ?_)
      refine wa_istore C (i := 4) dX7_rowMade_20 (by rw [hn]; decide) rfl rfl ?_
      refine wa_iload C dX7_rowMade_22 rfl ?_
      refine wa_if_lt C (tgt := 45) dX7_rowMade_24 (by decide) h (fun h => ?_) (fun h => ?_)
      · refine wa_iload_n C (i := 3) dX7_rowMade_45 rfl rfl ?_
        exact wa_iret C hv rfl dX7_rowMade_46 h
      · refine wa_iload C dX7_rowMade_27 rfl ?_
        refine wa_aload_n C (i := 0) dX7_rowMade_29 rfl rfl ?_
        refine wa_getI C (j := 3) lq_61 sh_61 rfl in_X7 (by decide) rfl f_X7_27 dX7_rowMade_30 ?_
        refine wa_icmp_ge C (tgt := 45) dX7_rowMade_33 (by decide) h (fun h => ?_) (fun h => ?_)
        · refine wa_iload_n C (i := 3) dX7_rowMade_45 rfl rfl ?_
          exact wa_iret C hv rfl dX7_rowMade_46 h
        · refine wa_iload C dX7_rowMade_36 rfl ?_
          refine wa_iload_n C (i := 1) dX7_rowMade_38 rfl rfl ?_
          refine wa_callSi C s_X7_49 t_X7_isIn dX7_rowMade_39 (ok_X7_isIn h) rfl rfl (Nat.le_of_ble_eq_true rfl) (by rw [hd]; decide) (fun v2 g1 h => ?_)
          refine wa_if_eq C (tgt := 47) dX7_rowMade_42 (by decide) h (fun h => ?_) (fun h => ?_)
          · refine wa_iload_n C (i := 2) dX7_rowMade_47 rfl rfl ?_
            refine wa_aload_n C (i := 0) dX7_rowMade_48 rfl rfl ?_
            refine wa_getR C (j := 0) lq_61 sh_61 rfl in_X7 (by decide) rfl f_X7_9 dX7_rowMade_49 ?_
            refine wa_iload C dX7_rowMade_52 rfl ?_
            refine wa_iald C lq_62 sh_62 dX7_rowMade_54 h (fun v3 h => ?_)
            refine wa_iadd C dX7_rowMade_55 ?_
            refine wa_istore_n C (i := 2) dX7_rowMade_56 rfl (by rw [hn]; decide) rfl rfl ?_
            refine wa_iload_n C (i := 2) dX7_rowMade_57 rfl rfl ?_
            refine wa_aload_n C (i := 0) dX7_rowMade_58 rfl rfl ?_
            refine wa_getR C (j := 1) lq_61 sh_61 rfl in_X7 (by decide) rfl f_X7_15 dX7_rowMade_59 ?_
            refine wa_iload C dX7_rowMade_62 rfl ?_
            refine wa_iald C lq_63 sh_63 dX7_rowMade_64 h (fun v4 h => ?_)
            refine wa_icmp_le C (tgt := 70) dX7_rowMade_65 (by decide) h (fun h => ?_) (fun h => ?_)
            · refine wa_iload_n C (i := 1) dX7_rowMade_70 rfl rfl ?_
              refine wa_iconst C (v := 1) dX7_rowMade_71 (by decide) ?_
              refine wa_iload C dX7_rowMade_72 rfl ?_
              refine wa_ishl C dX7_rowMade_74 ?_
              refine wa_ior C dX7_rowMade_75 ?_
              refine wa_istore_n C (i := 1) dX7_rowMade_76 rfl (by rw [hn]; decide) rfl rfl ?_
              refine wa_iinc C (i := 3) dX7_rowMade_77 rfl (fp_inc1 _) (by rw [hn]; decide) rfl rfl ?_
              refine wa_goto C (tgt := 6) dX7_rowMade_80 (by decide) ?_
              exact WA.weak (ih _ _ _ _ h) ⟨rfl, ⟨rfl, ⟨rfl, ⟨rfl, trivial⟩⟩⟩⟩
            · refine wa_iload_n C (i := 3) dX7_rowMade_68 rfl rfl ?_
              exact wa_iret C hv rfl dX7_rowMade_69 h
          · refine wa_iload_n C (i := 3) dX7_rowMade_45 rfl rfl ?_
            exact wa_iret C hv rfl dX7_rowMade_46 h

set_option maxRecDepth 20000 in
theorem ok_X7_rowMade {l : Launch} {E : fp_E} {g : fp_G} {K : Int32 → fp_G → Prop} (h : w_X7_rowMade  g K) : fp_M l E yX7_rowMade cX7_rowMade 5 ((Option.some Jvm.ClassFile.FieldType.int)) false 2 [.ref 61] g K := by
  unfold w_X7_rowMade at h
  refine fp_enter rfl [some (.ref 61), none, none, none, none] (Nat.le_of_ble_eq_true rfl) (fun q hq => hq) (fun Z hE hl hv hK hn hd C => ?_)
  subst hE hl hK
  refine wa_iconst C (v := 0) dX7_rowMade_0 (by decide) ?_
  refine wa_istore_n C (i := 1) dX7_rowMade_1 rfl (by rw [hn]; decide) rfl rfl ?_
  refine wa_iconst C (v := 0) dX7_rowMade_2 (by decide) ?_
  refine wa_istore_n C (i := 2) dX7_rowMade_3 rfl (by rw [hn]; decide) rfl rfl ?_
  refine wa_iconst C (v := 0) dX7_rowMade_4 (by decide) ?_
  refine wa_istore_n C (i := 3) dX7_rowMade_5 rfl (by rw [hn]; decide) rfl rfl ?_
  obtain ⟨n6, h⟩ := h
  exact WA.weak (ok_X7_rowMade_6 C hv hn hd n6 _ _ _ _ h) ⟨rfl, ⟨rfl, ⟨rfl, ⟨rfl, trivial⟩⟩⟩⟩

set_option maxRecDepth 20000 in
theorem ok_X7_rowLetters_4 {Z : fp_Z} (C : fp_C Z cX7_rowLetters RX7 ((Option.some Jvm.ClassFile.FieldType.int))) (hv : fp_V Z false) (hn : Z.2.2.2.2.1 = 4) (hd : Z.2.2.2.2.2.1 = 1) {x1 : Int32} : ∀ (n : Nat) (x2 : Int32) (x3 : Int32) (g : fp_G), w_X7_rowLetters_4 n x1 x2 x3 g Z.2.2.2.1 → WA Z 4 [some (.ref 61), some (.int x1), some (.int x2), some (.int x3)] [] g := by
  intro n
  induction n with
  | zero => intro x2 x3 g h; exact h.elim
  | succ n ih =>
    intro x2 x3 g h
    rw [w_X7_rowLetters_4] at h
    refine wa_iload_n C (i := 3) dX7_rowLetters_4 rfl rfl ?_
    refine wa_iload_n C (i := 1) dX7_rowLetters_5 rfl rfl ?_
    refine wa_icmp_ge C (tgt := 29) dX7_rowLetters_6 (by decide) h (fun h => ?_) (fun h => ?_)
    · refine wa_iload_n C (i := 2) dX7_rowLetters_29 rfl rfl ?_
      exact wa_iret C hv rfl dX7_rowLetters_30 h
    · refine wa_iload_n C (i := 2) dX7_rowLetters_9 rfl rfl ?_
      refine wa_aload_n C (i := 0) dX7_rowLetters_10 rfl rfl ?_
      refine wa_getR C (j := 2) lq_61 sh_61 rfl in_X7 (by decide) rfl f_X7_18 dX7_rowLetters_11 ?_
      refine wa_aload_n C (i := 0) dX7_rowLetters_14 rfl rfl ?_
      refine wa_getR C (j := 5) lq_61 sh_61 rfl in_X7 (by decide) rfl f_X7_24 dX7_rowLetters_15 ?_
      refine wa_iload_n C (i := 3) dX7_rowLetters_18 rfl rfl ?_
      refine wa_iald C lq_66 sh_66 dX7_rowLetters_19 h (fun v1 h => ?_)
      refine wa_iald C lq_64 sh_64 dX7_rowLetters_20 h (fun v2 h => ?_)
      refine wa_iadd C dX7_rowLetters_21 ?_
      refine wa_istore_n C (i := 2) dX7_rowLetters_22 rfl (by rw [hn]; decide) rfl rfl ?_
      refine wa_iinc C (i := 3) dX7_rowLetters_23 rfl (fp_inc1 _) (by rw [hn]; decide) rfl rfl ?_
      refine wa_goto C (tgt := 4) dX7_rowLetters_26 (by decide) ?_
      exact WA.weak (ih _ _ _ h) ⟨rfl, ⟨rfl, ⟨rfl, ⟨rfl, trivial⟩⟩⟩⟩

set_option maxRecDepth 20000 in
theorem ok_X7_rowLetters {l : Launch} {E : fp_E} {x1 : Int32} {g : fp_G} {K : Int32 → fp_G → Prop} (h : w_X7_rowLetters x1 g K) : fp_M l E yX7_rowLetters cX7_rowLetters 4 ((Option.some Jvm.ClassFile.FieldType.int)) false 1 [.ref 61, .int x1] g K := by
  unfold w_X7_rowLetters at h
  refine fp_enter rfl [some (.ref 61), some (.int x1), none, none] (Nat.le_of_ble_eq_true rfl) (fun q hq => hq) (fun Z hE hl hv hK hn hd C => ?_)
  subst hE hl hK
  refine wa_iconst C (v := 0) dX7_rowLetters_0 (by decide) ?_
  refine wa_istore_n C (i := 2) dX7_rowLetters_1 rfl (by rw [hn]; decide) rfl rfl ?_
  refine wa_iconst C (v := 0) dX7_rowLetters_2 (by decide) ?_
  refine wa_istore_n C (i := 3) dX7_rowLetters_3 rfl (by rw [hn]; decide) rfl rfl ?_
  obtain ⟨n4, h⟩ := h
  exact WA.weak (ok_X7_rowLetters_4 C hv hn hd n4 _ _ _ h) ⟨rfl, ⟨rfl, ⟨rfl, ⟨rfl, trivial⟩⟩⟩⟩

set_option maxRecDepth 20000 in
theorem ok_X8_refuse {l : Launch} {E : fp_E} {x1 : Int32} {g : fp_G} {K : Int32 → fp_G → Prop} (h : w_X8_refuse x1 g K) : fp_M l E yX8_refuse cX8_refuse 3 ((Option.some Jvm.ClassFile.FieldType.int)) false 1 [.ref 0, .int x1] g K := by
  unfold w_X8_refuse at h
  refine fp_enter rfl [some (.ref 0), some (.int x1), none] (Nat.le_of_ble_eq_true rfl) (fun q hq => hq) (fun Z hE hl hv hK hn hd C => ?_)
  subst hE hl hK
  refine wa_iload_n C (i := 1) dX8_refuse_0 rfl rfl ?_
  refine wa_ineg C dX8_refuse_1 ?_
  refine wa_istore_n C (i := 2) dX8_refuse_2 rfl (by rw [hn]; decide) rfl rfl ?_
  refine wa_iload_n C (i := 2) dX8_refuse_3 rfl rfl ?_
  refine wa_if_lt C (tgt := 26) dX8_refuse_4 (by decide) h (fun h => ?_) (fun h => ?_)
  · refine wa_iload_n C (i := 1) dX8_refuse_26 rfl rfl ?_
    exact wa_iret C hv rfl dX8_refuse_27 h
  · refine wa_iload_n C (i := 2) dX8_refuse_7 rfl rfl ?_
    refine wa_aload_n C (i := 0) dX8_refuse_8 rfl rfl ?_
    refine wa_getR C (j := 8) lq_0 sh_0 rfl in_X8 (by decide) rfl f_X8_55 dX8_refuse_9 ?_
    refine wa_alen C (t0 := 0) (v := 7) lq_1 sh_1 rfl (by decide) dX8_refuse_12 ?_
    refine wa_icmp_ge C (tgt := 26) dX8_refuse_13 (by decide) h (fun h => ?_) (fun h => ?_)
    · refine wa_iload_n C (i := 1) dX8_refuse_26 rfl rfl ?_
      exact wa_iret C hv rfl dX8_refuse_27 h
    · refine wa_aload_n C (i := 0) dX8_refuse_16 rfl rfl ?_
      refine wa_getR C (j := 8) lq_0 sh_0 rfl in_X8 (by decide) rfl f_X8_55 dX8_refuse_17 ?_
      refine wa_iload_n C (i := 2) dX8_refuse_20 rfl rfl ?_
      refine wa_dup2 C dX8_refuse_21 rfl rfl ?_
      refine wa_iald C lq_1 sh_1 dX8_refuse_22 h (fun v1 h => ?_)
      refine wa_iconst C (v := 1) dX8_refuse_23 (by decide) ?_
      refine wa_iadd C dX8_refuse_24 ?_
      refine wa_iast C lq_1 sh_1 dX8_refuse_25 h (fun g1 h => ?_)
      refine wa_iload_n C (i := 1) dX8_refuse_26 rfl rfl ?_
      exact wa_iret C hv rfl dX8_refuse_27 h

set_option maxRecDepth 20000 in
theorem ok_X8_office {l : Launch} {E : fp_E} {x1 : Int32} {x2 : Int32} {g : fp_G} {K : Int32 → fp_G → Prop} (h : w_X8_office x1 x2 g K) : fp_M l E yX8_office cX8_office 3 ((Option.some Jvm.ClassFile.FieldType.int)) false 2 [.ref 0, .int x1, .int x2] g K := by
  unfold w_X8_office at h
  refine fp_enter rfl [some (.ref 0), some (.int x1), some (.int x2)] (Nat.le_of_ble_eq_true rfl) (fun q hq => hq) (fun Z hE hl hv hK hn hd C => ?_)
  subst hE hl hK
  refine wa_iload_n C (i := 1) dX8_office_0 rfl rfl ?_
  refine wa_if_ge C (tgt := 11) dX8_office_1 (by decide) h (fun h => ?_) (fun h => ?_)
  · refine wa_iload_n C (i := 1) dX8_office_11 rfl rfl ?_
    refine wa_bipush C (v := 99) dX8_office_12 (by decide) ?_
    refine fp_k0 (Q := WA Z 29 [some (.ref 0), none, none] [] g) h (fun  h => ?_) (fun J29 hJ29 h => ?_)
    · refine wa_aload_n C (i := 0) dX8_office_29 rfl rfl ?_
      refine wa_bipush C (v := (-6)) dX8_office_30 (by decide) ?_
      refine wa_callVi C lq_0 sh_0 rfl s_X8_59 i_X8_refuse e_X8_refuse dX8_office_32 (ok_X8_refuse h) rfl rfl (Nat.le_of_ble_eq_true rfl) (by rw [hd]; decide) (fun v1 g1 h => ?_)
      exact wa_iret C hv rfl dX8_office_35 h
    refine wa_icmp_gt C (tgt := 29) dX8_office_14 (by decide) h (fun h => ?_) (fun h => ?_)
    · exact WA.weak (hJ29  h) ⟨rfl, trivial⟩
    · refine wa_aload_n C (i := 0) dX8_office_17 rfl rfl ?_
      refine wa_getR C (j := 1) lq_0 sh_0 rfl in_X8 (by decide) rfl f_X8_20 dX8_office_18 ?_
      refine wa_getI C (j := 3) lq_6 sh_6 rfl in_X2 (by decide) rfl f_X8_63 dX8_office_21 ?_
      refine wa_bipush C (v := 12) dX8_office_24 (by decide) ?_
      refine wa_icmp_lt C (tgt := 36) dX8_office_26 (by decide) h (fun h => ?_) (fun h => ?_)
      · refine wa_aload_n C (i := 0) dX8_office_36 rfl rfl ?_
        refine wa_getR C (j := 1) lq_0 sh_0 rfl in_X8 (by decide) rfl f_X8_20 dX8_office_37 ?_
        refine wa_iload_n C (i := 1) dX8_office_40 rfl rfl ?_
        refine wa_iload_n C (i := 2) dX8_office_41 rfl rfl ?_
        refine wa_callVi C lq_6 sh_6 rfl s_X8_69 i_X2_addOffice e_X2_addOffice dX8_office_42 (ok_X2_addOffice h) rfl rfl (Nat.le_of_ble_eq_true rfl) (by rw [hd]; decide) (fun v2 g2 h => ?_)
        exact wa_iret C hv rfl dX8_office_45 h
      · exact WA.weak (hJ29  h) ⟨rfl, trivial⟩
  · refine wa_aload_n C (i := 0) dX8_office_4 rfl rfl ?_
    refine wa_bipush C (v := (-4)) dX8_office_5 (by decide) ?_
    refine wa_callVi C lq_0 sh_0 rfl s_X8_59 i_X8_refuse e_X8_refuse dX8_office_7 (ok_X8_refuse h) rfl rfl (Nat.le_of_ble_eq_true rfl) (by rw [hd]; decide) (fun v3 g3 h => ?_)
    exact wa_iret C hv rfl dX8_office_10 h

set_option maxRecDepth 20000 in
theorem ok_X8_outside {l : Launch} {E : fp_E} {x0 : Int32} {x1 : Int32} {x2 : Int32} {g : fp_G} {K : Int32 → fp_G → Prop} (h : w_X8_outside x0 x1 x2 g K) : fp_M l E yX8_outside cX8_outside 3 ((Option.some Jvm.ClassFile.FieldType.int)) false 1 [.int x0, .int x1, .int x2] g K := by
  unfold w_X8_outside at h
  refine fp_enter rfl [some (.int x0), some (.int x1), some (.int x2)] (Nat.le_of_ble_eq_true rfl) (fun q hq => hq) (fun Z hE hl hv hK hn hd C => ?_)
  subst hE hl hK
  refine wa_iload_n C (i := 0) dX8_outside_0 rfl rfl ?_
  refine wa_iload_n C (i := 1) dX8_outside_1 rfl rfl ?_
  refine wa_icmp_ge C (tgt := 8) dX8_outside_2 (by decide) h (fun h => ?_) (fun h => ?_)
  · refine wa_iload_n C (i := 0) dX8_outside_8 rfl rfl ?_
    refine wa_iload_n C (i := 2) dX8_outside_9 rfl rfl ?_
    refine wa_icmp_le C (tgt := 18) dX8_outside_10 (by decide) h (fun h => ?_) (fun h => ?_)
    · refine wa_iconst C (v := 0) dX8_outside_18 (by decide) ?_
      exact wa_iret C hv rfl dX8_outside_19 h
    · refine wa_bipush C (v := (-6)) dX8_outside_13 (by decide) ?_
      refine wa_goto C (tgt := 19) dX8_outside_15 (by decide) ?_
      exact wa_iret C hv rfl dX8_outside_19 h
  · refine wa_bipush C (v := (-4)) dX8_outside_5 (by decide) ?_
    exact wa_iret C hv rfl dX8_outside_7 h

set_option maxRecDepth 20000 in
theorem ok_X8_staff {l : Launch} {E : fp_E} {x1 : Int32} {x2 : Int32} {x3 : Int32} {g : fp_G} {K : Int32 → fp_G → Prop} (h : w_X8_staff x1 x2 x3 g K) : fp_M l E yX8_staff cX8_staff 5 ((Option.some Jvm.ClassFile.FieldType.int)) false 2 [.ref 0, .int x1, .int x2, .int x3] g K := by
  unfold w_X8_staff at h
  refine fp_enter rfl [some (.ref 0), some (.int x1), some (.int x2), some (.int x3), none] (Nat.le_of_ble_eq_true rfl) (fun q hq => hq) (fun Z hE hl hv hK hn hd C => ?_)
  subst hE hl hK
  refine wa_aload_n C (i := 0) dX8_staff_0 rfl rfl ?_
  refine wa_getR C (j := 1) lq_0 sh_0 rfl in_X8 (by decide) rfl f_X8_20 dX8_staff_1 ?_
  refine wa_iload_n C (i := 1) dX8_staff_4 rfl rfl ?_
  refine wa_callVi C lq_6 sh_6 rfl s_X8_73 i_X2_hasOffice e_X2_hasOffice dX8_staff_5 (ok_X2_hasOffice h) rfl rfl (Nat.le_of_ble_eq_true rfl) (by rw [hd]; decide) (fun v1 g1 h => ?_)
  refine fp_j1 (Q := fun z0j22 g2 => WA Z 22 [some (.ref 0), some (.int x1), some (.int x2), some (.int x3), none] [.int z0j22] g2) h (fun z0j22 g2 h => ?_) (fun J22 hJ22 h => ?_)
  · refine wa_istore C (i := 4) dX8_staff_22 (by rw [hn]; decide) rfl rfl ?_
    refine wa_iload C dX8_staff_24 rfl ?_
    refine wa_if_ge C (tgt := 38) dX8_staff_26 (by decide) h (fun h => ?_) (fun h => ?_)
    · refine wa_aload_n C (i := 0) dX8_staff_38 rfl rfl ?_
      refine wa_getR C (j := 1) lq_0 sh_0 rfl in_X8 (by decide) rfl f_X8_20 dX8_staff_39 ?_
      refine wa_iload_n C (i := 1) dX8_staff_42 rfl rfl ?_
      refine wa_iload_n C (i := 2) dX8_staff_43 rfl rfl ?_
      refine wa_iload_n C (i := 3) dX8_staff_44 rfl rfl ?_
      refine wa_callVi C lq_6 sh_6 rfl s_X8_81 i_X2_setOffice e_X2_setOffice dX8_staff_45 (ok_X2_setOffice h) rfl rfl (Nat.le_of_ble_eq_true rfl) (by rw [hd]; decide) (fun v2 g3 h => ?_)
      exact wa_iret C hv rfl dX8_staff_48 h
    · refine wa_aload_n C (i := 0) dX8_staff_29 rfl rfl ?_
      refine wa_iload C dX8_staff_30 rfl ?_
      refine wa_callVi C lq_0 sh_0 rfl s_X8_59 i_X8_refuse e_X8_refuse dX8_staff_32 (ok_X8_refuse h) rfl rfl (Nat.le_of_ble_eq_true rfl) (by rw [hd]; decide) (fun v3 g4 h => ?_)
      refine wa_goto C (tgt := 48) dX8_staff_35 (by decide) ?_
      exact wa_iret C hv rfl dX8_staff_48 h
  refine wa_if_eq C (tgt := 21) dX8_staff_8 (by decide) h (fun h => ?_) (fun h => ?_)
  · refine wa_iconst C (v := (-1)) dX8_staff_21 (by decide) ?_
    exact WA.weak (hJ22 _ _ h) ⟨rfl, ⟨rfl, ⟨rfl, ⟨rfl, trivial⟩⟩⟩⟩
  · refine wa_iload_n C (i := 2) dX8_staff_11 rfl rfl ?_
    refine wa_iconst C (v := 0) dX8_staff_12 (by decide) ?_
    refine wa_bipush C (v := 99) dX8_staff_13 (by decide) ?_
    refine wa_callSi C s_X8_77 t_X8_outside dX8_staff_15 (ok_X8_outside h) rfl rfl (Nat.le_of_ble_eq_true rfl) (by rw [hd]; decide) (fun v4 g5 h => ?_)
    refine wa_goto C (tgt := 22) dX8_staff_18 (by decide) ?_
    exact WA.weak (hJ22 _ _ h) ⟨rfl, ⟨rfl, ⟨rfl, ⟨rfl, trivial⟩⟩⟩⟩

set_option maxRecDepth 20000 in
theorem ok_X8_way {l : Launch} {E : fp_E} {x1 : Int32} {x2 : Int32} {x3 : Int32} {x4 : Int32} {x5 : Int32} {g : fp_G} {K : Int32 → fp_G → Prop} (h : w_X8_way x1 x2 x3 x4 x5 g K) : fp_M l E yX8_way cX8_way 6 ((Option.some Jvm.ClassFile.FieldType.int)) false 4 [.ref 0, .int x1, .int x2, .int x3, .int x4, .int x5] g K := by
  unfold w_X8_way at h
  refine fp_enter rfl [some (.ref 0), some (.int x1), some (.int x2), some (.int x3), some (.int x4), some (.int x5)] (Nat.le_of_ble_eq_true rfl) (fun q hq => hq) (fun Z hE hl hv hK hn hd C => ?_)
  subst hE hl hK
  refine wa_aload_n C (i := 0) dX8_way_0 rfl rfl ?_
  refine wa_getR C (j := 1) lq_0 sh_0 rfl in_X8 (by decide) rfl f_X8_20 dX8_way_1 ?_
  refine wa_iload_n C (i := 1) dX8_way_4 rfl rfl ?_
  refine wa_callVi C lq_6 sh_6 rfl s_X8_73 i_X2_hasOffice e_X2_hasOffice dX8_way_5 (ok_X2_hasOffice h) rfl rfl (Nat.le_of_ble_eq_true rfl) (by rw [hd]; decide) (fun v1 g1 h => ?_)
  refine fp_j0 (Q := fun g2 => WA Z 27 [some (.ref 0), none, none, none, none, none] [] g2) h (fun g2 h => ?_) (fun J27 hJ27 h => ?_)
  · refine wa_aload_n C (i := 0) dX8_way_27 rfl rfl ?_
    refine wa_iconst C (v := (-1)) dX8_way_28 (by decide) ?_
    refine wa_callVi C lq_0 sh_0 rfl s_X8_59 i_X8_refuse e_X8_refuse dX8_way_29 (ok_X8_refuse h) rfl rfl (Nat.le_of_ble_eq_true rfl) (by rw [hd]; decide) (fun v2 g3 h => ?_)
    exact wa_iret C hv rfl dX8_way_32 h
  refine wa_if_eq C (tgt := 27) dX8_way_8 (by decide) h (fun h => ?_) (fun h => ?_)
  · exact WA.weak (hJ27 _ h) ⟨rfl, trivial⟩
  · refine wa_aload_n C (i := 0) dX8_way_11 rfl rfl ?_
    refine wa_getR C (j := 1) lq_0 sh_0 rfl in_X8 (by decide) rfl f_X8_20 dX8_way_12 ?_
    refine wa_iload_n C (i := 2) dX8_way_15 rfl rfl ?_
    refine wa_callVi C lq_6 sh_6 rfl s_X8_73 i_X2_hasOffice e_X2_hasOffice dX8_way_16 (ok_X2_hasOffice h) rfl rfl (Nat.le_of_ble_eq_true rfl) (by rw [hd]; decide) (fun v3 g4 h => ?_)
    refine wa_if_eq C (tgt := 27) dX8_way_19 (by decide) h (fun h => ?_) (fun h => ?_)
    · exact WA.weak (hJ27 _ h) ⟨rfl, trivial⟩
    · refine wa_iload_n C (i := 1) dX8_way_22 rfl rfl ?_
      refine wa_iload_n C (i := 2) dX8_way_23 rfl rfl ?_
      refine wa_icmp_ne C (tgt := 33) dX8_way_24 (by decide) h (fun h => ?_) (fun h => ?_)
      · exact WA.weak (hJ27 _ h) ⟨rfl, trivial⟩
      · refine wa_iload_n C (i := 3) dX8_way_33 rfl rfl ?_
        refine wa_iconst C (v := 1) dX8_way_34 (by decide) ?_
        refine fp_k0 (Q := WA Z 49 [some (.ref 0), none, none, none, none, none] [] g4) h (fun  h => ?_) (fun J49 hJ49 h => ?_)
        · refine wa_aload_n C (i := 0) dX8_way_49 rfl rfl ?_
          refine wa_bipush C (v := (-4)) dX8_way_50 (by decide) ?_
          refine wa_callVi C lq_0 sh_0 rfl s_X8_59 i_X8_refuse e_X8_refuse dX8_way_52 (ok_X8_refuse h) rfl rfl (Nat.le_of_ble_eq_true rfl) (by rw [hd]; decide) (fun v4 g5 h => ?_)
          exact wa_iret C hv rfl dX8_way_55 h
        refine wa_icmp_lt C (tgt := 49) dX8_way_35 (by decide) h (fun h => ?_) (fun h => ?_)
        · exact WA.weak (hJ49  h) ⟨rfl, trivial⟩
        · refine wa_iload C dX8_way_38 rfl ?_
          refine wa_if_lt C (tgt := 49) dX8_way_40 (by decide) h (fun h => ?_) (fun h => ?_)
          · exact WA.weak (hJ49  h) ⟨rfl, trivial⟩
          · refine wa_iload C dX8_way_43 rfl ?_
            refine wa_iconst C (v := 1) dX8_way_45 (by decide) ?_
            refine wa_icmp_ge C (tgt := 56) dX8_way_46 (by decide) h (fun h => ?_) (fun h => ?_)
            · refine wa_iload_n C (i := 3) dX8_way_56 rfl rfl ?_
              refine wa_bipush C (v := 48) dX8_way_57 (by decide) ?_
              refine fp_k0 (Q := WA Z 89 [some (.ref 0), none, none, none, none, none] [] g4) h (fun  h => ?_) (fun J89 hJ89 h => ?_)
              · refine wa_aload_n C (i := 0) dX8_way_89 rfl rfl ?_
                refine wa_bipush C (v := (-6)) dX8_way_90 (by decide) ?_
                refine wa_callVi C lq_0 sh_0 rfl s_X8_59 i_X8_refuse e_X8_refuse dX8_way_92 (ok_X8_refuse h) rfl rfl (Nat.le_of_ble_eq_true rfl) (by rw [hd]; decide) (fun v5 g6 h => ?_)
                exact wa_iret C hv rfl dX8_way_95 h
              refine wa_icmp_gt C (tgt := 89) dX8_way_59 (by decide) h (fun h => ?_) (fun h => ?_)
              · exact WA.weak (hJ89  h) ⟨rfl, trivial⟩
              · refine wa_iload C dX8_way_62 rfl ?_
                refine wa_sipush C (v := 2000) dX8_way_64 (by decide) ?_
                refine wa_icmp_gt C (tgt := 89) dX8_way_67 (by decide) h (fun h => ?_) (fun h => ?_)
                · exact WA.weak (hJ89  h) ⟨rfl, trivial⟩
                · refine wa_iload C dX8_way_70 rfl ?_
                  refine wa_bipush C (v := 48) dX8_way_72 (by decide) ?_
                  refine wa_icmp_gt C (tgt := 89) dX8_way_74 (by decide) h (fun h => ?_) (fun h => ?_)
                  · exact WA.weak (hJ89  h) ⟨rfl, trivial⟩
                  · refine wa_aload_n C (i := 0) dX8_way_77 rfl rfl ?_
                    refine wa_getR C (j := 1) lq_0 sh_0 rfl in_X8 (by decide) rfl f_X8_20 dX8_way_78 ?_
                    refine wa_getI C (j := 9) lq_6 sh_6 rfl in_X2 (by decide) rfl f_X8_85 dX8_way_81 ?_
                    refine wa_bipush C (v := 24) dX8_way_84 (by decide) ?_
                    refine wa_icmp_lt C (tgt := 96) dX8_way_86 (by decide) h (fun h => ?_) (fun h => ?_)
                    · refine wa_aload_n C (i := 0) dX8_way_96 rfl rfl ?_
                      refine wa_getR C (j := 1) lq_0 sh_0 rfl in_X8 (by decide) rfl f_X8_20 dX8_way_97 ?_
                      refine wa_iload_n C (i := 1) dX8_way_100 rfl rfl ?_
                      refine wa_iload_n C (i := 2) dX8_way_101 rfl rfl ?_
                      refine wa_iload_n C (i := 3) dX8_way_102 rfl rfl ?_
                      refine wa_iload C dX8_way_103 rfl ?_
                      refine wa_iload C dX8_way_105 rfl ?_
                      refine wa_callVi C lq_6 sh_6 rfl s_X8_88 i_X2_addWay e_X2_addWay dX8_way_107 (ok_X2_addWay h) rfl rfl (Nat.le_of_ble_eq_true rfl) (by rw [hd]; decide) (fun v6 g7 h => ?_)
                      exact wa_iret C hv rfl dX8_way_110 h
                    · exact WA.weak (hJ89  h) ⟨rfl, trivial⟩
            · exact WA.weak (hJ49  h) ⟨rfl, trivial⟩

set_option maxRecDepth 20000 in
theorem ok_X8_shut {l : Launch} {E : fp_E} {x1 : Int32} {x2 : Int32} {x3 : Int32} {g : fp_G} {K : Int32 → fp_G → Prop} (h : w_X8_shut x1 x2 x3 g K) : fp_M l E yX8_shut cX8_shut 4 ((Option.some Jvm.ClassFile.FieldType.int)) false 2 [.ref 0, .int x1, .int x2, .int x3] g K := by
  unfold w_X8_shut at h
  refine fp_enter rfl [some (.ref 0), some (.int x1), some (.int x2), some (.int x3)] (Nat.le_of_ble_eq_true rfl) (fun q hq => hq) (fun Z hE hl hv hK hn hd C => ?_)
  subst hE hl hK
  refine wa_aload_n C (i := 0) dX8_shut_0 rfl rfl ?_
  refine wa_getR C (j := 1) lq_0 sh_0 rfl in_X8 (by decide) rfl f_X8_20 dX8_shut_1 ?_
  refine wa_iload_n C (i := 1) dX8_shut_4 rfl rfl ?_
  refine wa_callVi C lq_6 sh_6 rfl s_X8_92 i_X2_hasWay e_X2_hasWay dX8_shut_5 (ok_X2_hasWay h) rfl rfl (Nat.le_of_ble_eq_true rfl) (by rw [hd]; decide) (fun v1 g1 h => ?_)
  refine wa_if_ne C (tgt := 17) dX8_shut_8 (by decide) h (fun h => ?_) (fun h => ?_)
  · refine wa_aload_n C (i := 0) dX8_shut_11 rfl rfl ?_
    refine wa_iconst C (v := (-1)) dX8_shut_12 (by decide) ?_
    refine wa_callVi C lq_0 sh_0 rfl s_X8_59 i_X8_refuse e_X8_refuse dX8_shut_13 (ok_X8_refuse h) rfl rfl (Nat.le_of_ble_eq_true rfl) (by rw [hd]; decide) (fun v5 g5 h => ?_)
    exact wa_iret C hv rfl dX8_shut_16 h
  · refine wa_iload_n C (i := 2) dX8_shut_17 rfl rfl ?_
    refine wa_aload_n C (i := 0) dX8_shut_18 rfl rfl ?_
    refine wa_getI C (j := 9) lq_0 sh_0 rfl in_X8 (by decide) rfl f_X8_95 dX8_shut_19 ?_
    refine fp_k0 (Q := WA Z 30 [some (.ref 0), none, none, none] [] g1) h (fun  h => ?_) (fun J30 hJ30 h => ?_)
    · refine wa_aload_n C (i := 0) dX8_shut_30 rfl rfl ?_
      refine wa_bipush C (v := (-4)) dX8_shut_31 (by decide) ?_
      refine wa_callVi C lq_0 sh_0 rfl s_X8_59 i_X8_refuse e_X8_refuse dX8_shut_33 (ok_X8_refuse h) rfl rfl (Nat.le_of_ble_eq_true rfl) (by rw [hd]; decide) (fun v2 g2 h => ?_)
      exact wa_iret C hv rfl dX8_shut_36 h
    refine wa_icmp_lt C (tgt := 30) dX8_shut_22 (by decide) h (fun h => ?_) (fun h => ?_)
    · exact WA.weak (hJ30  h) ⟨rfl, trivial⟩
    · refine wa_iload_n C (i := 3) dX8_shut_25 rfl rfl ?_
      refine wa_iload_n C (i := 2) dX8_shut_26 rfl rfl ?_
      refine wa_icmp_ge C (tgt := 37) dX8_shut_27 (by decide) h (fun h => ?_) (fun h => ?_)
      · refine wa_iload_n C (i := 3) dX8_shut_37 rfl rfl ?_
        refine wa_sipush C (v := 2000) dX8_shut_38 (by decide) ?_
        refine fp_k0 (Q := WA Z 56 [some (.ref 0), none, none, none] [] g1) h (fun  h => ?_) (fun J56 hJ56 h => ?_)
        · refine wa_aload_n C (i := 0) dX8_shut_56 rfl rfl ?_
          refine wa_bipush C (v := (-6)) dX8_shut_57 (by decide) ?_
          refine wa_callVi C lq_0 sh_0 rfl s_X8_59 i_X8_refuse e_X8_refuse dX8_shut_59 (ok_X8_refuse h) rfl rfl (Nat.le_of_ble_eq_true rfl) (by rw [hd]; decide) (fun v3 g3 h => ?_)
          exact wa_iret C hv rfl dX8_shut_62 h
        refine wa_icmp_gt C (tgt := 56) dX8_shut_41 (by decide) h (fun h => ?_) (fun h => ?_)
        · exact WA.weak (hJ56  h) ⟨rfl, trivial⟩
        · refine wa_aload_n C (i := 0) dX8_shut_44 rfl rfl ?_
          refine wa_getR C (j := 1) lq_0 sh_0 rfl in_X8 (by decide) rfl f_X8_20 dX8_shut_45 ?_
          refine wa_getI C (j := 13) lq_6 sh_6 rfl in_X2 (by decide) rfl f_X8_98 dX8_shut_48 ?_
          refine wa_bipush C (v := 40) dX8_shut_51 (by decide) ?_
          refine wa_icmp_lt C (tgt := 63) dX8_shut_53 (by decide) h (fun h => ?_) (fun h => ?_)
          · refine wa_aload_n C (i := 0) dX8_shut_63 rfl rfl ?_
            refine wa_getR C (j := 1) lq_0 sh_0 rfl in_X8 (by decide) rfl f_X8_20 dX8_shut_64 ?_
            refine wa_iload_n C (i := 1) dX8_shut_67 rfl rfl ?_
            refine wa_iload_n C (i := 2) dX8_shut_68 rfl rfl ?_
            refine wa_iload_n C (i := 3) dX8_shut_69 rfl rfl ?_
            refine wa_callVi C lq_6 sh_6 rfl s_X8_101 i_X2_addShut e_X2_addShut dX8_shut_70 (ok_X2_addShut h) rfl rfl (Nat.le_of_ble_eq_true rfl) (by rw [hd]; decide) (fun v4 g4 h => ?_)
            exact wa_iret C hv rfl dX8_shut_73 h
          · exact WA.weak (hJ56  h) ⟨rfl, trivial⟩
      · exact WA.weak (hJ30  h) ⟨rfl, trivial⟩

set_option maxRecDepth 20000 in
theorem ok_X8_reachedOrNone {l : Launch} {E : fp_E} {x0 : Int32} {g : fp_G} {K : Int32 → fp_G → Prop} (h : w_X8_reachedOrNone x0 g K) : fp_M l E yX8_reachedOrNone cX8_reachedOrNone 1 ((Option.some Jvm.ClassFile.FieldType.int)) false 1 [.int x0] g K := by
  unfold w_X8_reachedOrNone at h
  refine fp_enter rfl [some (.int x0)] (Nat.le_of_ble_eq_true rfl) (fun q hq => hq) (fun Z hE hl hv hK hn hd C => ?_)
  subst hE hl hK
  refine wa_iload_n C (i := 0) dX8_reachedOrNone_0 rfl rfl ?_
  refine wa_ldcw C (v := 1000000) k_X8_298 dX8_reachedOrNone_1 ?_
  refine wa_icmp_ge C (tgt := 11) dX8_reachedOrNone_4 (by decide) h (fun h => ?_) (fun h => ?_)
  · refine wa_bipush C (v := (-9)) dX8_reachedOrNone_11 (by decide) ?_
    exact wa_iret C hv rfl dX8_reachedOrNone_13 h
  · refine wa_iload_n C (i := 0) dX8_reachedOrNone_7 rfl rfl ?_
    refine wa_goto C (tgt := 13) dX8_reachedOrNone_8 (by decide) ?_
    exact wa_iret C hv rfl dX8_reachedOrNone_13 h

set_option maxRecDepth 20000 in
theorem ok_X8_far {l : Launch} {E : fp_E} {x1 : Int32} {x2 : Int32} {g : fp_G} {K : Int32 → fp_G → Prop} (h : w_X8_far x1 x2 g K) : fp_M l E yX8_far cX8_far 3 ((Option.some Jvm.ClassFile.FieldType.int)) false 2 [.ref 0, .int x1, .int x2] g K := by
  unfold w_X8_far at h
  refine fp_enter rfl [some (.ref 0), some (.int x1), some (.int x2)] (Nat.le_of_ble_eq_true rfl) (fun q hq => hq) (fun Z hE hl hv hK hn hd C => ?_)
  subst hE hl hK
  refine wa_aload_n C (i := 0) dX8_far_0 rfl rfl ?_
  refine wa_getR C (j := 1) lq_0 sh_0 rfl in_X8 (by decide) rfl f_X8_20 dX8_far_1 ?_
  refine wa_iload_n C (i := 1) dX8_far_4 rfl rfl ?_
  refine wa_callVi C lq_6 sh_6 rfl s_X8_73 i_X2_hasOffice e_X2_hasOffice dX8_far_5 (ok_X2_hasOffice h) rfl rfl (Nat.le_of_ble_eq_true rfl) (by rw [hd]; decide) (fun v1 g1 h => ?_)
  refine fp_j0 (Q := fun g2 => WA Z 22 [some (.ref 0), none, none] [] g2) h (fun g2 h => ?_) (fun J22 hJ22 h => ?_)
  · refine wa_aload_n C (i := 0) dX8_far_22 rfl rfl ?_
    refine wa_iconst C (v := (-1)) dX8_far_23 (by decide) ?_
    refine wa_callVi C lq_0 sh_0 rfl s_X8_59 i_X8_refuse e_X8_refuse dX8_far_24 (ok_X8_refuse h) rfl rfl (Nat.le_of_ble_eq_true rfl) (by rw [hd]; decide) (fun v2 g3 h => ?_)
    exact wa_iret C hv rfl dX8_far_27 h
  refine wa_if_eq C (tgt := 22) dX8_far_8 (by decide) h (fun h => ?_) (fun h => ?_)
  · exact WA.weak (hJ22 _ h) ⟨rfl, trivial⟩
  · refine wa_aload_n C (i := 0) dX8_far_11 rfl rfl ?_
    refine wa_getR C (j := 1) lq_0 sh_0 rfl in_X8 (by decide) rfl f_X8_20 dX8_far_12 ?_
    refine wa_iload_n C (i := 2) dX8_far_15 rfl rfl ?_
    refine wa_callVi C lq_6 sh_6 rfl s_X8_73 i_X2_hasOffice e_X2_hasOffice dX8_far_16 (ok_X2_hasOffice h) rfl rfl (Nat.le_of_ble_eq_true rfl) (by rw [hd]; decide) (fun v3 g4 h => ?_)
    refine wa_if_ne C (tgt := 28) dX8_far_19 (by decide) h (fun h => ?_) (fun h => ?_)
    · exact WA.weak (hJ22 _ h) ⟨rfl, trivial⟩
    · refine wa_aload_n C (i := 0) dX8_far_28 rfl rfl ?_
      refine wa_getR C (j := 1) lq_0 sh_0 rfl in_X8 (by decide) rfl f_X8_20 dX8_far_29 ?_
      refine wa_iload_n C (i := 1) dX8_far_32 rfl rfl ?_
      refine wa_iload_n C (i := 2) dX8_far_33 rfl rfl ?_
      refine wa_callVi C lq_6 sh_6 rfl s_X8_104 i_X2_farBetween e_X2_farBetween dX8_far_34 (ok_X2_farBetween h) rfl rfl (Nat.le_of_ble_eq_true rfl) (by rw [hd]; decide) (fun v4 g5 h => ?_)
      refine wa_callSi C s_X8_108 t_X8_reachedOrNone dX8_far_37 (ok_X8_reachedOrNone h) rfl rfl (Nat.le_of_ble_eq_true rfl) (by rw [hd]; decide) (fun v5 g6 h => ?_)
      exact wa_iret C hv rfl dX8_far_40 h

set_option maxRecDepth 20000 in
theorem ok_X8_late {l : Launch} {E : fp_E} {x1 : Int32} {g : fp_G} {K : Int32 → fp_G → Prop} (h : w_X8_late x1 g K) : fp_M l E yX8_late cX8_late 2 ((Option.some Jvm.ClassFile.FieldType.int)) false 3 [.ref 0, .int x1] g K := by
  unfold w_X8_late at h
  refine fp_enter rfl [some (.ref 0), some (.int x1)] (Nat.le_of_ble_eq_true rfl) (fun q hq => hq) (fun Z hE hl hv hK hn hd C => ?_)
  subst hE hl hK
  refine wa_aload_n C (i := 0) dX8_late_0 rfl rfl ?_
  refine wa_getR C (j := 1) lq_0 sh_0 rfl in_X8 (by decide) rfl f_X8_20 dX8_late_1 ?_
  refine wa_iload_n C (i := 1) dX8_late_4 rfl rfl ?_
  refine wa_callVi C lq_6 sh_6 rfl s_X8_73 i_X2_hasOffice e_X2_hasOffice dX8_late_5 (ok_X2_hasOffice h) rfl rfl (Nat.le_of_ble_eq_true rfl) (by rw [hd]; decide) (fun v1 g1 h => ?_)
  refine wa_if_ne C (tgt := 17) dX8_late_8 (by decide) h (fun h => ?_) (fun h => ?_)
  · refine wa_aload_n C (i := 0) dX8_late_11 rfl rfl ?_
    refine wa_iconst C (v := (-1)) dX8_late_12 (by decide) ?_
    refine wa_callVi C lq_0 sh_0 rfl s_X8_59 i_X8_refuse e_X8_refuse dX8_late_13 (ok_X8_refuse h) rfl rfl (Nat.le_of_ble_eq_true rfl) (by rw [hd]; decide) (fun v4 g4 h => ?_)
    exact wa_iret C hv rfl dX8_late_16 h
  · refine wa_aload_n C (i := 0) dX8_late_17 rfl rfl ?_
    refine wa_getR C (j := 1) lq_0 sh_0 rfl in_X8 (by decide) rfl f_X8_20 dX8_late_18 ?_
    refine wa_iload_n C (i := 1) dX8_late_21 rfl rfl ?_
    refine wa_callVi C lq_6 sh_6 rfl s_X8_111 i_X2_lateAt e_X2_lateAt dX8_late_22 (ok_X2_lateAt h) rfl rfl (Nat.le_of_ble_eq_true rfl) (by rw [hd]; decide) (fun v2 g2 h => ?_)
    refine wa_callSi C s_X8_108 t_X8_reachedOrNone dX8_late_25 (ok_X8_reachedOrNone h) rfl rfl (Nat.le_of_ble_eq_true rfl) (by rw [hd]; decide) (fun v3 g3 h => ?_)
    exact wa_iret C hv rfl dX8_late_28 h

set_option maxRecDepth 20000 in
theorem ok_X8_hours_33 {Z : fp_Z} (C : fp_C Z cX8_hours RX8 ((Option.some Jvm.ClassFile.FieldType.int))) (hv : fp_V Z false) (hn : Z.2.2.2.2.1 = 3) (hd : Z.2.2.2.2.2.1 = 8) {x1 : Int32} : ∀ (n : Nat) (x2 : Int32) (g : fp_G), w_X8_hours_33 n x1 x2 g Z.2.2.2.1 → WA Z 33 [some (.ref 0), some (.int x1), some (.int x2)] [] g := by
  intro n
  induction n with
  | zero => intro x2 g h; exact h.elim
  | succ n ih =>
    intro x2 g h
    rw [w_X8_hours_33] at h
    refine wa_iload_n C (i := 2) dX8_hours_33 rfl rfl ?_
    refine wa_iload_n C (i := 1) dX8_hours_34 rfl rfl ?_
    refine wa_icmp_ge C (tgt := 69) dX8_hours_35 (by decide) h (fun h => ?_) (fun h => ?_)
    · refine wa_aload_n C (i := 0) dX8_hours_69 rfl rfl ?_
      refine wa_getI C (j := 9) lq_0 sh_0 rfl in_X8 (by decide) rfl f_X8_95 dX8_hours_70 ?_
      exact wa_iret C hv rfl dX8_hours_73 h
    · refine wa_aload_n C (i := 0) dX8_hours_38 rfl rfl ?_
      refine wa_getR C (j := 0) lq_0 sh_0 rfl in_X8 (by decide) rfl f_X8_10 dX8_hours_39 ?_
      refine wa_aload_n C (i := 0) dX8_hours_42 rfl rfl ?_
      refine wa_getR C (j := 5) lq_0 sh_0 rfl in_X8 (by decide) rfl f_X8_41 dX8_hours_43 ?_
      refine wa_aload_n C (i := 0) dX8_hours_46 rfl rfl ?_
      refine wa_getI C (j := 9) lq_0 sh_0 rfl in_X8 (by decide) rfl f_X8_95 dX8_hours_47 ?_
      refine wa_callVv C lq_2 sh_2 rfl s_X8_114 i_X4_passHour e_X4_passHour dX8_hours_50 (ok_X4_passHour isC_43 h) rfl rfl (Nat.le_of_ble_eq_true rfl) (by rw [hd]; decide) (fun g1 h => ?_)
      refine wa_aload_n C (i := 0) dX8_hours_53 rfl rfl ?_
      refine wa_dup C dX8_hours_54 rfl ?_
      refine wa_getI C (j := 9) lq_0 sh_0 rfl in_X8 (by decide) rfl f_X8_95 dX8_hours_55 ?_
      refine wa_iconst C (v := 1) dX8_hours_58 (by decide) ?_
      refine wa_iadd C dX8_hours_59 ?_
      refine wa_putI C (j := 9) lq_0 sh_0 rfl in_X8 (by decide) tyX8 tyX8_ok nmX8 rfl rfl rfl f_X8_95 dX8_hours_60 h (fun g2 h => ?_)
      refine wa_iinc C (i := 2) dX8_hours_63 rfl (fp_inc1 _) (by rw [hn]; decide) rfl rfl ?_
      refine wa_goto C (tgt := 33) dX8_hours_66 (by decide) ?_
      exact WA.weak (ih _ _ h) ⟨rfl, ⟨rfl, ⟨rfl, trivial⟩⟩⟩

set_option maxRecDepth 20000 in
theorem ok_X8_hours {l : Launch} {E : fp_E} {x1 : Int32} {g : fp_G} {K : Int32 → fp_G → Prop} (h : w_X8_hours x1 g K) : fp_M l E yX8_hours cX8_hours 3 ((Option.some Jvm.ClassFile.FieldType.int)) false 8 [.ref 0, .int x1] g K := by
  unfold w_X8_hours at h
  refine fp_enter rfl [some (.ref 0), some (.int x1), none] (Nat.le_of_ble_eq_true rfl) (fun q hq => hq) (fun Z hE hl hv hK hn hd C => ?_)
  subst hE hl hK
  refine wa_iload_n C (i := 1) dX8_hours_0 rfl rfl ?_
  refine wa_iconst C (v := 1) dX8_hours_1 (by decide) ?_
  refine wa_icmp_ge C (tgt := 12) dX8_hours_2 (by decide) h (fun h => ?_) (fun h => ?_)
  · refine wa_iload_n C (i := 1) dX8_hours_12 rfl rfl ?_
    refine wa_sipush C (v := 2000) dX8_hours_13 (by decide) ?_
    refine wa_aload_n C (i := 0) dX8_hours_16 rfl rfl ?_
    refine wa_getI C (j := 9) lq_0 sh_0 rfl in_X8 (by decide) rfl f_X8_95 dX8_hours_17 ?_
    refine wa_isub C dX8_hours_20 ?_
    refine wa_icmp_le C (tgt := 31) dX8_hours_21 (by decide) h (fun h => ?_) (fun h => ?_)
    · refine wa_iconst C (v := 0) dX8_hours_31 (by decide) ?_
      refine wa_istore_n C (i := 2) dX8_hours_32 rfl (by rw [hn]; decide) rfl rfl ?_
      obtain ⟨n33, h⟩ := h
      exact WA.weak (ok_X8_hours_33 C hv hn hd n33 _ _ h) ⟨rfl, ⟨rfl, ⟨rfl, trivial⟩⟩⟩
    · refine wa_aload_n C (i := 0) dX8_hours_24 rfl rfl ?_
      refine wa_bipush C (v := (-6)) dX8_hours_25 (by decide) ?_
      refine wa_callVi C lq_0 sh_0 rfl s_X8_59 i_X8_refuse e_X8_refuse dX8_hours_27 (ok_X8_refuse h) rfl rfl (Nat.le_of_ble_eq_true rfl) (by rw [hd]; decide) (fun v2 g3 h => ?_)
      exact wa_iret C hv rfl dX8_hours_30 h
  · refine wa_aload_n C (i := 0) dX8_hours_5 rfl rfl ?_
    refine wa_bipush C (v := (-4)) dX8_hours_6 (by decide) ?_
    refine wa_callVi C lq_0 sh_0 rfl s_X8_59 i_X8_refuse e_X8_refuse dX8_hours_8 (ok_X8_refuse h) rfl rfl (Nat.le_of_ble_eq_true rfl) (by rw [hd]; decide) (fun v3 g4 h => ?_)
    exact wa_iret C hv rfl dX8_hours_11 h

set_option maxRecDepth 20000 in
theorem ok_X8_isUnit {l : Launch} {E : fp_E} {x0 : Int32} {g : fp_G} {K : Int32 → fp_G → Prop} (h : w_X8_isUnit x0 g K) : fp_M l E yX8_isUnit cX8_isUnit 1 ((Option.some Jvm.ClassFile.FieldType.boolean)) false 1 [.int x0] g K := by
  unfold w_X8_isUnit at h
  refine fp_enter rfl [some (.int x0)] (Nat.le_of_ble_eq_true rfl) (fun q hq => hq) (fun Z hE hl hv hK hn hd C => ?_)
  subst hE hl hK
  refine wa_iload_n C (i := 0) dX8_isUnit_0 rfl rfl ?_
  refine fp_k0 (Q := WA Z 14 [none] [] g) h (fun  h => ?_) (fun J14 hJ14 h => ?_)
  · refine wa_iconst C (v := 0) dX8_isUnit_14 (by decide) ?_
    exact wa_zret C hv rfl rfl dX8_isUnit_15 h
  refine wa_if_lt C (tgt := 14) dX8_isUnit_1 (by decide) h (fun h => ?_) (fun h => ?_)
  · exact WA.weak (hJ14  h) trivial
  · refine wa_iload_n C (i := 0) dX8_isUnit_4 rfl rfl ?_
    refine wa_bipush C (v := 16) dX8_isUnit_5 (by decide) ?_
    refine wa_icmp_ge C (tgt := 14) dX8_isUnit_7 (by decide) h (fun h => ?_) (fun h => ?_)
    · exact WA.weak (hJ14  h) trivial
    · refine wa_iconst C (v := 1) dX8_isUnit_10 (by decide) ?_
      refine wa_goto C (tgt := 15) dX8_isUnit_11 (by decide) ?_
      exact wa_zret C hv rfl rfl dX8_isUnit_15 h

set_option maxRecDepth 20000 in
theorem ok_X8_move {l : Launch} {E : fp_E} {x1 : Int32} {x2 : Int32} {x3 : Int32} {g : fp_G} {K : Int32 → fp_G → Prop} (h : w_X8_move x1 x2 x3 g K) : fp_M l E yX8_move cX8_move 4 ((Option.some Jvm.ClassFile.FieldType.int)) false 2 [.ref 0, .int x1, .int x2, .int x3] g K := by
  unfold w_X8_move at h
  refine fp_enter rfl [some (.ref 0), some (.int x1), some (.int x2), some (.int x3)] (Nat.le_of_ble_eq_true rfl) (fun q hq => hq) (fun Z hE hl hv hK hn hd C => ?_)
  subst hE hl hK
  refine wa_iload_n C (i := 1) dX8_move_0 rfl rfl ?_
  refine wa_callSi C s_X8_118 t_X8_isUnit dX8_move_1 (ok_X8_isUnit h) rfl rfl (Nat.le_of_ble_eq_true rfl) (by rw [hd]; decide) (fun v1 g1 h => ?_)
  refine fp_j0 (Q := fun g2 => WA Z 18 [some (.ref 0), none, none, none] [] g2) h (fun g2 h => ?_) (fun J18 hJ18 h => ?_)
  · refine wa_aload_n C (i := 0) dX8_move_18 rfl rfl ?_
    refine wa_iconst C (v := (-1)) dX8_move_19 (by decide) ?_
    refine wa_callVi C lq_0 sh_0 rfl s_X8_59 i_X8_refuse e_X8_refuse dX8_move_20 (ok_X8_refuse h) rfl rfl (Nat.le_of_ble_eq_true rfl) (by rw [hd]; decide) (fun v2 g3 h => ?_)
    exact wa_iret C hv rfl dX8_move_23 h
  refine wa_if_eq C (tgt := 18) dX8_move_4 (by decide) h (fun h => ?_) (fun h => ?_)
  · exact WA.weak (hJ18 _ h) ⟨rfl, trivial⟩
  · refine wa_aload_n C (i := 0) dX8_move_7 rfl rfl ?_
    refine wa_getR C (j := 1) lq_0 sh_0 rfl in_X8 (by decide) rfl f_X8_20 dX8_move_8 ?_
    refine wa_iload_n C (i := 2) dX8_move_11 rfl rfl ?_
    refine wa_callVi C lq_6 sh_6 rfl s_X8_73 i_X2_hasOffice e_X2_hasOffice dX8_move_12 (ok_X2_hasOffice h) rfl rfl (Nat.le_of_ble_eq_true rfl) (by rw [hd]; decide) (fun v3 g4 h => ?_)
    refine wa_if_ne C (tgt := 24) dX8_move_15 (by decide) h (fun h => ?_) (fun h => ?_)
    · exact WA.weak (hJ18 _ h) ⟨rfl, trivial⟩
    · refine wa_iload_n C (i := 3) dX8_move_24 rfl rfl ?_
      refine wa_aload_n C (i := 0) dX8_move_25 rfl rfl ?_
      refine wa_getI C (j := 9) lq_0 sh_0 rfl in_X8 (by decide) rfl f_X8_95 dX8_move_26 ?_
      refine wa_icmp_ge C (tgt := 39) dX8_move_29 (by decide) h (fun h => ?_) (fun h => ?_)
      · refine wa_iload_n C (i := 3) dX8_move_39 rfl rfl ?_
        refine wa_sipush C (v := 2000) dX8_move_40 (by decide) ?_
        refine fp_k0 (Q := WA Z 58 [some (.ref 0), none, none, none] [] g4) h (fun  h => ?_) (fun J58 hJ58 h => ?_)
        · refine wa_aload_n C (i := 0) dX8_move_58 rfl rfl ?_
          refine wa_bipush C (v := (-6)) dX8_move_59 (by decide) ?_
          refine wa_callVi C lq_0 sh_0 rfl s_X8_59 i_X8_refuse e_X8_refuse dX8_move_61 (ok_X8_refuse h) rfl rfl (Nat.le_of_ble_eq_true rfl) (by rw [hd]; decide) (fun v4 g5 h => ?_)
          exact wa_iret C hv rfl dX8_move_64 h
        refine wa_icmp_gt C (tgt := 58) dX8_move_43 (by decide) h (fun h => ?_) (fun h => ?_)
        · exact WA.weak (hJ58  h) ⟨rfl, trivial⟩
        · refine wa_aload_n C (i := 0) dX8_move_46 rfl rfl ?_
          refine wa_getR C (j := 2) lq_0 sh_0 rfl in_X8 (by decide) rfl f_X8_25 dX8_move_47 ?_
          refine wa_getI C (j := 4) lq_18 sh_18 rfl in_X6 (by decide) rfl f_X8_121 dX8_move_50 ?_
          refine wa_bipush C (v := 60) dX8_move_53 (by decide) ?_
          refine wa_icmp_lt C (tgt := 65) dX8_move_55 (by decide) h (fun h => ?_) (fun h => ?_)
          · refine wa_aload_n C (i := 0) dX8_move_65 rfl rfl ?_
            refine wa_getR C (j := 2) lq_0 sh_0 rfl in_X8 (by decide) rfl f_X8_25 dX8_move_66 ?_
            refine wa_iload_n C (i := 1) dX8_move_69 rfl rfl ?_
            refine wa_iload_n C (i := 2) dX8_move_70 rfl rfl ?_
            refine wa_iload_n C (i := 3) dX8_move_71 rfl rfl ?_
            refine wa_aload_n C (i := 0) dX8_move_72 rfl rfl ?_
            refine wa_getI C (j := 9) lq_0 sh_0 rfl in_X8 (by decide) rfl f_X8_95 dX8_move_73 ?_
            refine wa_callVi C lq_18 sh_18 rfl s_X8_126 i_X6_addMove e_X6_addMove dX8_move_76 (ok_X6_addMove h) rfl rfl (Nat.le_of_ble_eq_true rfl) (by rw [hd]; decide) (fun v5 g6 h => ?_)
            exact wa_iret C hv rfl dX8_move_79 h
          · exact WA.weak (hJ58  h) ⟨rfl, trivial⟩
      · refine wa_aload_n C (i := 0) dX8_move_32 rfl rfl ?_
        refine wa_bipush C (v := (-4)) dX8_move_33 (by decide) ?_
        refine wa_callVi C lq_0 sh_0 rfl s_X8_59 i_X8_refuse e_X8_refuse dX8_move_35 (ok_X8_refuse h) rfl rfl (Nat.le_of_ble_eq_true rfl) (by rw [hd]; decide) (fun v6 g7 h => ?_)
        exact wa_iret C hv rfl dX8_move_38 h
