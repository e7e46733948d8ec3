set_option maxRecDepth 20000 in
theorem ok_X2_lateAt {l : Launch} {E : fp_E} {x1 : Int32} {g : fp_G} {K : Int32 → fp_G → Prop} (h : w_X2_lateAt x1 g K) : fp_M l E yX2_lateAt cX2_lateAt 2 ((Option.some Jvm.ClassFile.FieldType.int)) false 2 [.ref 6, .int x1] g K := by
  unfold w_X2_lateAt at h
  refine fp_enter rfl [some (.ref 6), some (.int x1)] (Nat.le_of_ble_eq_true rfl) (fun q hq => hq) (fun Z hE hl hv hK hn hd C => ?_)
  subst hE hl hK
  refine wa_aload_n C (i := 0) dX2_lateAt_0 rfl rfl ?_
  refine wa_getR C (j := 1) lq_6 sh_6 rfl in_X2 (by decide) rfl f_X2_15 dX2_lateAt_1 ?_
  refine wa_iload_n C (i := 1) dX2_lateAt_4 rfl rfl ?_
  refine wa_zald C lq_8 sh_8 dX2_lateAt_5 h (fun v1 h => ?_)
  refine wa_if_eq C (tgt := 13) dX2_lateAt_6 (by decide) h (fun h => ?_) (fun h => ?_)
  · refine wa_aload_n C (i := 0) dX2_lateAt_13 rfl rfl ?_
    refine wa_iconst C (v := 0) dX2_lateAt_14 (by decide) ?_
    refine wa_iload_n C (i := 1) dX2_lateAt_15 rfl rfl ?_
    refine wa_callVi C lq_6 sh_6 rfl s_X2_64 i_X2_farBetween e_X2_farBetween dX2_lateAt_16 (ok_X2_farBetween h) rfl rfl (Nat.le_of_ble_eq_true rfl) (by rw [hd]; decide) (fun v2 g1 h => ?_)
    exact wa_iret C hv rfl dX2_lateAt_19 h
  · refine wa_iconst C (v := 0) dX2_lateAt_9 (by decide) ?_
    refine wa_goto C (tgt := 19) dX2_lateAt_10 (by decide) ?_
    exact wa_iret C hv rfl dX2_lateAt_19 h

set_option maxRecDepth 20000 in
theorem ok_X2_leaves_40 {Z : fp_Z} (C : fp_C Z cX2_leaves RX2 ((Option.some Jvm.ClassFile.FieldType.boolean))) (hv : fp_V Z false) (hn : Z.2.2.2.2.1 = 5) (hd : Z.2.2.2.2.2.1 = 1) {x1 : Int32} {x2 : Int32} : ∀ (n : Nat) (x4 : Int32) (g : fp_G), w_X2_leaves_40 n x1 x2 x4 g Z.2.2.2.1 → WA Z 40 [some (.ref 6), some (.int x1), some (.int x2), none, some (.int x4)] [] g := by
  intro n
  induction n with
  | zero => intro x4 g h; exact h.elim
  | succ n ih =>
    intro x4 g h
    rw [w_X2_leaves_40] at h
    refine wa_iload C dX2_leaves_40 rfl ?_
    refine wa_aload_n C (i := 0) dX2_leaves_42 rfl rfl ?_
    refine wa_getI C (j := 13) lq_6 sh_6 rfl in_X2 (by decide) rfl f_X2_73 dX2_leaves_43 ?_
    refine wa_icmp_ge C (tgt := 90) dX2_leaves_46 (by decide) h (fun h => ?_) (fun h => ?_)
    · refine wa_iconst C (v := 1) dX2_leaves_90 (by decide) ?_
      exact wa_zret C hv rfl rfl dX2_leaves_91 h
    · refine wa_aload_n C (i := 0) dX2_leaves_49 rfl rfl ?_
      refine wa_getR C (j := 10) lq_6 sh_6 rfl in_X2 (by decide) rfl f_X2_37 dX2_leaves_50 ?_
      refine wa_iload C dX2_leaves_53 rfl ?_
      refine wa_iald C lq_15 sh_15 dX2_leaves_55 h (fun v4 h => ?_)
      refine wa_iload_n C (i := 1) dX2_leaves_56 rfl rfl ?_
      refine fp_k0 (Q := WA Z 84 [some (.ref 6), some (.int x1), some (.int x2), none, some (.int x4)] [] g) h (fun  h => ?_) (fun J84 hJ84 h => ?_)
      · refine wa_iinc C (i := 4) dX2_leaves_84 rfl (fp_inc1 _) (by rw [hn]; decide) rfl rfl ?_
        refine wa_goto C (tgt := 40) dX2_leaves_87 (by decide) ?_
        exact WA.weak (ih _ _ h) ⟨rfl, ⟨rfl, ⟨rfl, ⟨rfl, trivial⟩⟩⟩⟩
      refine wa_icmp_ne C (tgt := 84) dX2_leaves_57 (by decide) h (fun h => ?_) (fun h => ?_)
      · refine wa_aload_n C (i := 0) dX2_leaves_60 rfl rfl ?_
        refine wa_getR C (j := 11) lq_6 sh_6 rfl in_X2 (by decide) rfl f_X2_40 dX2_leaves_61 ?_
        refine wa_iload C dX2_leaves_64 rfl ?_
        refine wa_iald C lq_16 sh_16 dX2_leaves_66 h (fun v5 h => ?_)
        refine wa_iload_n C (i := 2) dX2_leaves_67 rfl rfl ?_
        refine wa_icmp_gt C (tgt := 84) dX2_leaves_68 (by decide) h (fun h => ?_) (fun h => ?_)
        · exact WA.weak (hJ84  h) ⟨rfl, ⟨rfl, ⟨rfl, ⟨rfl, trivial⟩⟩⟩⟩
        · refine wa_iload_n C (i := 2) dX2_leaves_71 rfl rfl ?_
          refine wa_aload_n C (i := 0) dX2_leaves_72 rfl rfl ?_
          refine wa_getR C (j := 12) lq_6 sh_6 rfl in_X2 (by decide) rfl f_X2_43 dX2_leaves_73 ?_
          refine wa_iload C dX2_leaves_76 rfl ?_
          refine wa_iald C lq_17 sh_17 dX2_leaves_78 h (fun v6 h => ?_)
          refine wa_icmp_gt C (tgt := 84) dX2_leaves_79 (by decide) h (fun h => ?_) (fun h => ?_)
          · exact WA.weak (hJ84  h) ⟨rfl, ⟨rfl, ⟨rfl, ⟨rfl, trivial⟩⟩⟩⟩
          · refine wa_iconst C (v := 0) dX2_leaves_82 (by decide) ?_
            exact wa_zret C hv rfl rfl dX2_leaves_83 h
      · exact WA.weak (hJ84  h) ⟨rfl, ⟨rfl, ⟨rfl, ⟨rfl, trivial⟩⟩⟩⟩

set_option maxRecDepth 20000 in
theorem ok_X2_leaves {l : Launch} {E : fp_E} {x1 : Int32} {x2 : Int32} {g : fp_G} {K : Int32 → fp_G → Prop} (h : w_X2_leaves x1 x2 g K) : fp_M l E yX2_leaves cX2_leaves 5 ((Option.some Jvm.ClassFile.FieldType.boolean)) false 1 [.ref 6, .int x1, .int x2] g K := by
  unfold w_X2_leaves at h
  refine fp_enter rfl [some (.ref 6), some (.int x1), some (.int x2), none, none] (Nat.le_of_ble_eq_true rfl) (fun q hq => hq) (fun Z hE hl hv hK hn hd C => ?_)
  subst hE hl hK
  refine wa_aload_n C (i := 0) dX2_leaves_0 rfl rfl ?_
  refine wa_getR C (j := 8) lq_6 sh_6 rfl in_X2 (by decide) rfl f_X2_34 dX2_leaves_1 ?_
  refine wa_iload_n C (i := 1) dX2_leaves_4 rfl rfl ?_
  refine wa_iald C lq_14 sh_14 dX2_leaves_5 h (fun v1 h => ?_)
  refine wa_istore_n C (i := 3) dX2_leaves_6 rfl (by rw [hn]; decide) rfl rfl ?_
  refine wa_iload_n C (i := 3) dX2_leaves_7 rfl rfl ?_
  refine wa_iconst C (v := 1) dX2_leaves_8 (by decide) ?_
  refine wa_icmp_lt C (tgt := 35) dX2_leaves_9 (by decide) h (fun h => ?_) (fun h => ?_)
  · refine wa_iconst C (v := 0) dX2_leaves_35 (by decide) ?_
    exact wa_zret C hv rfl rfl dX2_leaves_36 h
  · refine wa_iload_n C (i := 2) dX2_leaves_12 rfl rfl ?_
    refine wa_aload_n C (i := 0) dX2_leaves_13 rfl rfl ?_
    refine wa_getR C (j := 7) lq_6 sh_6 rfl in_X2 (by decide) rfl f_X2_31 dX2_leaves_14 ?_
    refine wa_iload_n C (i := 1) dX2_leaves_17 rfl rfl ?_
    refine wa_iald C lq_13 sh_13 dX2_leaves_18 h (fun v2 h => ?_)
    refine wa_icmp_lt C (tgt := 35) dX2_leaves_19 (by decide) h (fun h => ?_) (fun h => ?_)
    · refine wa_iconst C (v := 0) dX2_leaves_35 (by decide) ?_
      exact wa_zret C hv rfl rfl dX2_leaves_36 h
    · refine wa_iload_n C (i := 2) dX2_leaves_22 rfl rfl ?_
      refine wa_aload_n C (i := 0) dX2_leaves_23 rfl rfl ?_
      refine wa_getR C (j := 7) lq_6 sh_6 rfl in_X2 (by decide) rfl f_X2_31 dX2_leaves_24 ?_
      refine wa_iload_n C (i := 1) dX2_leaves_27 rfl rfl ?_
      refine wa_iald C lq_13 sh_13 dX2_leaves_28 h (fun v3 h => ?_)
      refine wa_isub C dX2_leaves_29 ?_
      refine wa_iload_n C (i := 3) dX2_leaves_30 rfl rfl ?_
      refine wa_irem C dX2_leaves_31 h (fun h => ?_)
      refine wa_if_eq C (tgt := 37) dX2_leaves_32 (by decide) h (fun h => ?_) (fun h => ?_)
      · refine wa_iconst C (v := 0) dX2_leaves_37 (by decide) ?_
        refine wa_istore C (i := 4) dX2_leaves_38 (by rw [hn]; decide) rfl rfl ?_
        obtain ⟨n40, h⟩ := h
        exact WA.weak (ok_X2_leaves_40 C hv hn hd n40 _ _ h) ⟨rfl, ⟨rfl, ⟨rfl, ⟨rfl, trivial⟩⟩⟩⟩
      · refine wa_iconst C (v := 0) dX2_leaves_35 (by decide) ?_
        exact wa_zret C hv rfl rfl dX2_leaves_36 h

set_option maxRecDepth 20000 in
theorem ok_X2_otherEnd {l : Launch} {E : fp_E} {x1 : Int32} {x2 : Int32} {g : fp_G} {K : Int32 → fp_G → Prop} (h : w_X2_otherEnd x1 x2 g K) : fp_M l E yX2_otherEnd cX2_otherEnd 3 ((Option.some Jvm.ClassFile.FieldType.int)) false 1 [.ref 6, .int x1, .int x2] g K := by
  unfold w_X2_otherEnd at h
  refine fp_enter rfl [some (.ref 6), some (.int x1), some (.int x2)] (Nat.le_of_ble_eq_true rfl) (fun q hq => hq) (fun Z hE hl hv hK hn hd C => ?_)
  subst hE hl hK
  refine wa_aload_n C (i := 0) dX2_otherEnd_0 rfl rfl ?_
  refine wa_getR C (j := 4) lq_6 sh_6 rfl in_X2 (by decide) rfl f_X2_22 dX2_otherEnd_1 ?_
  refine wa_iload_n C (i := 1) dX2_otherEnd_4 rfl rfl ?_
  refine wa_iald C lq_10 sh_10 dX2_otherEnd_5 h (fun v1 h => ?_)
  refine wa_iload_n C (i := 2) dX2_otherEnd_6 rfl rfl ?_
  refine wa_icmp_ne C (tgt := 19) dX2_otherEnd_7 (by decide) h (fun h => ?_) (fun h => ?_)
  · refine wa_aload_n C (i := 0) dX2_otherEnd_10 rfl rfl ?_
    refine wa_getR C (j := 5) lq_6 sh_6 rfl in_X2 (by decide) rfl f_X2_25 dX2_otherEnd_11 ?_
    refine wa_iload_n C (i := 1) dX2_otherEnd_14 rfl rfl ?_
    refine wa_iald C lq_11 sh_11 dX2_otherEnd_15 h (fun v3 h => ?_)
    refine wa_goto C (tgt := 25) dX2_otherEnd_16 (by decide) ?_
    exact wa_iret C hv rfl dX2_otherEnd_25 h
  · refine wa_aload_n C (i := 0) dX2_otherEnd_19 rfl rfl ?_
    refine wa_getR C (j := 4) lq_6 sh_6 rfl in_X2 (by decide) rfl f_X2_22 dX2_otherEnd_20 ?_
    refine wa_iload_n C (i := 1) dX2_otherEnd_23 rfl rfl ?_
    refine wa_iald C lq_10 sh_10 dX2_otherEnd_24 h (fun v2 h => ?_)
    exact wa_iret C hv rfl dX2_otherEnd_25 h

set_option maxRecDepth 20000 in
theorem ok_X2_wayTo_29 {Z : fp_Z} (C : fp_C Z cX2_wayTo RX2 ((Option.some Jvm.ClassFile.FieldType.int))) (hv : fp_V Z false) (hn : Z.2.2.2.2.1 = 4) (hd : Z.2.2.2.2.2.1 = 2) {x1 : Int32} {x2 : Int32} : ∀ (n : Nat) (x3 : Int32) (g : fp_G), w_X2_wayTo_29 n x1 x2 x3 g Z.2.2.2.1 → WA Z 29 [some (.ref 6), some (.int x1), some (.int x2), some (.int x3)] [] g := by
  intro n
  induction n with
  | zero => intro x3 g h; exact h.elim
  | succ n ih =>
    intro x3 g h
    rw [w_X2_wayTo_29] at h
    refine wa_iload_n C (i := 3) dX2_wayTo_29 rfl rfl ?_
    refine wa_aload_n C (i := 0) dX2_wayTo_30 rfl rfl ?_
    refine wa_getI C (j := 9) lq_6 sh_6 rfl in_X2 (by decide) rfl f_X2_57 dX2_wayTo_31 ?_
    refine wa_icmp_ge C (tgt := 92) dX2_wayTo_34 (by decide) h (fun h => ?_) (fun h => ?_)
    · refine wa_bipush C (v := (-9)) dX2_wayTo_92 (by decide) ?_
      exact wa_iret C hv rfl dX2_wayTo_94 h
    · refine wa_aload_n C (i := 0) dX2_wayTo_37 rfl rfl ?_
      refine wa_getR C (j := 4) lq_6 sh_6 rfl in_X2 (by decide) rfl f_X2_22 dX2_wayTo_38 ?_
      refine wa_iload_n C (i := 3) dX2_wayTo_41 rfl rfl ?_
      refine wa_iald C lq_10 sh_10 dX2_wayTo_42 h (fun v3 h => ?_)
      refine wa_iload_n C (i := 1) dX2_wayTo_43 rfl rfl ?_
      refine fp_j0 (Q := fun g3 => WA Z 86 [some (.ref 6), some (.int x1), some (.int x2), some (.int x3)] [] g3) h (fun g3 h => ?_) (fun J86 hJ86 h => ?_)
      · refine wa_iinc C (i := 3) dX2_wayTo_86 rfl (fp_inc1 _) (by rw [hn]; decide) rfl rfl ?_
        refine wa_goto C (tgt := 29) dX2_wayTo_89 (by decide) ?_
        exact WA.weak (ih _ _ h) ⟨rfl, ⟨rfl, ⟨rfl, ⟨rfl, trivial⟩⟩⟩⟩
      refine fp_k0 (Q := WA Z 57 [some (.ref 6), some (.int x1), some (.int x2), some (.int x3)] [] g) h (fun  h => ?_) (fun J57 hJ57 h => ?_)
      · refine wa_aload_n C (i := 0) dX2_wayTo_57 rfl rfl ?_
        refine wa_getR C (j := 6) lq_6 sh_6 rfl in_X2 (by decide) rfl f_X2_28 dX2_wayTo_58 ?_
        refine wa_iload_n C (i := 3) dX2_wayTo_61 rfl rfl ?_
        refine wa_iald C lq_12 sh_12 dX2_wayTo_62 h (fun v4 h => ?_)
        refine wa_aload_n C (i := 0) dX2_wayTo_63 rfl rfl ?_
        refine wa_aload_n C (i := 0) dX2_wayTo_64 rfl rfl ?_
        refine wa_iload_n C (i := 3) dX2_wayTo_65 rfl rfl ?_
        refine wa_iload_n C (i := 1) dX2_wayTo_66 rfl rfl ?_
        refine wa_callVi C lq_6 sh_6 rfl s_X2_80 i_X2_otherEnd e_X2_otherEnd dX2_wayTo_67 (ok_X2_otherEnd h) rfl rfl (Nat.le_of_ble_eq_true rfl) (by rw [hd]; decide) (fun v5 g4 h => ?_)
        refine wa_iload_n C (i := 2) dX2_wayTo_70 rfl rfl ?_
        refine wa_callVi C lq_6 sh_6 rfl s_X2_64 i_X2_farBetween e_X2_farBetween dX2_wayTo_71 (ok_X2_farBetween h) rfl rfl (Nat.le_of_ble_eq_true rfl) (by rw [hd]; decide) (fun v6 g5 h => ?_)
        refine wa_iadd C dX2_wayTo_74 ?_
        refine wa_aload_n C (i := 0) dX2_wayTo_75 rfl rfl ?_
        refine wa_iload_n C (i := 1) dX2_wayTo_76 rfl rfl ?_
        refine wa_iload_n C (i := 2) dX2_wayTo_77 rfl rfl ?_
        refine wa_callVi C lq_6 sh_6 rfl s_X2_64 i_X2_farBetween e_X2_farBetween dX2_wayTo_78 (ok_X2_farBetween h) rfl rfl (Nat.le_of_ble_eq_true rfl) (by rw [hd]; decide) (fun v7 g6 h => ?_)
        refine wa_icmp_ne C (tgt := 86) dX2_wayTo_81 (by decide) h (fun h => ?_) (fun h => ?_)
        · refine wa_iload_n C (i := 3) dX2_wayTo_84 rfl rfl ?_
          exact wa_iret C hv rfl dX2_wayTo_85 h
        · exact WA.weak (hJ86 _ h) ⟨rfl, ⟨rfl, ⟨rfl, ⟨rfl, trivial⟩⟩⟩⟩
      refine wa_icmp_eq C (tgt := 57) dX2_wayTo_44 (by decide) h (fun h => ?_) (fun h => ?_)
      · exact WA.weak (hJ57  h) ⟨rfl, ⟨rfl, ⟨rfl, ⟨rfl, trivial⟩⟩⟩⟩
      · refine wa_aload_n C (i := 0) dX2_wayTo_47 rfl rfl ?_
        refine wa_getR C (j := 5) lq_6 sh_6 rfl in_X2 (by decide) rfl f_X2_25 dX2_wayTo_48 ?_
        refine wa_iload_n C (i := 3) dX2_wayTo_51 rfl rfl ?_
        refine wa_iald C lq_11 sh_11 dX2_wayTo_52 h (fun v8 h => ?_)
        refine wa_iload_n C (i := 1) dX2_wayTo_53 rfl rfl ?_
        refine wa_icmp_ne C (tgt := 86) dX2_wayTo_54 (by decide) h (fun h => ?_) (fun h => ?_)
        · exact WA.weak (hJ57  h) ⟨rfl, ⟨rfl, ⟨rfl, ⟨rfl, trivial⟩⟩⟩⟩
        · exact WA.weak (hJ86 _ h) ⟨rfl, ⟨rfl, ⟨rfl, ⟨rfl, trivial⟩⟩⟩⟩

set_option maxRecDepth 20000 in
theorem ok_X2_wayTo {l : Launch} {E : fp_E} {x1 : Int32} {x2 : Int32} {g : fp_G} {K : Int32 → fp_G → Prop} (h : w_X2_wayTo x1 x2 g K) : fp_M l E yX2_wayTo cX2_wayTo 4 ((Option.some Jvm.ClassFile.FieldType.int)) false 2 [.ref 6, .int x1, .int x2] g K := by
  unfold w_X2_wayTo at h
  refine fp_enter rfl [some (.ref 6), some (.int x1), some (.int x2), none] (Nat.le_of_ble_eq_true rfl) (fun q hq => hq) (fun Z hE hl hv hK hn hd C => ?_)
  subst hE hl hK
  refine wa_aload_n C (i := 0) dX2_wayTo_0 rfl rfl ?_
  refine wa_iload_n C (i := 2) dX2_wayTo_1 rfl rfl ?_
  refine wa_callVi C lq_6 sh_6 rfl s_X2_76 i_X2_hasOffice e_X2_hasOffice dX2_wayTo_2 (ok_X2_hasOffice h) rfl rfl (Nat.le_of_ble_eq_true rfl) (by rw [hd]; decide) (fun v1 g1 h => ?_)
  refine wa_if_eq C (tgt := 24) dX2_wayTo_5 (by decide) h (fun h => ?_) (fun h => ?_)
  · refine wa_bipush C (v := (-9)) dX2_wayTo_24 (by decide) ?_
    exact wa_iret C hv rfl dX2_wayTo_26 h
  · refine wa_iload_n C (i := 2) dX2_wayTo_8 rfl rfl ?_
    refine wa_iload_n C (i := 1) dX2_wayTo_9 rfl rfl ?_
    refine wa_icmp_eq C (tgt := 24) dX2_wayTo_10 (by decide) h (fun h => ?_) (fun h => ?_)
    · refine wa_bipush C (v := (-9)) dX2_wayTo_24 (by decide) ?_
      exact wa_iret C hv rfl dX2_wayTo_26 h
    · refine wa_aload_n C (i := 0) dX2_wayTo_13 rfl rfl ?_
      refine wa_iload_n C (i := 1) dX2_wayTo_14 rfl rfl ?_
      refine wa_iload_n C (i := 2) dX2_wayTo_15 rfl rfl ?_
      refine wa_callVi C lq_6 sh_6 rfl s_X2_64 i_X2_farBetween e_X2_farBetween dX2_wayTo_16 (ok_X2_farBetween h) rfl rfl (Nat.le_of_ble_eq_true rfl) (by rw [hd]; decide) (fun v2 g2 h => ?_)
      refine wa_ldc C (v := 1000000) k_X2_46 dX2_wayTo_19 ?_
      refine wa_icmp_lt C (tgt := 27) dX2_wayTo_21 (by decide) h (fun h => ?_) (fun h => ?_)
      · refine wa_iconst C (v := 0) dX2_wayTo_27 (by decide) ?_
        refine wa_istore_n C (i := 3) dX2_wayTo_28 rfl (by rw [hn]; decide) rfl rfl ?_
        obtain ⟨n29, h⟩ := h
        exact WA.weak (ok_X2_wayTo_29 C hv hn hd n29 _ _ h) ⟨rfl, ⟨rfl, ⟨rfl, ⟨rfl, trivial⟩⟩⟩⟩
      · refine wa_bipush C (v := (-9)) dX2_wayTo_24 (by decide) ?_
        exact wa_iret C hv rfl dX2_wayTo_26 h

set_option maxRecDepth 20000 in
theorem ok_X3_addBytes_3 {Z : fp_Z} (C : fp_C Z cX3_addBytes RX3 ((Option.some Jvm.ClassFile.FieldType.int))) (hv : fp_V Z false) (hn : Z.2.2.2.2.1 = 5) (hd : Z.2.2.2.2.2.1 = 1) {x1 : Int32} {x2 : Int64} : ∀ (n : Nat) (x4 : Int32) (g : fp_G), w_X3_addBytes_3 n x1 x2 x4 g Z.2.2.2.1 → WA Z 3 [some (.ref 29), some (.int x1), some (.long x2), none, some (.int x4)] [] g := by
  intro n
  induction n with
  | zero => intro x4 g h; exact h.elim
  | succ n ih =>
    intro x4 g h
    rw [w_X3_addBytes_3] at h
    refine wa_iload C dX3_addBytes_3 rfl ?_
    refine wa_iload_n C (i := 1) dX3_addBytes_5 rfl rfl ?_
    refine wa_icmp_ge C (tgt := 46) dX3_addBytes_6 (by decide) h (fun h => ?_) (fun h => ?_)
    · refine wa_aload_n C (i := 0) dX3_addBytes_46 rfl rfl ?_
      refine wa_getI C (j := 1) lq_29 sh_29 rfl in_X3 (by decide) rfl f_X3_35 dX3_addBytes_47 ?_
      exact wa_iret C hv rfl dX3_addBytes_50 h
    · refine wa_aload_n C (i := 0) dX3_addBytes_9 rfl rfl ?_
      refine wa_getR C (j := 0) lq_29 sh_29 rfl in_X3 (by decide) rfl f_X3_12 dX3_addBytes_10 ?_
      refine wa_getR C (j := 0) lq_34 sh_34 rfl in_X5 (by decide) rfl f_X3_31 dX3_addBytes_13 ?_
      refine wa_aload_n C (i := 0) dX3_addBytes_16 rfl rfl ?_
      refine wa_getI C (j := 1) lq_29 sh_29 rfl in_X3 (by decide) rfl f_X3_35 dX3_addBytes_17 ?_
      refine wa_lload_n C (i := 2) dX3_addBytes_20 rfl rfl ?_
      refine wa_bipush C (v := 8) dX3_addBytes_21 (by decide) ?_
      refine wa_iload C dX3_addBytes_23 rfl ?_
      refine wa_imul C dX3_addBytes_25 ?_
      refine wa_lshr C dX3_addBytes_26 ?_
      refine wa_l2i C dX3_addBytes_27 ?_
      refine wa_i2b C dX3_addBytes_28 ?_
      refine wa_bast C lq_35 sh_35 dX3_addBytes_29 h (fun g1 h => ?_)
      refine wa_aload_n C (i := 0) dX3_addBytes_30 rfl rfl ?_
      refine wa_dup C dX3_addBytes_31 rfl ?_
      refine wa_getI C (j := 1) lq_29 sh_29 rfl in_X3 (by decide) rfl f_X3_35 dX3_addBytes_32 ?_
      refine wa_iconst C (v := 1) dX3_addBytes_35 (by decide) ?_
      refine wa_iadd C dX3_addBytes_36 ?_
      refine wa_putI C (j := 1) lq_29 sh_29 rfl in_X3 (by decide) tyX3 tyX3_ok nmX3 rfl rfl rfl f_X3_35 dX3_addBytes_37 h (fun g2 h => ?_)
      refine wa_iinc C (i := 4) dX3_addBytes_40 rfl (fp_inc1 _) (by rw [hn]; decide) rfl rfl ?_
      refine wa_goto C (tgt := 3) dX3_addBytes_43 (by decide) ?_
      exact WA.weak (ih _ _ h) ⟨rfl, ⟨rfl, ⟨rfl, ⟨rfl, trivial⟩⟩⟩⟩

set_option maxRecDepth 20000 in
theorem ok_X3_addBytes {l : Launch} {E : fp_E} {x1 : Int32} {x2 : Int64} {g : fp_G} {K : Int32 → fp_G → Prop} (h : w_X3_addBytes x1 x2 g K) : fp_M l E yX3_addBytes cX3_addBytes 5 ((Option.some Jvm.ClassFile.FieldType.int)) false 1 [.ref 29, .int x1, .long x2] g K := by
  unfold w_X3_addBytes at h
  refine fp_enter rfl [some (.ref 29), some (.int x1), some (.long x2), none, none] (Nat.le_of_ble_eq_true rfl) (fun q hq => hq) (fun Z hE hl hv hK hn hd C => ?_)
  subst hE hl hK
  refine wa_iconst C (v := 0) dX3_addBytes_0 (by decide) ?_
  refine wa_istore C (i := 4) dX3_addBytes_1 (by rw [hn]; decide) rfl rfl ?_
  obtain ⟨n3, h⟩ := h
  exact WA.weak (ok_X3_addBytes_3 C hv hn hd n3 _ _ h) ⟨rfl, ⟨rfl, ⟨rfl, ⟨rfl, trivial⟩⟩⟩⟩

set_option maxRecDepth 20000 in
theorem ok_X5_goTo {l : Launch} {E : fp_E} {x1 : Int32} {g : fp_G} {K : Int32 → fp_G → Prop} (h : w_X5_goTo x1 g K) : fp_M l E yX5_goTo cX5_goTo 2 ((Option.none : Option Jvm.ClassFile.FieldType)) true 1 [.ref 34, .int x1] g K := by
  unfold w_X5_goTo at h
  refine fp_enter rfl [some (.ref 34), some (.int x1)] (Nat.le_of_ble_eq_true rfl) (fun q hq => hq) (fun Z hE hl hv hK hn hd C => ?_)
  subst hE hl hK
  refine wa_aload_n C (i := 0) dX5_goTo_0 rfl rfl ?_
  refine wa_iload_n C (i := 1) dX5_goTo_1 rfl rfl ?_
  refine wa_putI C (j := 4) lq_34 sh_34 rfl in_X5 (by decide) tyX5 tyX5_ok nmX5 rfl rfl rfl f_X5_42 dX5_goTo_2 h (fun g1 h => ?_)
  refine wa_aload_n C (i := 0) dX5_goTo_5 rfl rfl ?_
  refine wa_iload_n C (i := 1) dX5_goTo_6 rfl rfl ?_
  refine fp_k0 (Q := WA Z 32 [none, none] [.ref 34] g1) h (fun  h => ?_) (fun J32 hJ32 h => ?_)
  · refine wa_iconst C (v := 0) dX5_goTo_32 (by decide) ?_
    refine wa_putC C (j := 6) lq_34 sh_34 rfl in_X5 (by decide) tyX5 tyX5_ok nmX5 rfl rfl rfl f_X5_61 dX5_goTo_33 h (fun g2 h => ?_)
    exact wa_vret C hv rfl dX5_goTo_36 h
  refine wa_if_lt C (tgt := 32) dX5_goTo_7 (by decide) h (fun h => ?_) (fun h => ?_)
  · exact WA.weak (hJ32  h) trivial
  · refine wa_iload_n C (i := 1) dX5_goTo_10 rfl rfl ?_
    refine wa_aload_n C (i := 0) dX5_goTo_11 rfl rfl ?_
    refine wa_getI C (j := 3) lq_34 sh_34 rfl in_X5 (by decide) rfl f_X5_25 dX5_goTo_12 ?_
    refine wa_icmp_ge C (tgt := 32) dX5_goTo_15 (by decide) h (fun h => ?_) (fun h => ?_)
    · exact WA.weak (hJ32  h) trivial
    · refine wa_aload_n C (i := 0) dX5_goTo_18 rfl rfl ?_
      refine wa_getR C (j := 0) lq_34 sh_34 rfl in_X5 (by decide) rfl f_X5_11 dX5_goTo_19 ?_
      refine wa_iload_n C (i := 1) dX5_goTo_22 rfl rfl ?_
      refine wa_bald C lq_35 sh_35 dX5_goTo_23 h (fun v1 h => ?_)
      refine wa_sipush C (v := 255) dX5_goTo_24 (by decide) ?_
      refine wa_iand C dX5_goTo_27 ?_
      refine wa_i2c C dX5_goTo_28 ?_
      refine wa_goto C (tgt := 33) dX5_goTo_29 (by decide) ?_
      refine wa_putC C (j := 6) lq_34 sh_34 rfl in_X5 (by decide) tyX5 tyX5_ok nmX5 rfl rfl rfl f_X5_61 dX5_goTo_33 h (fun g3 h => ?_)
      exact wa_vret C hv rfl dX5_goTo_36 h

set_option maxRecDepth 20000 in
theorem ok_X5_fail {l : Launch} {E : fp_E} {g : fp_G} {K : Int32 → fp_G → Prop} (h : w_X5_fail  g K) : fp_M l E yX5_fail cX5_fail 1 ((Option.none : Option Jvm.ClassFile.FieldType)) true 1 [.ref 34] g K := by
  unfold w_X5_fail at h
  refine fp_enter rfl [some (.ref 34)] (Nat.le_of_ble_eq_true rfl) (fun q hq => hq) (fun Z hE hl hv hK hn hd C => ?_)
  subst hE hl hK
  refine wa_aload_n C (i := 0) dX5_fail_0 rfl rfl ?_
  refine wa_getI C (j := 5) lq_34 sh_34 rfl in_X5 (by decide) rfl f_X5_32 dX5_fail_1 ?_
  refine fp_j0 (Q := fun g1 => WA Z 15 [some (.ref 34)] [] g1) h (fun g1 h => ?_) (fun J15 hJ15 h => ?_)
  · refine wa_aload_n C (i := 0) dX5_fail_15 rfl rfl ?_
    refine wa_iconst C (v := 0) dX5_fail_16 (by decide) ?_
    refine wa_putC C (j := 6) lq_34 sh_34 rfl in_X5 (by decide) tyX5 tyX5_ok nmX5 rfl rfl rfl f_X5_61 dX5_fail_17 h (fun g2 h => ?_)
    exact wa_vret C hv rfl dX5_fail_20 h
  refine wa_if_ge C (tgt := 15) dX5_fail_4 (by decide) h (fun h => ?_) (fun h => ?_)
  · exact WA.weak (hJ15 _ h) ⟨rfl, trivial⟩
  · refine wa_aload_n C (i := 0) dX5_fail_7 rfl rfl ?_
    refine wa_aload_n C (i := 0) dX5_fail_8 rfl rfl ?_
    refine wa_getI C (j := 4) lq_34 sh_34 rfl in_X5 (by decide) rfl f_X5_42 dX5_fail_9 ?_
    refine wa_putI C (j := 5) lq_34 sh_34 rfl in_X5 (by decide) tyX5 tyX5_ok nmX5 rfl rfl rfl f_X5_32 dX5_fail_12 h (fun g3 h => ?_)
    exact WA.weak (hJ15 _ h) ⟨rfl, trivial⟩

set_option maxRecDepth 20000 in
theorem ok_X5_take {l : Launch} {E : fp_E} {x1 : Int32} {g : fp_G} {K : Int32 → fp_G → Prop} (h : w_X5_take x1 g K) : fp_M l E yX5_take cX5_take 2 ((Option.some Jvm.ClassFile.FieldType.boolean)) false 2 [.ref 34, .int x1] g K := by
  unfold w_X5_take at h
  refine fp_enter rfl [some (.ref 34), some (.int x1)] (Nat.le_of_ble_eq_true rfl) (fun q hq => hq) (fun Z hE hl hv hK hn hd C => ?_)
  subst hE hl hK
  refine wa_aload_n C (i := 0) dX5_take_0 rfl rfl ?_
  refine wa_getI C (j := 6) lq_34 sh_34 rfl in_X5 (by decide) rfl f_X5_61 dX5_take_1 ?_
  refine wa_iload_n C (i := 1) dX5_take_4 rfl rfl ?_
  refine wa_icmp_eq C (tgt := 10) dX5_take_5 (by decide) h (fun h => ?_) (fun h => ?_)
  · refine wa_aload_n C (i := 0) dX5_take_10 rfl rfl ?_
    refine wa_aload_n C (i := 0) dX5_take_11 rfl rfl ?_
    refine wa_getI C (j := 4) lq_34 sh_34 rfl in_X5 (by decide) rfl f_X5_42 dX5_take_12 ?_
    refine wa_iconst C (v := 1) dX5_take_15 (by decide) ?_
    refine wa_iadd C dX5_take_16 ?_
    refine wa_callVv C lq_34 sh_34 rfl s_X5_35 i_X5_goTo e_X5_goTo dX5_take_17 (ok_X5_goTo h) rfl rfl (Nat.le_of_ble_eq_true rfl) (by rw [hd]; decide) (fun g1 h => ?_)
    refine wa_iconst C (v := 1) dX5_take_20 (by decide) ?_
    exact wa_zret C hv rfl rfl dX5_take_21 h
  · refine wa_iconst C (v := 0) dX5_take_8 (by decide) ?_
    exact wa_zret C hv rfl rfl dX5_take_9 h

set_option maxRecDepth 20000 in
theorem ok_X5_write {l : Launch} {E : fp_E} {x1 : Int32} {g : fp_G} {K : Int32 → fp_G → Prop} (h : w_X5_write x1 g K) : fp_M l E yX5_write cX5_write 2 ((Option.none : Option Jvm.ClassFile.FieldType)) true 1 [.ref 34, .int x1] g K := by
  unfold w_X5_write at h
  refine fp_enter rfl [some (.ref 34), some (.int x1)] (Nat.le_of_ble_eq_true rfl) (fun q hq => hq) (fun Z hE hl hv hK hn hd C => ?_)
  subst hE hl hK
  refine wa_aload_n C (i := 0) dX5_write_0 rfl rfl ?_
  refine wa_getI C (j := 2) lq_34 sh_34 rfl in_X5 (by decide) rfl f_X5_29 dX5_write_1 ?_
  refine wa_aload_n C (i := 0) dX5_write_4 rfl rfl ?_
  refine wa_getR C (j := 1) lq_34 sh_34 rfl in_X5 (by decide) rfl f_X5_15 dX5_write_5 ?_
  refine wa_alen C (t0 := 0) (v := 60) lq_36 sh_36 rfl (by decide) dX5_write_8 ?_
  refine wa_icmp_ge C (tgt := 32) dX5_write_9 (by decide) h (fun h => ?_) (fun h => ?_)
  · exact wa_vret C hv rfl dX5_write_32 h
  · refine wa_aload_n C (i := 0) dX5_write_12 rfl rfl ?_
    refine wa_getR C (j := 1) lq_34 sh_34 rfl in_X5 (by decide) rfl f_X5_15 dX5_write_13 ?_
    refine wa_aload_n C (i := 0) dX5_write_16 rfl rfl ?_
    refine wa_getI C (j := 2) lq_34 sh_34 rfl in_X5 (by decide) rfl f_X5_29 dX5_write_17 ?_
    refine wa_iload_n C (i := 1) dX5_write_20 rfl rfl ?_
    refine wa_iast C lq_36 sh_36 dX5_write_21 h (fun g1 h => ?_)
    refine wa_aload_n C (i := 0) dX5_write_22 rfl rfl ?_
    refine wa_dup C dX5_write_23 rfl ?_
    refine wa_getI C (j := 2) lq_34 sh_34 rfl in_X5 (by decide) rfl f_X5_29 dX5_write_24 ?_
    refine wa_iconst C (v := 1) dX5_write_27 (by decide) ?_
    refine wa_iadd C dX5_write_28 ?_
    refine wa_putI C (j := 2) lq_34 sh_34 rfl in_X5 (by decide) tyX5 tyX5_ok nmX5 rfl rfl rfl f_X5_29 dX5_write_29 h (fun g2 h => ?_)
    exact wa_vret C hv rfl dX5_write_32 h

set_option maxRecDepth 20000 in
theorem ok_X5_unit_56 {Z : fp_Z} (C : fp_C Z cX5_unit RX5 ((Option.some Jvm.ClassFile.FieldType.int))) (hv : fp_V Z false) (hn : Z.2.2.2.2.1 = 4) (hd : Z.2.2.2.2.2.1 = 7) : ∀ (n : Nat) (x2 : Int32) (x3 : Int32) (g : fp_G), w_X5_unit_56 n x2 x3 g Z.2.2.2.1 → WA Z 56 [some (.ref 34), none, some (.int x2), some (.int x3)] [] g := by
  intro n
  induction n with
  | zero => intro x2 x3 g h; exact h.elim
  | succ n ih =>
    intro x2 x3 g h
    rw [w_X5_unit_56] at h
    refine wa_iload_n C (i := 3) dX5_unit_56 rfl rfl ?_
    refine wa_iconst C (v := 4) dX5_unit_57 (by decide) ?_
    refine wa_icmp_ge C (tgt := 108) dX5_unit_58 (by decide) h (fun h => ?_) (fun h => ?_)
    · refine wa_iload_n C (i := 2) dX5_unit_108 rfl rfl ?_
      exact wa_iret C hv rfl dX5_unit_109 h
    · refine wa_aload_n C (i := 0) dX5_unit_61 rfl rfl ?_
      refine wa_getI C (j := 6) lq_34 sh_34 rfl in_X5 (by decide) rfl f_X5_61 dX5_unit_62 ?_
      refine wa_bipush C (v := 48) dX5_unit_65 (by decide) ?_
      refine wa_icmp_lt C (tgt := 108) dX5_unit_67 (by decide) h (fun h => ?_) (fun h => ?_)
      · refine wa_iload_n C (i := 2) dX5_unit_108 rfl rfl ?_
        exact wa_iret C hv rfl dX5_unit_109 h
      · refine wa_aload_n C (i := 0) dX5_unit_70 rfl rfl ?_
        refine wa_getI C (j := 6) lq_34 sh_34 rfl in_X5 (by decide) rfl f_X5_61 dX5_unit_71 ?_
        refine wa_bipush C (v := 57) dX5_unit_74 (by decide) ?_
        refine wa_icmp_gt C (tgt := 108) dX5_unit_76 (by decide) h (fun h => ?_) (fun h => ?_)
        · refine wa_iload_n C (i := 2) dX5_unit_108 rfl rfl ?_
          exact wa_iret C hv rfl dX5_unit_109 h
        · refine wa_iload_n C (i := 2) dX5_unit_79 rfl rfl ?_
          refine wa_bipush C (v := 10) dX5_unit_80 (by decide) ?_
          refine wa_imul C dX5_unit_82 ?_
          refine wa_aload_n C (i := 0) dX5_unit_83 rfl rfl ?_
          refine wa_getI C (j := 6) lq_34 sh_34 rfl in_X5 (by decide) rfl f_X5_61 dX5_unit_84 ?_
          refine wa_bipush C (v := 48) dX5_unit_87 (by decide) ?_
          refine wa_isub C dX5_unit_89 ?_
          refine wa_iadd C dX5_unit_90 ?_
          refine wa_istore_n C (i := 2) dX5_unit_91 rfl (by rw [hn]; decide) rfl rfl ?_
          refine wa_aload_n C (i := 0) dX5_unit_92 rfl rfl ?_
          refine wa_aload_n C (i := 0) dX5_unit_93 rfl rfl ?_
          refine wa_getI C (j := 4) lq_34 sh_34 rfl in_X5 (by decide) rfl f_X5_42 dX5_unit_94 ?_
          refine wa_iconst C (v := 1) dX5_unit_97 (by decide) ?_
          refine wa_iadd C dX5_unit_98 ?_
          refine wa_callVv C lq_34 sh_34 rfl s_X5_35 i_X5_goTo e_X5_goTo dX5_unit_99 (ok_X5_goTo h) rfl rfl (Nat.le_of_ble_eq_true rfl) (by rw [hd]; decide) (fun g2 h => ?_)
          refine wa_iinc C (i := 3) dX5_unit_102 rfl (fp_inc1 _) (by rw [hn]; decide) rfl rfl ?_
          refine wa_goto C (tgt := 56) dX5_unit_105 (by decide) ?_
          exact WA.weak (ih _ _ _ h) ⟨rfl, ⟨rfl, ⟨rfl, trivial⟩⟩⟩

set_option maxRecDepth 20000 in
theorem ok_X5_unit {l : Launch} {E : fp_E} {g : fp_G} {K : Int32 → fp_G → Prop} (h : w_X5_unit  g K) : fp_M l E yX5_unit cX5_unit 4 ((Option.some Jvm.ClassFile.FieldType.int)) false 7 [.ref 34] g K := by
  unfold w_X5_unit at h
  refine fp_enter rfl [some (.ref 34), none, none, none] (Nat.le_of_ble_eq_true rfl) (fun q hq => hq) (fun Z hE hl hv hK hn hd C => ?_)
  subst hE hl hK
  refine wa_ldcS0 C rfl dX5_unit_0 ?_
  refine wa_aload_n C (i := 0) dX5_unit_2 rfl rfl ?_
  refine wa_getI C (j := 6) lq_34 sh_34 rfl in_X5 (by decide) rfl f_X5_61 dX5_unit_3 ?_
  refine wa_ix C hv (q := 0) (by decide) s_X5_74 i_J0_indexOf_0f7a4 e_J0_indexOf_0f7a4 dX5_unit_6 (by rw [hd]; omega) (Nat.le_of_ble_eq_true rfl) h (fun v1 h => ?_)
  refine wa_istore_n C (i := 1) dX5_unit_9 rfl (by rw [hn]; decide) rfl rfl ?_
  refine wa_iload_n C (i := 1) dX5_unit_10 rfl rfl ?_
  refine wa_if_lt C (tgt := 30) dX5_unit_11 (by decide) h (fun h => ?_) (fun h => ?_)
  · refine wa_aload_n C (i := 0) dX5_unit_30 rfl rfl ?_
    refine wa_getI C (j := 6) lq_34 sh_34 rfl in_X5 (by decide) rfl f_X5_61 dX5_unit_31 ?_
    refine wa_bipush C (v := 48) dX5_unit_34 (by decide) ?_
    refine fp_j0 (Q := fun g1 => WA Z 52 [some (.ref 34), none, none, none] [] g1) h (fun g1 h => ?_) (fun J52 hJ52 h => ?_)
    · refine wa_iconst C (v := 0) dX5_unit_52 (by decide) ?_
      refine wa_istore_n C (i := 2) dX5_unit_53 rfl (by rw [hn]; decide) rfl rfl ?_
      refine wa_iconst C (v := 0) dX5_unit_54 (by decide) ?_
      refine wa_istore_n C (i := 3) dX5_unit_55 rfl (by rw [hn]; decide) rfl rfl ?_
      obtain ⟨n56, h⟩ := h
      exact WA.weak (ok_X5_unit_56 C hv hn hd n56 _ _ _ h) ⟨rfl, ⟨rfl, ⟨rfl, trivial⟩⟩⟩
    refine fp_k0 (Q := WA Z 48 [some (.ref 34), none, none, none] [] g) h (fun  h => ?_) (fun J48 hJ48 h => ?_)
    · refine wa_aload_n C (i := 0) dX5_unit_48 rfl rfl ?_
      refine wa_callVv C lq_34 sh_34 rfl s_X5_45 i_X5_fail e_X5_fail dX5_unit_49 (ok_X5_fail h) rfl rfl (Nat.le_of_ble_eq_true rfl) (by rw [hd]; decide) (fun g3 h => ?_)
      exact WA.weak (hJ52 _ h) ⟨rfl, trivial⟩
    refine wa_icmp_lt C (tgt := 48) dX5_unit_36 (by decide) h (fun h => ?_) (fun h => ?_)
    · exact WA.weak (hJ48  h) ⟨rfl, trivial⟩
    · refine wa_aload_n C (i := 0) dX5_unit_39 rfl rfl ?_
      refine wa_getI C (j := 6) lq_34 sh_34 rfl in_X5 (by decide) rfl f_X5_61 dX5_unit_40 ?_
      refine wa_bipush C (v := 57) dX5_unit_43 (by decide) ?_
      refine wa_icmp_le C (tgt := 52) dX5_unit_45 (by decide) h (fun h => ?_) (fun h => ?_)
      · exact WA.weak (hJ52 _ h) ⟨rfl, trivial⟩
      · exact WA.weak (hJ48  h) ⟨rfl, trivial⟩
  · refine wa_aload_n C (i := 0) dX5_unit_14 rfl rfl ?_
    refine wa_aload_n C (i := 0) dX5_unit_15 rfl rfl ?_
    refine wa_getI C (j := 4) lq_34 sh_34 rfl in_X5 (by decide) rfl f_X5_42 dX5_unit_16 ?_
    refine wa_iconst C (v := 1) dX5_unit_19 (by decide) ?_
    refine wa_iadd C dX5_unit_20 ?_
    refine wa_callVv C lq_34 sh_34 rfl s_X5_35 i_X5_goTo e_X5_goTo dX5_unit_21 (ok_X5_goTo h) rfl rfl (Nat.le_of_ble_eq_true rfl) (by rw [hd]; decide) (fun g4 h => ?_)
    refine wa_sipush C (v := 10000) dX5_unit_24 (by decide) ?_
    refine wa_iload_n C (i := 1) dX5_unit_27 rfl rfl ?_
    refine wa_iadd C dX5_unit_28 ?_
    exact wa_iret C hv rfl dX5_unit_29 h

set_option maxRecDepth 20000 in
theorem ok_X5_sign {l : Launch} {E : fp_E} {g : fp_G} {K : Int32 → fp_G → Prop} (h : w_X5_sign  g K) : fp_M l E yX5_sign cX5_sign 2 ((Option.some Jvm.ClassFile.FieldType.int)) false 7 [.ref 34] g K := by
  unfold w_X5_sign at h
  refine fp_enter rfl [some (.ref 34), none] (Nat.le_of_ble_eq_true rfl) (fun q hq => hq) (fun Z hE hl hv hK hn hd C => ?_)
  subst hE hl hK
  refine wa_ldcS1 C rfl dX5_sign_0 ?_
  refine wa_aload_n C (i := 0) dX5_sign_2 rfl rfl ?_
  refine wa_getI C (j := 6) lq_34 sh_34 rfl in_X5 (by decide) rfl f_X5_61 dX5_sign_3 ?_
  refine wa_ix C hv (q := 1) (by decide) s_X5_74 i_J0_indexOf_0f7a4 e_J0_indexOf_0f7a4 dX5_sign_6 (by rw [hd]; omega) (Nat.le_of_ble_eq_true rfl) h (fun v1 h => ?_)
  refine wa_istore_n C (i := 1) dX5_sign_9 rfl (by rw [hn]; decide) rfl rfl ?_
  refine wa_iload_n C (i := 1) dX5_sign_10 rfl rfl ?_
  refine wa_if_ge C (tgt := 20) dX5_sign_11 (by decide) h (fun h => ?_) (fun h => ?_)
  · refine wa_aload_n C (i := 0) dX5_sign_20 rfl rfl ?_
    refine wa_aload_n C (i := 0) dX5_sign_21 rfl rfl ?_
    refine wa_getI C (j := 4) lq_34 sh_34 rfl in_X5 (by decide) rfl f_X5_42 dX5_sign_22 ?_
    refine wa_iconst C (v := 1) dX5_sign_25 (by decide) ?_
    refine wa_iadd C dX5_sign_26 ?_
    refine wa_callVv C lq_34 sh_34 rfl s_X5_35 i_X5_goTo e_X5_goTo dX5_sign_27 (ok_X5_goTo h) rfl rfl (Nat.le_of_ble_eq_true rfl) (by rw [hd]; decide) (fun g1 h => ?_)
    refine wa_iload_n C (i := 1) dX5_sign_30 rfl rfl ?_
    exact wa_iret C hv rfl dX5_sign_31 h
  · refine wa_aload_n C (i := 0) dX5_sign_14 rfl rfl ?_
    refine wa_callVv C lq_34 sh_34 rfl s_X5_45 i_X5_fail e_X5_fail dX5_sign_15 (ok_X5_fail h) rfl rfl (Nat.le_of_ble_eq_true rfl) (by rw [hd]; decide) (fun g2 h => ?_)
    refine wa_iconst C (v := 0) dX5_sign_18 (by decide) ?_
    exact wa_iret C hv rfl dX5_sign_19 h

set_option maxRecDepth 20000 in
theorem ok_X5_test_s {l : Launch} {E : fp_E} {dd : Nat} (hdd : 7 ≤ dd) {r_X5_test : Int32 → fp_G → (Int32 → fp_G → Prop) → Prop} (hX5_test : ∀ x g K, r_X5_test x g K → fp_M l E yX5_test cX5_test 5 ((Option.none : Option Jvm.ClassFile.FieldType)) true (dd - 2) [.ref 34, .int x] g K) {r_X5_ors : Int32 → fp_G → (Int32 → fp_G → Prop) → Prop} (hX5_ors : ∀ x g K, r_X5_ors x g K → fp_M l E yX5_ors cX5_ors 3 ((Option.none : Option Jvm.ClassFile.FieldType)) true dd [.ref 34, .int x] g K) {x1 : Int32} {g : fp_G} {K : Int32 → fp_G → Prop} (h : w_X5_test_s r_X5_test r_X5_ors x1 g K) : fp_M l E yX5_test cX5_test 5 ((Option.none : Option Jvm.ClassFile.FieldType)) true (dd + 1) [.ref 34, .int x1] g K := by
  unfold w_X5_test_s at h
  refine fp_enter rfl [some (.ref 34), some (.int x1), none, none, none] (Nat.le_of_ble_eq_true rfl) (fun q hq => hq) (fun Z hE hl hv hK hn hd C => ?_)
  subst hE hl hK
  refine wa_aload_n C (i := 0) dX5_test_0 rfl rfl ?_
  refine wa_getI C (j := 6) lq_34 sh_34 rfl in_X5 (by decide) rfl f_X5_61 dX5_test_1 ?_
  refine wa_bipush C (v := 33) dX5_test_4 (by decide) ?_
  refine fp_k1 (Q := fun z0j23 => WA Z 23 [some (.ref 34), some (.int x1), none, none, none] [.int z0j23] g) h (fun z0j23 h => ?_) (fun J23 hJ23 h => ?_)
  · refine wa_istore_n C (i := 2) dX5_test_23 rfl (by rw [hn]; decide) rfl rfl ?_
    refine wa_iload_n C (i := 2) dX5_test_24 rfl rfl ?_
    refine fp_k0 (Q := WA Z 40 [some (.ref 34), some (.int x1), none, none, none] [] g) h (fun  h => ?_) (fun J40 hJ40 h => ?_)
    · refine wa_aload_n C (i := 0) dX5_test_40 rfl rfl ?_
      refine wa_bipush C (v := 33) dX5_test_41 (by decide) ?_
      refine wa_callVi C lq_34 sh_34 rfl s_X5_51 i_X5_take e_X5_take dX5_test_43 (ok_X5_take h) rfl rfl (Nat.le_of_ble_eq_true rfl) (by rw [hd]; omega) (fun v1 g1 h => ?_)
      refine wa_if_eq C (tgt := 64) dX5_test_46 (by decide) h (fun h => ?_) (fun h => ?_)
      · refine wa_aload_n C (i := 0) dX5_test_64 rfl rfl ?_
        refine wa_bipush C (v := 40) dX5_test_65 (by decide) ?_
        refine wa_callVi C lq_34 sh_34 rfl s_X5_51 i_X5_take e_X5_take dX5_test_67 (ok_X5_take h) rfl rfl (Nat.le_of_ble_eq_true rfl) (by rw [hd]; omega) (fun v2 g2 h => ?_)
        refine wa_if_eq C (tgt := 96) dX5_test_70 (by decide) h (fun h => ?_) (fun h => ?_)
        · refine wa_aload_n C (i := 0) dX5_test_96 rfl rfl ?_
          refine wa_callVi C lq_34 sh_34 rfl s_X5_65 i_X5_unit e_X5_unit dX5_test_97 (ok_X5_unit h) rfl rfl (Nat.le_of_ble_eq_true rfl) (by rw [hd]; omega) (fun v3 g3 h => ?_)
          refine wa_istore_n C (i := 3) dX5_test_100 rfl (by rw [hn]; decide) rfl rfl ?_
          refine wa_aload_n C (i := 0) dX5_test_101 rfl rfl ?_
          refine wa_callVi C lq_34 sh_34 rfl s_X5_69 i_X5_sign e_X5_sign dX5_test_102 (ok_X5_sign h) rfl rfl (Nat.le_of_ble_eq_true rfl) (by rw [hd]; omega) (fun v4 g4 h => ?_)
          refine wa_istore C (i := 4) dX5_test_105 (by rw [hn]; decide) rfl rfl ?_
          refine wa_aload_n C (i := 0) dX5_test_107 rfl rfl ?_
          refine wa_iload_n C (i := 3) dX5_test_108 rfl rfl ?_
          refine wa_iconst C (v := 2) dX5_test_109 (by decide) ?_
          refine wa_ishl C dX5_test_110 ?_
          refine wa_iload C dX5_test_111 rfl ?_
          refine wa_ior C dX5_test_113 ?_
          refine wa_bipush C (v := 14) dX5_test_114 (by decide) ?_
          refine wa_ishl C dX5_test_116 ?_
          refine wa_aload_n C (i := 0) dX5_test_117 rfl rfl ?_
          refine wa_callVi C lq_34 sh_34 rfl s_X5_65 i_X5_unit e_X5_unit dX5_test_118 (ok_X5_unit h) rfl rfl (Nat.le_of_ble_eq_true rfl) (by rw [hd]; omega) (fun v5 g5 h => ?_)
          refine wa_ior C dX5_test_121 ?_
          refine wa_callVv C lq_34 sh_34 rfl s_X5_55 i_X5_write e_X5_write dX5_test_122 (ok_X5_write h) rfl rfl (Nat.le_of_ble_eq_true rfl) (by rw [hd]; omega) (fun g6 h => ?_)
          exact wa_vret C hv rfl dX5_test_125 h
        · refine wa_aload_n C (i := 0) dX5_test_73 rfl rfl ?_
          refine wa_iload_n C (i := 1) dX5_test_74 rfl rfl ?_
          refine wa_iconst C (v := 1) dX5_test_75 (by decide) ?_
          refine wa_iadd C dX5_test_76 ?_
          refine wa_callVv C lq_34 sh_34 rfl s_X5_39 i_X5_ors e_X5_ors dX5_test_77 (hX5_ors _ _ _ h) rfl rfl (Nat.le_of_ble_eq_true rfl) (by rw [hd]; omega) (fun g7 h => ?_)
          refine wa_aload_n C (i := 0) dX5_test_80 rfl rfl ?_
          refine wa_bipush C (v := 41) dX5_test_81 (by decide) ?_
          refine wa_callVi C lq_34 sh_34 rfl s_X5_51 i_X5_take e_X5_take dX5_test_83 (ok_X5_take h) rfl rfl (Nat.le_of_ble_eq_true rfl) (by rw [hd]; omega) (fun v8 g8 h => ?_)
          refine wa_if_ne C (tgt := 125) dX5_test_86 (by decide) h (fun h => ?_) (fun h => ?_)
          · refine wa_aload_n C (i := 0) dX5_test_89 rfl rfl ?_
            refine wa_callVv C lq_34 sh_34 rfl s_X5_45 i_X5_fail e_X5_fail dX5_test_90 (ok_X5_fail h) rfl rfl (Nat.le_of_ble_eq_true rfl) (by rw [hd]; omega) (fun g9 h => ?_)
            refine wa_goto C (tgt := 125) dX5_test_93 (by decide) ?_
            exact wa_vret C hv rfl dX5_test_125 h
          · exact wa_vret C hv rfl dX5_test_125 h
      · refine wa_aload_n C (i := 0) dX5_test_49 rfl rfl ?_
        refine wa_iload_n C (i := 1) dX5_test_50 rfl rfl ?_
        refine wa_iconst C (v := 1) dX5_test_51 (by decide) ?_
        refine wa_iadd C dX5_test_52 ?_
        refine wa_callVv C lq_34 sh_34 rfl s_X5_58 i_X5_test e_X5_test dX5_test_53 (hX5_test _ _ _ h) rfl rfl (Nat.le_of_ble_eq_true rfl) (by rw [hd]; omega) (fun g10 h => ?_)
        refine wa_aload_n C (i := 0) dX5_test_56 rfl rfl ?_
        refine wa_iconst C (v := (-1)) dX5_test_57 (by decide) ?_
        refine wa_callVv C lq_34 sh_34 rfl s_X5_55 i_X5_write e_X5_write dX5_test_58 (ok_X5_write h) rfl rfl (Nat.le_of_ble_eq_true rfl) (by rw [hd]; omega) (fun g11 h => ?_)
        refine wa_goto C (tgt := 125) dX5_test_61 (by decide) ?_
        exact wa_vret C hv rfl dX5_test_125 h
    refine wa_if_eq C (tgt := 40) dX5_test_25 (by decide) h (fun h => ?_) (fun h => ?_)
    · exact WA.weak (hJ40  h) ⟨rfl, ⟨rfl, trivial⟩⟩
    · refine wa_iload_n C (i := 1) dX5_test_28 rfl rfl ?_
      refine wa_iconst C (v := 5) dX5_test_29 (by decide) ?_
      refine wa_icmp_lt C (tgt := 40) dX5_test_30 (by decide) h (fun h => ?_) (fun h => ?_)
      · exact WA.weak (hJ40  h) ⟨rfl, ⟨rfl, trivial⟩⟩
      · refine wa_aload_n C (i := 0) dX5_test_33 rfl rfl ?_
        refine wa_callVv C lq_34 sh_34 rfl s_X5_45 i_X5_fail e_X5_fail dX5_test_34 (ok_X5_fail h) rfl rfl (Nat.le_of_ble_eq_true rfl) (by rw [hd]; omega) (fun g12 h => ?_)
        refine wa_goto C (tgt := 125) dX5_test_37 (by decide) ?_
        exact wa_vret C hv rfl dX5_test_125 h
  refine fp_k0 (Q := WA Z 18 [some (.ref 34), some (.int x1), none, none, none] [] g) h (fun  h => ?_) (fun J18 hJ18 h => ?_)
  · refine wa_iconst C (v := 1) dX5_test_18 (by decide) ?_
    refine wa_goto C (tgt := 23) dX5_test_19 (by decide) ?_
    exact WA.weak (hJ23 _ h) ⟨rfl, ⟨rfl, trivial⟩⟩
  refine wa_icmp_eq C (tgt := 18) dX5_test_6 (by decide) h (fun h => ?_) (fun h => ?_)
  · exact WA.weak (hJ18  h) ⟨rfl, ⟨rfl, trivial⟩⟩
  · refine wa_aload_n C (i := 0) dX5_test_9 rfl rfl ?_
    refine wa_getI C (j := 6) lq_34 sh_34 rfl in_X5 (by decide) rfl f_X5_61 dX5_test_10 ?_
    refine wa_bipush C (v := 40) dX5_test_13 (by decide) ?_
    refine wa_icmp_ne C (tgt := 22) dX5_test_15 (by decide) h (fun h => ?_) (fun h => ?_)
    · exact WA.weak (hJ18  h) ⟨rfl, ⟨rfl, trivial⟩⟩
    · refine wa_iconst C (v := 0) dX5_test_22 (by decide) ?_
      exact WA.weak (hJ23 _ h) ⟨rfl, ⟨rfl, trivial⟩⟩

set_option maxRecDepth 20000 in
theorem ok_X5_ands_7 {Z : fp_Z} (C : fp_C Z cX5_ands RX5 ((Option.none : Option Jvm.ClassFile.FieldType))) (hv : fp_V Z true) (hn : Z.2.2.2.2.1 = 3) {dd : Nat} (hdd : 7 ≤ dd) (hd : Z.2.2.2.2.2.1 = dd + 1) {r_X5_test : Int32 → fp_G → (Int32 → fp_G → Prop) → Prop} (hX5_test : ∀ x g K, r_X5_test x g K → fp_M Z.1.2.1 Z.2.1 yX5_test cX5_test 5 ((Option.none : Option Jvm.ClassFile.FieldType)) true dd [.ref 34, .int x] g K) {x1 : Int32} : ∀ (n : Nat) (x2 : Int32) (g : fp_G), w_X5_ands_7 n r_X5_test x1 x2 g Z.2.2.2.1 → WA Z 7 [some (.ref 34), some (.int x1), some (.int x2)] [] g := by
  intro n
  induction n with
  | zero => intro x2 g h; exact h.elim
  | succ n ih =>
    intro x2 g h
    rw [w_X5_ands_7] at h
    refine wa_iload_n C (i := 2) dX5_ands_7 rfl rfl ?_
    refine wa_bipush C (v := 60) dX5_ands_8 (by decide) ?_
    refine wa_icmp_ge C (tgt := 39) dX5_ands_10 (by decide) h (fun h => ?_) (fun h => ?_)
    · exact wa_vret C hv rfl dX5_ands_39 h
    · refine wa_aload_n C (i := 0) dX5_ands_13 rfl rfl ?_
      refine wa_bipush C (v := 38) dX5_ands_14 (by decide) ?_
      refine wa_callVi C lq_34 sh_34 rfl s_X5_51 i_X5_take e_X5_take dX5_ands_16 (ok_X5_take h) rfl rfl (Nat.le_of_ble_eq_true rfl) (by rw [hd]; omega) (fun v2 g2 h => ?_)
      refine wa_if_eq C (tgt := 39) dX5_ands_19 (by decide) h (fun h => ?_) (fun h => ?_)
      · exact wa_vret C hv rfl dX5_ands_39 h
      · refine wa_aload_n C (i := 0) dX5_ands_22 rfl rfl ?_
        refine wa_iload_n C (i := 1) dX5_ands_23 rfl rfl ?_
        refine wa_callVv C lq_34 sh_34 rfl s_X5_58 i_X5_test e_X5_test dX5_ands_24 (hX5_test _ _ _ h) rfl rfl (Nat.le_of_ble_eq_true rfl) (by rw [hd]; omega) (fun g3 h => ?_)
        refine wa_aload_n C (i := 0) dX5_ands_27 rfl rfl ?_
        refine wa_bipush C (v := (-2)) dX5_ands_28 (by decide) ?_
        refine wa_callVv C lq_34 sh_34 rfl s_X5_55 i_X5_write e_X5_write dX5_ands_30 (ok_X5_write h) rfl rfl (Nat.le_of_ble_eq_true rfl) (by rw [hd]; omega) (fun g4 h => ?_)
        refine wa_iinc C (i := 2) dX5_ands_33 rfl (fp_inc1 _) (by rw [hn]; decide) rfl rfl ?_
        refine wa_goto C (tgt := 7) dX5_ands_36 (by decide) ?_
        exact WA.weak (ih _ _ h) ⟨rfl, ⟨rfl, ⟨rfl, trivial⟩⟩⟩

set_option maxRecDepth 20000 in
theorem ok_X5_ands_s {l : Launch} {E : fp_E} {dd : Nat} (hdd : 7 ≤ dd) {r_X5_test : Int32 → fp_G → (Int32 → fp_G → Prop) → Prop} (hX5_test : ∀ x g K, r_X5_test x g K → fp_M l E yX5_test cX5_test 5 ((Option.none : Option Jvm.ClassFile.FieldType)) true dd [.ref 34, .int x] g K) {x1 : Int32} {g : fp_G} {K : Int32 → fp_G → Prop} (h : w_X5_ands_s r_X5_test x1 g K) : fp_M l E yX5_ands cX5_ands 3 ((Option.none : Option Jvm.ClassFile.FieldType)) true (dd + 1) [.ref 34, .int x1] g K := by
  unfold w_X5_ands_s at h
  refine fp_enter rfl [some (.ref 34), some (.int x1), none] (Nat.le_of_ble_eq_true rfl) (fun q hq => hq) (fun Z hE hl hv hK hn hd C => ?_)
  subst hE hl hK
  refine wa_aload_n C (i := 0) dX5_ands_0 rfl rfl ?_
  refine wa_iload_n C (i := 1) dX5_ands_1 rfl rfl ?_
  refine wa_callVv C lq_34 sh_34 rfl s_X5_58 i_X5_test e_X5_test dX5_ands_2 (hX5_test _ _ _ h) rfl rfl (Nat.le_of_ble_eq_true rfl) (by rw [hd]; omega) (fun g1 h => ?_)
  refine wa_iconst C (v := 0) dX5_ands_5 (by decide) ?_
  refine wa_istore_n C (i := 2) dX5_ands_6 rfl (by rw [hn]; decide) rfl rfl ?_
  obtain ⟨n7, h⟩ := h
  exact WA.weak (ok_X5_ands_7 C hv hn hdd hd hX5_test n7 _ _ h) ⟨rfl, ⟨rfl, ⟨rfl, trivial⟩⟩⟩

set_option maxRecDepth 20000 in
theorem ok_X5_ors_7 {Z : fp_Z} (C : fp_C Z cX5_ors RX5 ((Option.none : Option Jvm.ClassFile.FieldType))) (hv : fp_V Z true) (hn : Z.2.2.2.2.1 = 3) {dd : Nat} (hdd : 7 ≤ dd) (hd : Z.2.2.2.2.2.1 = dd + 1) {r_X5_ands : Int32 → fp_G → (Int32 → fp_G → Prop) → Prop} (hX5_ands : ∀ x g K, r_X5_ands x g K → fp_M Z.1.2.1 Z.2.1 yX5_ands cX5_ands 3 ((Option.none : Option Jvm.ClassFile.FieldType)) true dd [.ref 34, .int x] g K) {x1 : Int32} : ∀ (n : Nat) (x2 : Int32) (g : fp_G), w_X5_ors_7 n r_X5_ands x1 x2 g Z.2.2.2.1 → WA Z 7 [some (.ref 34), some (.int x1), some (.int x2)] [] g := by
  intro n
  induction n with
  | zero => intro x2 g h; exact h.elim
  | succ n ih =>
    intro x2 g h
    rw [w_X5_ors_7] at h
    refine wa_iload_n C (i := 2) dX5_ors_7 rfl rfl ?_
    refine wa_bipush C (v := 60) dX5_ors_8 (by decide) ?_
    refine wa_icmp_ge C (tgt := 39) dX5_ors_10 (by decide) h (fun h => ?_) (fun h => ?_)
    · exact wa_vret C hv rfl dX5_ors_39 h
    · refine wa_aload_n C (i := 0) dX5_ors_13 rfl rfl ?_
      refine wa_bipush C (v := 124) dX5_ors_14 (by decide) ?_
      refine wa_callVi C lq_34 sh_34 rfl s_X5_51 i_X5_take e_X5_take dX5_ors_16 (ok_X5_take h) rfl rfl (Nat.le_of_ble_eq_true rfl) (by rw [hd]; omega) (fun v2 g2 h => ?_)
      refine wa_if_eq C (tgt := 39) dX5_ors_19 (by decide) h (fun h => ?_) (fun h => ?_)
      · exact wa_vret C hv rfl dX5_ors_39 h
      · refine wa_aload_n C (i := 0) dX5_ors_22 rfl rfl ?_
        refine wa_iload_n C (i := 1) dX5_ors_23 rfl rfl ?_
        refine wa_callVv C lq_34 sh_34 rfl s_X5_48 i_X5_ands e_X5_ands dX5_ors_24 (hX5_ands _ _ _ h) rfl rfl (Nat.le_of_ble_eq_true rfl) (by rw [hd]; omega) (fun g3 h => ?_)
        refine wa_aload_n C (i := 0) dX5_ors_27 rfl rfl ?_
        refine wa_bipush C (v := (-3)) dX5_ors_28 (by decide) ?_
        refine wa_callVv C lq_34 sh_34 rfl s_X5_55 i_X5_write e_X5_write dX5_ors_30 (ok_X5_write h) rfl rfl (Nat.le_of_ble_eq_true rfl) (by rw [hd]; omega) (fun g4 h => ?_)
        refine wa_iinc C (i := 2) dX5_ors_33 rfl (fp_inc1 _) (by rw [hn]; decide) rfl rfl ?_
        refine wa_goto C (tgt := 7) dX5_ors_36 (by decide) ?_
        exact WA.weak (ih _ _ h) ⟨rfl, ⟨rfl, ⟨rfl, trivial⟩⟩⟩

set_option maxRecDepth 20000 in
theorem ok_X5_ors_s {l : Launch} {E : fp_E} {dd : Nat} (hdd : 7 ≤ dd) {r_X5_ands : Int32 → fp_G → (Int32 → fp_G → Prop) → Prop} (hX5_ands : ∀ x g K, r_X5_ands x g K → fp_M l E yX5_ands cX5_ands 3 ((Option.none : Option Jvm.ClassFile.FieldType)) true dd [.ref 34, .int x] g K) {x1 : Int32} {g : fp_G} {K : Int32 → fp_G → Prop} (h : w_X5_ors_s r_X5_ands x1 g K) : fp_M l E yX5_ors cX5_ors 3 ((Option.none : Option Jvm.ClassFile.FieldType)) true (dd + 1) [.ref 34, .int x1] g K := by
  unfold w_X5_ors_s at h
  refine fp_enter rfl [some (.ref 34), some (.int x1), none] (Nat.le_of_ble_eq_true rfl) (fun q hq => hq) (fun Z hE hl hv hK hn hd C => ?_)
  subst hE hl hK
  refine wa_aload_n C (i := 0) dX5_ors_0 rfl rfl ?_
  refine wa_iload_n C (i := 1) dX5_ors_1 rfl rfl ?_
  refine wa_callVv C lq_34 sh_34 rfl s_X5_48 i_X5_ands e_X5_ands dX5_ors_2 (hX5_ands _ _ _ h) rfl rfl (Nat.le_of_ble_eq_true rfl) (by rw [hd]; omega) (fun g1 h => ?_)
  refine wa_iconst C (v := 0) dX5_ors_5 (by decide) ?_
  refine wa_istore_n C (i := 2) dX5_ors_6 rfl (by rw [hn]; decide) rfl rfl ?_
  obtain ⟨n7, h⟩ := h
  exact WA.weak (ok_X5_ors_7 C hv hn hdd hd hX5_ands n7 _ _ h) ⟨rfl, ⟨rfl, ⟨rfl, trivial⟩⟩⟩

theorem ok_X5_testD {l : Launch} {E : fp_E} : ∀ (d : Nat) (x : Int32) (g : fp_G) (K : Int32 → fp_G → Prop), w_X5_test d x g K → fp_M l E yX5_test cX5_test 5 ((Option.none : Option Jvm.ClassFile.FieldType)) true (7 + 3 * d) [.ref 34, .int x] g K := by
  intro d
  induction d with
  | zero => intro x g K h; exact h.elim
  | succ d ih =>
    intro x g K h
    have ha : ∀ x g K, w_X5_ands_s (w_X5_test d) x g K → fp_M l E yX5_ands cX5_ands 3 ((Option.none : Option Jvm.ClassFile.FieldType)) true (8 + 3 * d) [.ref 34, .int x] g K := fun x g K h => by
      have := ok_X5_ands_s (l := l) (E := E) (dd := 7 + 3 * d) (by omega) ih h
      rw [show 7 + 3 * d + 1 = 8 + 3 * d by omega] at this
      exact this
    have ho : ∀ x g K, w_X5_ors_s (w_X5_ands_s (w_X5_test d)) x g K → fp_M l E yX5_ors cX5_ors 3 ((Option.none : Option Jvm.ClassFile.FieldType)) true (9 + 3 * d) [.ref 34, .int x] g K := fun x g K h => by
      have := ok_X5_ors_s (l := l) (E := E) (dd := 8 + 3 * d) (by omega) ha h
      rw [show 8 + 3 * d + 1 = 9 + 3 * d by omega] at this
      exact this
    have := ok_X5_test_s (l := l) (E := E) (dd := 9 + 3 * d) (by omega) (fun x g K h => by rw [show 9 + 3 * d - 2 = 7 + 3 * d by omega]; exact ih x g K h) ho h
    rw [show 9 + 3 * d + 1 = 7 + 3 * (d + 1) by omega] at this
    exact this
theorem ok_X5_ors {l : Launch} {E : fp_E} {x : Int32} {g : fp_G} {K : Int32 → fp_G → Prop} (h : w_X5_ors x g K) : fp_M l E yX5_ors cX5_ors 3 ((Option.none : Option Jvm.ClassFile.FieldType)) true 30 [.ref 34, .int x] g K :=
  ok_X5_ors_s (dd := 29) (by omega) (fun x g K h => ok_X5_ands_s (dd := 28) (by omega) (ok_X5_testD 7) h) h

set_option maxRecDepth 20000 in
theorem ok_X5_readText {l : Launch} {E : fp_E} {x1 : Int32} {g : fp_G} {K : Int32 → fp_G → Prop} (h : w_X5_readText x1 g K) : fp_M l E yX5_readText cX5_readText 2 ((Option.some Jvm.ClassFile.FieldType.int)) false 31 [.ref 34, .int x1] g K := by
  unfold w_X5_readText at h
  refine fp_enter rfl [some (.ref 34), some (.int x1)] (Nat.le_of_ble_eq_true rfl) (fun q hq => hq) (fun Z hE hl hv hK hn hd C => ?_)
  subst hE hl hK
  refine wa_aload_n C (i := 0) dX5_readText_0 rfl rfl ?_
  refine wa_iload_n C (i := 1) dX5_readText_1 rfl rfl ?_
  refine wa_aload_n C (i := 0) dX5_readText_2 rfl rfl ?_
  refine wa_getR C (j := 0) lq_34 sh_34 rfl in_X5 (by decide) rfl f_X5_11 dX5_readText_3 ?_
  refine wa_alen C (t0 := 2) (v := 60) lq_35 sh_35 rfl (by decide) dX5_readText_6 ?_
  refine wa_mmin C q_X5_19 (by rw [hd]; omega) (Nat.le_of_ble_eq_true rfl) dX5_readText_7 ?_
  refine wa_putI C (j := 3) lq_34 sh_34 rfl in_X5 (by decide) tyX5 tyX5_ok nmX5 rfl rfl rfl f_X5_25 dX5_readText_10 h (fun g1 h => ?_)
  refine wa_aload_n C (i := 0) dX5_readText_13 rfl rfl ?_
  refine wa_iconst C (v := 0) dX5_readText_14 (by decide) ?_
  refine wa_putI C (j := 2) lq_34 sh_34 rfl in_X5 (by decide) tyX5 tyX5_ok nmX5 rfl rfl rfl f_X5_29 dX5_readText_15 h (fun g2 h => ?_)
  refine wa_aload_n C (i := 0) dX5_readText_18 rfl rfl ?_
  refine wa_iconst C (v := (-1)) dX5_readText_19 (by decide) ?_
  refine wa_putI C (j := 5) lq_34 sh_34 rfl in_X5 (by decide) tyX5 tyX5_ok nmX5 rfl rfl rfl f_X5_32 dX5_readText_20 h (fun g3 h => ?_)
  refine wa_aload_n C (i := 0) dX5_readText_23 rfl rfl ?_
  refine wa_iconst C (v := 0) dX5_readText_24 (by decide) ?_
  refine wa_callVv C lq_34 sh_34 rfl s_X5_35 i_X5_goTo e_X5_goTo dX5_readText_25 (ok_X5_goTo h) rfl rfl (Nat.le_of_ble_eq_true rfl) (by rw [hd]; decide) (fun g4 h => ?_)
  refine wa_aload_n C (i := 0) dX5_readText_28 rfl rfl ?_
  refine wa_iconst C (v := 0) dX5_readText_29 (by decide) ?_
  refine wa_callVv C lq_34 sh_34 rfl s_X5_39 i_X5_ors e_X5_ors dX5_readText_30 (ok_X5_ors h) rfl rfl (Nat.le_of_ble_eq_true rfl) (by rw [hd]; decide) (fun g5 h => ?_)
  refine wa_aload_n C (i := 0) dX5_readText_33 rfl rfl ?_
  refine wa_getI C (j := 4) lq_34 sh_34 rfl in_X5 (by decide) rfl f_X5_42 dX5_readText_34 ?_
  refine wa_aload_n C (i := 0) dX5_readText_37 rfl rfl ?_
  refine wa_getI C (j := 3) lq_34 sh_34 rfl in_X5 (by decide) rfl f_X5_25 dX5_readText_38 ?_
  refine fp_j0 (Q := fun g6 => WA Z 48 [some (.ref 34), none] [] g6) h (fun g6 h => ?_) (fun J48 hJ48 h => ?_)
  · refine wa_aload_n C (i := 0) dX5_readText_48 rfl rfl ?_
    refine wa_getI C (j := 5) lq_34 sh_34 rfl in_X5 (by decide) rfl f_X5_32 dX5_readText_49 ?_
    exact wa_iret C hv rfl dX5_readText_52 h
  refine wa_icmp_ge C (tgt := 48) dX5_readText_41 (by decide) h (fun h => ?_) (fun h => ?_)
  · exact WA.weak (hJ48 _ h) ⟨rfl, trivial⟩
  · refine wa_aload_n C (i := 0) dX5_readText_44 rfl rfl ?_
    refine wa_callVv C lq_34 sh_34 rfl s_X5_45 i_X5_fail e_X5_fail dX5_readText_45 (ok_X5_fail h) rfl rfl (Nat.le_of_ble_eq_true rfl) (by rw [hd]; decide) (fun g7 h => ?_)
    exact WA.weak (hJ48 _ h) ⟨rfl, trivial⟩

set_option maxRecDepth 20000 in
theorem ok_X3_addOrder {l : Launch} {E : fp_E} {x1 : Int32} {x2 : Int32} {g : fp_G} {K : Int32 → fp_G → Prop} (h : w_X3_addOrder x1 x2 g K) : fp_M l E yX3_addOrder cX3_addOrder 4 ((Option.some Jvm.ClassFile.FieldType.int)) false 32 [.ref 29, .int x1, .int x2] g K := by
  unfold w_X3_addOrder at h
  refine fp_enter rfl [some (.ref 29), some (.int x1), some (.int x2), none] (Nat.le_of_ble_eq_true rfl) (fun q hq => hq) (fun Z hE hl hv hK hn hd C => ?_)
  subst hE hl hK
  refine wa_aload_n C (i := 0) dX3_addOrder_0 rfl rfl ?_
  refine wa_getR C (j := 0) lq_29 sh_29 rfl in_X3 (by decide) rfl f_X3_12 dX3_addOrder_1 ?_
  refine wa_aload_n C (i := 0) dX3_addOrder_4 rfl rfl ?_
  refine wa_getI C (j := 1) lq_29 sh_29 rfl in_X3 (by decide) rfl f_X3_35 dX3_addOrder_5 ?_
  refine wa_callVi C lq_34 sh_34 rfl s_X3_39 i_X5_readText e_X5_readText dX3_addOrder_8 (ok_X5_readText h) rfl rfl (Nat.le_of_ble_eq_true rfl) (by rw [hd]; decide) (fun v1 g1 h => ?_)
  refine wa_istore_n C (i := 3) dX3_addOrder_11 rfl (by rw [hn]; decide) rfl rfl ?_
  refine wa_aload_n C (i := 0) dX3_addOrder_12 rfl rfl ?_
  refine wa_iconst C (v := 0) dX3_addOrder_13 (by decide) ?_
  refine wa_putI C (j := 1) lq_29 sh_29 rfl in_X3 (by decide) tyX3 tyX3_ok nmX3 rfl rfl rfl f_X3_35 dX3_addOrder_14 h (fun g2 h => ?_)
  refine wa_iload_n C (i := 3) dX3_addOrder_17 rfl rfl ?_
  refine wa_if_ge C (tgt := 96) dX3_addOrder_18 (by decide) h (fun h => ?_) (fun h => ?_)
  · refine wa_iload_n C (i := 3) dX3_addOrder_96 rfl rfl ?_
    exact wa_iret C hv rfl dX3_addOrder_97 h
  · refine wa_aload_n C (i := 0) dX3_addOrder_21 rfl rfl ?_
    refine wa_getR C (j := 2) lq_29 sh_29 rfl in_X3 (by decide) rfl f_X3_18 dX3_addOrder_22 ?_
    refine wa_aload_n C (i := 0) dX3_addOrder_25 rfl rfl ?_
    refine wa_getI C (j := 6) lq_29 sh_29 rfl in_X3 (by decide) rfl f_X3_43 dX3_addOrder_26 ?_
    refine wa_iload_n C (i := 1) dX3_addOrder_29 rfl rfl ?_
    refine wa_iast C lq_30 sh_30 dX3_addOrder_30 h (fun g3 h => ?_)
    refine wa_aload_n C (i := 0) dX3_addOrder_31 rfl rfl ?_
    refine wa_getR C (j := 3) lq_29 sh_29 rfl in_X3 (by decide) rfl f_X3_22 dX3_addOrder_32 ?_
    refine wa_aload_n C (i := 0) dX3_addOrder_35 rfl rfl ?_
    refine wa_getI C (j := 6) lq_29 sh_29 rfl in_X3 (by decide) rfl f_X3_43 dX3_addOrder_36 ?_
    refine wa_iload_n C (i := 2) dX3_addOrder_39 rfl rfl ?_
    refine wa_iast C lq_31 sh_31 dX3_addOrder_40 h (fun g4 h => ?_)
    refine wa_aload_n C (i := 0) dX3_addOrder_41 rfl rfl ?_
    refine wa_getR C (j := 4) lq_29 sh_29 rfl in_X3 (by decide) rfl f_X3_25 dX3_addOrder_42 ?_
    refine wa_aload_n C (i := 0) dX3_addOrder_45 rfl rfl ?_
    refine wa_getI C (j := 6) lq_29 sh_29 rfl in_X3 (by decide) rfl f_X3_43 dX3_addOrder_46 ?_
    refine wa_aload_n C (i := 0) dX3_addOrder_49 rfl rfl ?_
    refine wa_getR C (j := 0) lq_29 sh_29 rfl in_X3 (by decide) rfl f_X3_12 dX3_addOrder_50 ?_
    refine wa_getI C (j := 2) lq_34 sh_34 rfl in_X5 (by decide) rfl f_X3_46 dX3_addOrder_53 ?_
    refine wa_iast C lq_32 sh_32 dX3_addOrder_56 h (fun g5 h => ?_)
    refine wa_aload_n C (i := 0) dX3_addOrder_57 rfl rfl ?_
    refine wa_getR C (j := 0) lq_29 sh_29 rfl in_X3 (by decide) rfl f_X3_12 dX3_addOrder_58 ?_
    refine wa_getR C (j := 1) lq_34 sh_34 rfl in_X5 (by decide) rfl f_X3_49 dX3_addOrder_61 ?_
    refine wa_iconst C (v := 0) dX3_addOrder_64 (by decide) ?_
    refine wa_aload_n C (i := 0) dX3_addOrder_65 rfl rfl ?_
    refine wa_getR C (j := 5) lq_29 sh_29 rfl in_X3 (by decide) rfl f_X3_28 dX3_addOrder_66 ?_
    refine wa_aload_n C (i := 0) dX3_addOrder_69 rfl rfl ?_
    refine wa_getI C (j := 6) lq_29 sh_29 rfl in_X3 (by decide) rfl f_X3_43 dX3_addOrder_70 ?_
    refine wa_bipush C (v := 60) dX3_addOrder_73 (by decide) ?_
    refine wa_imul C dX3_addOrder_75 ?_
    refine wa_aload_n C (i := 0) dX3_addOrder_76 rfl rfl ?_
    refine wa_getR C (j := 0) lq_29 sh_29 rfl in_X3 (by decide) rfl f_X3_12 dX3_addOrder_77 ?_
    refine wa_getI C (j := 2) lq_34 sh_34 rfl in_X5 (by decide) rfl f_X3_46 dX3_addOrder_80 ?_
    refine wa_copy C (t0 := 0) lq_36 sh_36 lq_33 sh_33 rfl rfl q_X3_50 (by rw [hd]; decide) (Nat.le_of_ble_eq_true rfl) dX3_addOrder_83 h (fun g6 h => ?_)
    refine wa_aload_n C (i := 0) dX3_addOrder_86 rfl rfl ?_
    refine wa_dup C dX3_addOrder_87 rfl ?_
    refine wa_getI C (j := 6) lq_29 sh_29 rfl in_X3 (by decide) rfl f_X3_43 dX3_addOrder_88 ?_
    refine wa_iconst C (v := 1) dX3_addOrder_91 (by decide) ?_
    refine wa_iadd C dX3_addOrder_92 ?_
    refine wa_putI C (j := 6) lq_29 sh_29 rfl in_X3 (by decide) tyX3 tyX3_ok nmX3 rfl rfl rfl f_X3_43 dX3_addOrder_93 h (fun g7 h => ?_)
    refine wa_iload_n C (i := 3) dX3_addOrder_96 rfl rfl ?_
    exact wa_iret C hv rfl dX3_addOrder_97 h
