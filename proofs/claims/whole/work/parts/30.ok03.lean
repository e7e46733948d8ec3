set_option maxRecDepth 20000 in
theorem ok_X3_inForce_8 {Z : fp_Z} (C : fp_C Z cX3_inForce RX3 ((Option.some Jvm.ClassFile.FieldType.int))) (hv : fp_V Z false) (hn : Z.2.2.2.2.1 = 5) (hd : Z.2.2.2.2.2.1 = 1) {x1 : Int32} {x2 : Int32} {x3 : Int32} : ∀ (n : Nat) (x4 : Int32) (g : fp_G), w_X3_inForce_8 n x1 x2 x3 x4 g Z.2.2.2.1 → WA Z 8 [some (.ref 29), some (.int x1), some (.int x2), some (.int x3), some (.int x4)] [] g := by
  intro n
  induction n with
  | zero => intro x4 g h; exact h.elim
  | succ n ih =>
    intro x4 g h
    rw [w_X3_inForce_8] at h
    refine wa_iload C dX3_inForce_8 rfl ?_
    refine wa_if_lt C (tgt := 46) dX3_inForce_10 (by decide) h (fun h => ?_) (fun h => ?_)
    · refine wa_iconst C (v := (-1)) dX3_inForce_46 (by decide) ?_
      exact wa_iret C hv rfl dX3_inForce_47 h
    · refine wa_aload_n C (i := 0) dX3_inForce_13 rfl rfl ?_
      refine wa_getR C (j := 2) lq_29 sh_29 rfl in_X3 (by decide) rfl f_X3_18 dX3_inForce_14 ?_
      refine wa_iload C dX3_inForce_17 rfl ?_
      refine wa_iald C lq_30 sh_30 dX3_inForce_19 h (fun v1 h => ?_)
      refine wa_iload_n C (i := 1) dX3_inForce_20 rfl rfl ?_
      refine fp_k0 (Q := WA Z 40 [some (.ref 29), some (.int x1), some (.int x2), some (.int x3), some (.int x4)] [] g) h (fun  h => ?_) (fun J40 hJ40 h => ?_)
      · refine wa_iinc C (i := 4) dX3_inForce_40 rfl (fp_incm1 _) (by rw [hn]; decide) rfl rfl ?_
        refine wa_goto C (tgt := 8) dX3_inForce_43 (by decide) ?_
        exact WA.weak (ih _ _ h) ⟨rfl, ⟨rfl, ⟨rfl, ⟨rfl, ⟨rfl, trivial⟩⟩⟩⟩⟩
      refine wa_icmp_ne C (tgt := 40) dX3_inForce_21 (by decide) h (fun h => ?_) (fun h => ?_)
      · refine wa_aload_n C (i := 0) dX3_inForce_24 rfl rfl ?_
        refine wa_getR C (j := 3) lq_29 sh_29 rfl in_X3 (by decide) rfl f_X3_22 dX3_inForce_25 ?_
        refine wa_iload C dX3_inForce_28 rfl ?_
        refine wa_iald C lq_31 sh_31 dX3_inForce_30 h (fun v2 h => ?_)
        refine wa_iload_n C (i := 3) dX3_inForce_31 rfl rfl ?_
        refine wa_iadd C dX3_inForce_32 ?_
        refine wa_iload_n C (i := 2) dX3_inForce_33 rfl rfl ?_
        refine wa_icmp_gt C (tgt := 40) dX3_inForce_34 (by decide) h (fun h => ?_) (fun h => ?_)
        · exact WA.weak (hJ40  h) ⟨rfl, ⟨rfl, ⟨rfl, ⟨rfl, ⟨rfl, trivial⟩⟩⟩⟩⟩
        · refine wa_iload C dX3_inForce_37 rfl ?_
          exact wa_iret C hv rfl dX3_inForce_39 h
      · exact WA.weak (hJ40  h) ⟨rfl, ⟨rfl, ⟨rfl, ⟨rfl, ⟨rfl, trivial⟩⟩⟩⟩⟩

set_option maxRecDepth 20000 in
theorem ok_X3_inForce {l : Launch} {E : fp_E} {x1 : Int32} {x2 : Int32} {x3 : Int32} {g : fp_G} {K : Int32 → fp_G → Prop} (h : w_X3_inForce x1 x2 x3 g K) : fp_M l E yX3_inForce cX3_inForce 5 ((Option.some Jvm.ClassFile.FieldType.int)) false 1 [.ref 29, .int x1, .int x2, .int x3] g K := by
  unfold w_X3_inForce at h
  refine fp_enter rfl [some (.ref 29), some (.int x1), some (.int x2), some (.int x3), none] (Nat.le_of_ble_eq_true rfl) (fun q hq => hq) (fun Z hE hl hv hK hn hd C => ?_)
  subst hE hl hK
  refine wa_aload_n C (i := 0) dX3_inForce_0 rfl rfl ?_
  refine wa_getI C (j := 6) lq_29 sh_29 rfl in_X3 (by decide) rfl f_X3_43 dX3_inForce_1 ?_
  refine wa_iconst C (v := 1) dX3_inForce_4 (by decide) ?_
  refine wa_isub C dX3_inForce_5 ?_
  refine wa_istore C (i := 4) dX3_inForce_6 (by rw [hn]; decide) rfl rfl ?_
  obtain ⟨n8, h⟩ := h
  exact WA.weak (ok_X3_inForce_8 C hv hn hd n8 _ _ h) ⟨rfl, ⟨rfl, ⟨rfl, ⟨rfl, ⟨rfl, trivial⟩⟩⟩⟩⟩

set_option maxRecDepth 20000 in
theorem ok_X3_valueOf {l : Launch} {E : fp_E} {x0 : Int32} {g : fp_G} {K : Int32 → fp_G → Prop} (h : w_X3_valueOf x0 g K) : fp_M l E yX3_valueOf cX3_valueOf 3 ((Option.some Jvm.ClassFile.FieldType.int)) false 1 [.int x0, .ref 5] g K := by
  unfold w_X3_valueOf at h
  refine fp_enter rfl [some (.int x0), some (.ref 5), none] (Nat.le_of_ble_eq_true rfl) (fun q hq => hq) (fun Z hE hl hv hK hn hd C => ?_)
  subst hE hl hK
  refine wa_iload_n C (i := 0) dX3_valueOf_0 rfl rfl ?_
  refine wa_sipush C (v := 10000) dX3_valueOf_1 (by decide) ?_
  refine wa_isub C dX3_valueOf_4 ?_
  refine wa_istore_n C (i := 2) dX3_valueOf_5 rfl (by rw [hn]; decide) rfl rfl ?_
  refine wa_iload_n C (i := 2) dX3_valueOf_6 rfl rfl ?_
  refine fp_k0 (Q := WA Z 22 [some (.int x0), none, none] [] g) h (fun  h => ?_) (fun J22 hJ22 h => ?_)
  · refine wa_iload_n C (i := 0) dX3_valueOf_22 rfl rfl ?_
    exact wa_iret C hv rfl dX3_valueOf_23 h
  refine wa_if_lt C (tgt := 22) dX3_valueOf_7 (by decide) h (fun h => ?_) (fun h => ?_)
  · exact WA.weak (hJ22  h) ⟨rfl, trivial⟩
  · refine wa_iload_n C (i := 2) dX3_valueOf_10 rfl rfl ?_
    refine wa_aload_n C (i := 1) dX3_valueOf_11 rfl rfl ?_
    refine wa_alen C (t0 := 0) (v := 9) lq_5 sh_5 rfl (by decide) dX3_valueOf_12 ?_
    refine wa_icmp_ge C (tgt := 22) dX3_valueOf_13 (by decide) h (fun h => ?_) (fun h => ?_)
    · exact WA.weak (hJ22  h) ⟨rfl, trivial⟩
    · refine wa_aload_n C (i := 1) dX3_valueOf_16 rfl rfl ?_
      refine wa_iload_n C (i := 2) dX3_valueOf_17 rfl rfl ?_
      refine wa_iald C lq_5 sh_5 dX3_valueOf_18 h (fun v1 h => ?_)
      refine wa_goto C (tgt := 23) dX3_valueOf_19 (by decide) ?_
      exact wa_iret C hv rfl dX3_valueOf_23 h

set_option maxRecDepth 20000 in
theorem ok_X3_isTrueStep {l : Launch} {E : fp_E} {x0 : Int32} {g : fp_G} {K : Int32 → fp_G → Prop} (h : w_X3_isTrueStep x0 g K) : fp_M l E yX3_isTrueStep cX3_isTrueStep 5 ((Option.some Jvm.ClassFile.FieldType.boolean)) false 2 [.int x0, .ref 5] g K := by
  unfold w_X3_isTrueStep at h
  refine fp_enter rfl [some (.int x0), some (.ref 5), none, none, none] (Nat.le_of_ble_eq_true rfl) (fun q hq => hq) (fun Z hE hl hv hK hn hd C => ?_)
  subst hE hl hK
  refine wa_iload_n C (i := 0) dX3_isTrueStep_0 rfl rfl ?_
  refine wa_bipush C (v := 16) dX3_isTrueStep_1 (by decide) ?_
  refine wa_ishr C dX3_isTrueStep_3 ?_
  refine wa_aload_n C (i := 1) dX3_isTrueStep_4 rfl rfl ?_
  refine wa_callSi C s_X3_60 t_X3_valueOf dX3_isTrueStep_5 (ok_X3_valueOf h) rfl rfl (Nat.le_of_ble_eq_true rfl) (by rw [hd]; decide) (fun v1 g1 h => ?_)
  refine wa_istore_n C (i := 2) dX3_isTrueStep_8 rfl (by rw [hn]; decide) rfl rfl ?_
  refine wa_iload_n C (i := 0) dX3_isTrueStep_9 rfl rfl ?_
  refine wa_sipush C (v := 16383) dX3_isTrueStep_10 (by decide) ?_
  refine wa_iand C dX3_isTrueStep_13 ?_
  refine wa_aload_n C (i := 1) dX3_isTrueStep_14 rfl rfl ?_
  refine wa_callSi C s_X3_60 t_X3_valueOf dX3_isTrueStep_15 (ok_X3_valueOf h) rfl rfl (Nat.le_of_ble_eq_true rfl) (by rw [hd]; decide) (fun v2 g2 h => ?_)
  refine wa_istore_n C (i := 3) dX3_isTrueStep_18 rfl (by rw [hn]; decide) rfl rfl ?_
  refine wa_iload_n C (i := 0) dX3_isTrueStep_19 rfl rfl ?_
  refine wa_bipush C (v := 14) dX3_isTrueStep_20 (by decide) ?_
  refine wa_ishr C dX3_isTrueStep_22 ?_
  refine wa_iconst C (v := 3) dX3_isTrueStep_23 (by decide) ?_
  refine wa_iand C dX3_isTrueStep_24 ?_
  refine wa_istore C (i := 4) dX3_isTrueStep_25 (by rw [hn]; decide) rfl rfl ?_
  refine wa_iload C dX3_isTrueStep_27 rfl ?_
  refine wa_if_ne C (tgt := 43) dX3_isTrueStep_29 (by decide) h (fun h => ?_) (fun h => ?_)
  · refine wa_iload_n C (i := 2) dX3_isTrueStep_32 rfl rfl ?_
    refine wa_iload_n C (i := 3) dX3_isTrueStep_33 rfl rfl ?_
    refine wa_icmp_ge C (tgt := 41) dX3_isTrueStep_34 (by decide) h (fun h => ?_) (fun h => ?_)
    · refine wa_iconst C (v := 0) dX3_isTrueStep_41 (by decide) ?_
      exact wa_zret C hv rfl rfl dX3_isTrueStep_42 h
    · refine wa_iconst C (v := 1) dX3_isTrueStep_37 (by decide) ?_
      refine wa_goto C (tgt := 42) dX3_isTrueStep_38 (by decide) ?_
      exact wa_zret C hv rfl rfl dX3_isTrueStep_42 h
  · refine wa_iload C dX3_isTrueStep_43 rfl ?_
    refine wa_iconst C (v := 1) dX3_isTrueStep_45 (by decide) ?_
    refine wa_icmp_ne C (tgt := 62) dX3_isTrueStep_46 (by decide) h (fun h => ?_) (fun h => ?_)
    · refine wa_iload_n C (i := 2) dX3_isTrueStep_49 rfl rfl ?_
      refine wa_iload_n C (i := 3) dX3_isTrueStep_50 rfl rfl ?_
      refine wa_icmp_ne C (tgt := 58) dX3_isTrueStep_51 (by decide) h (fun h => ?_) (fun h => ?_)
      · refine wa_iconst C (v := 1) dX3_isTrueStep_54 (by decide) ?_
        refine wa_goto C (tgt := 72) dX3_isTrueStep_55 (by decide) ?_
        exact wa_zret C hv rfl rfl dX3_isTrueStep_72 h
      · refine wa_iconst C (v := 0) dX3_isTrueStep_58 (by decide) ?_
        refine wa_goto C (tgt := 72) dX3_isTrueStep_59 (by decide) ?_
        exact wa_zret C hv rfl rfl dX3_isTrueStep_72 h
    · refine wa_iload_n C (i := 2) dX3_isTrueStep_62 rfl rfl ?_
      refine wa_iload_n C (i := 3) dX3_isTrueStep_63 rfl rfl ?_
      refine wa_icmp_le C (tgt := 71) dX3_isTrueStep_64 (by decide) h (fun h => ?_) (fun h => ?_)
      · refine wa_iconst C (v := 0) dX3_isTrueStep_71 (by decide) ?_
        exact wa_zret C hv rfl rfl dX3_isTrueStep_72 h
      · refine wa_iconst C (v := 1) dX3_isTrueStep_67 (by decide) ?_
        refine wa_goto C (tgt := 72) dX3_isTrueStep_68 (by decide) ?_
        exact wa_zret C hv rfl rfl dX3_isTrueStep_72 h

set_option maxRecDepth 20000 in
theorem ok_X3_isTrue_11 {Z : fp_Z} (C : fp_C Z cX3_isTrue RX3 ((Option.some Jvm.ClassFile.FieldType.boolean))) (hv : fp_V Z false) (hn : Z.2.2.2.2.1 = 8) (hd : Z.2.2.2.2.2.1 = 3) {x1 : Int32} {x4 : Int32} : ∀ (n : Nat) (x3 : Int32) (x5 : Int32) (g : fp_G), w_X3_isTrue_11 n x1 x3 x4 x5 g Z.2.2.2.1 → WA Z 11 [some (.ref 29), some (.int x1), some (.ref 5), some (.int x3), some (.int x4), some (.int x5), none, none] [] g := by
  intro n
  induction n with
  | zero => intro x3 x5 g h; exact h.elim
  | succ n ih =>
    intro x3 x5 g h
    rw [w_X3_isTrue_11] at h
    refine wa_iload C dX3_isTrue_11 rfl ?_
    refine wa_aload_n C (i := 0) dX3_isTrue_13 rfl rfl ?_
    refine wa_getR C (j := 4) lq_29 sh_29 rfl in_X3 (by decide) rfl f_X3_25 dX3_isTrue_14 ?_
    refine wa_iload_n C (i := 1) dX3_isTrue_17 rfl rfl ?_
    refine wa_iald C lq_32 sh_32 dX3_isTrue_18 h (fun v1 h => ?_)
    refine wa_icmp_ge C (tgt := 123) dX3_isTrue_19 (by decide) h (fun h => ?_) (fun h => ?_)
    · refine wa_iload_n C (i := 3) dX3_isTrue_123 rfl rfl ?_
      refine wa_iconst C (v := 1) dX3_isTrue_124 (by decide) ?_
      refine wa_iand C dX3_isTrue_125 ?_
      refine wa_iconst C (v := 1) dX3_isTrue_126 (by decide) ?_
      refine wa_icmp_ne C (tgt := 134) dX3_isTrue_127 (by decide) h (fun h => ?_) (fun h => ?_)
      · refine wa_iconst C (v := 1) dX3_isTrue_130 (by decide) ?_
        refine wa_goto C (tgt := 135) dX3_isTrue_131 (by decide) ?_
        exact wa_zret C hv rfl rfl dX3_isTrue_135 h
      · refine wa_iconst C (v := 0) dX3_isTrue_134 (by decide) ?_
        exact wa_zret C hv rfl rfl dX3_isTrue_135 h
    · refine wa_aload_n C (i := 0) dX3_isTrue_22 rfl rfl ?_
      refine wa_getR C (j := 5) lq_29 sh_29 rfl in_X3 (by decide) rfl f_X3_28 dX3_isTrue_23 ?_
      refine wa_iload C dX3_isTrue_26 rfl ?_
      refine wa_iload C dX3_isTrue_28 rfl ?_
      refine wa_iadd C dX3_isTrue_30 ?_
      refine wa_iald C lq_33 sh_33 dX3_isTrue_31 h (fun v2 h => ?_)
      refine wa_istore C (i := 6) dX3_isTrue_32 (by rw [hn]; decide) rfl rfl ?_
      refine wa_iload_n C (i := 3) dX3_isTrue_34 rfl rfl ?_
      refine wa_iconst C (v := 1) dX3_isTrue_35 (by decide) ?_
      refine wa_iand C dX3_isTrue_36 ?_
      refine wa_istore C (i := 7) dX3_isTrue_37 (by rw [hn]; decide) rfl rfl ?_
      refine wa_iload C dX3_isTrue_39 rfl ?_
      refine wa_iconst C (v := (-1)) dX3_isTrue_41 (by decide) ?_
      refine fp_j1 (Q := fun x3j117 g1 => WA Z 117 [some (.ref 29), some (.int x1), some (.ref 5), some (.int x3j117), some (.int x4), some (.int x5), none, none] [] g1) h (fun x3j117 g1 h => ?_) (fun J117 hJ117 h => ?_)
      · refine wa_iinc C (i := 5) dX3_isTrue_117 rfl (fp_inc1 _) (by rw [hn]; decide) rfl rfl ?_
        refine wa_goto C (tgt := 11) dX3_isTrue_120 (by decide) ?_
        exact WA.weak (ih _ _ _ h) ⟨rfl, ⟨rfl, ⟨rfl, ⟨rfl, ⟨rfl, ⟨rfl, trivial⟩⟩⟩⟩⟩⟩
      refine wa_icmp_ne C (tgt := 52) dX3_isTrue_42 (by decide) h (fun h => ?_) (fun h => ?_)
      · refine wa_iload_n C (i := 3) dX3_isTrue_45 rfl rfl ?_
        refine wa_iconst C (v := 1) dX3_isTrue_46 (by decide) ?_
        refine wa_ixor C dX3_isTrue_47 ?_
        refine wa_istore_n C (i := 3) dX3_isTrue_48 rfl (by rw [hn]; decide) rfl rfl ?_
        refine wa_goto C (tgt := 117) dX3_isTrue_49 (by decide) ?_
        exact WA.weak (hJ117 _ _ h) ⟨rfl, ⟨rfl, ⟨rfl, ⟨rfl, ⟨rfl, ⟨rfl, trivial⟩⟩⟩⟩⟩⟩
      · refine wa_iload C dX3_isTrue_52 rfl ?_
        refine wa_bipush C (v := (-2)) dX3_isTrue_54 (by decide) ?_
        refine wa_icmp_ne C (tgt := 81) dX3_isTrue_56 (by decide) h (fun h => ?_) (fun h => ?_)
        · refine wa_iload C dX3_isTrue_59 rfl ?_
          refine wa_iconst C (v := 1) dX3_isTrue_61 (by decide) ?_
          refine fp_k1 (Q := fun z0j77 => WA Z 77 [some (.ref 29), some (.int x1), some (.ref 5), none, some (.int x4), some (.int x5), none, none] [.int z0j77] g) h (fun z0j77 h => ?_) (fun J77 hJ77 h => ?_)
          · refine wa_istore_n C (i := 3) dX3_isTrue_77 rfl (by rw [hn]; decide) rfl rfl ?_
            refine wa_goto C (tgt := 117) dX3_isTrue_78 (by decide) ?_
            exact WA.weak (hJ117 _ _ h) ⟨rfl, ⟨rfl, ⟨rfl, ⟨rfl, ⟨rfl, ⟨rfl, trivial⟩⟩⟩⟩⟩⟩
          refine wa_icmp_ne C (tgt := 71) dX3_isTrue_62 (by decide) h (fun h => ?_) (fun h => ?_)
          · refine wa_iload_n C (i := 3) dX3_isTrue_65 rfl rfl ?_
            refine wa_iconst C (v := 1) dX3_isTrue_66 (by decide) ?_
            refine wa_ishr C dX3_isTrue_67 ?_
            refine wa_goto C (tgt := 77) dX3_isTrue_68 (by decide) ?_
            exact WA.weak (hJ77 _ h) ⟨rfl, ⟨rfl, ⟨rfl, ⟨rfl, ⟨rfl, trivial⟩⟩⟩⟩⟩
          · refine wa_iload_n C (i := 3) dX3_isTrue_71 rfl rfl ?_
            refine wa_iconst C (v := 1) dX3_isTrue_72 (by decide) ?_
            refine wa_ishr C dX3_isTrue_73 ?_
            refine wa_bipush C (v := (-2)) dX3_isTrue_74 (by decide) ?_
            refine wa_iand C dX3_isTrue_76 ?_
            exact WA.weak (hJ77 _ h) ⟨rfl, ⟨rfl, ⟨rfl, ⟨rfl, ⟨rfl, trivial⟩⟩⟩⟩⟩
        · refine wa_iload C dX3_isTrue_81 rfl ?_
          refine wa_bipush C (v := (-3)) dX3_isTrue_83 (by decide) ?_
          refine wa_icmp_ne C (tgt := 98) dX3_isTrue_85 (by decide) h (fun h => ?_) (fun h => ?_)
          · refine wa_iload_n C (i := 3) dX3_isTrue_88 rfl rfl ?_
            refine wa_iconst C (v := 1) dX3_isTrue_89 (by decide) ?_
            refine wa_ishr C dX3_isTrue_90 ?_
            refine wa_iload C dX3_isTrue_91 rfl ?_
            refine wa_ior C dX3_isTrue_93 ?_
            refine wa_istore_n C (i := 3) dX3_isTrue_94 rfl (by rw [hn]; decide) rfl rfl ?_
            refine wa_goto C (tgt := 117) dX3_isTrue_95 (by decide) ?_
            exact WA.weak (hJ117 _ _ h) ⟨rfl, ⟨rfl, ⟨rfl, ⟨rfl, ⟨rfl, ⟨rfl, trivial⟩⟩⟩⟩⟩⟩
          · refine wa_iload_n C (i := 3) dX3_isTrue_98 rfl rfl ?_
            refine wa_iconst C (v := 1) dX3_isTrue_99 (by decide) ?_
            refine wa_ishl C dX3_isTrue_100 ?_
            refine wa_iload C dX3_isTrue_101 rfl ?_
            refine wa_aload_n C (i := 2) dX3_isTrue_103 rfl rfl ?_
            refine wa_callSi C s_X3_56 t_X3_isTrueStep dX3_isTrue_104 (ok_X3_isTrueStep h) rfl rfl (Nat.le_of_ble_eq_true rfl) (by rw [hd]; decide) (fun v3 g2 h => ?_)
            refine fp_k1 (Q := fun z0j115 => WA Z 115 [some (.ref 29), some (.int x1), some (.ref 5), none, some (.int x4), some (.int x5), none, none] [.int z0j115, .int (x3 <<< (1 &&& 31))] g2) h (fun z0j115 h => ?_) (fun J115 hJ115 h => ?_)
            · refine wa_ior C dX3_isTrue_115 ?_
              refine wa_istore_n C (i := 3) dX3_isTrue_116 rfl (by rw [hn]; decide) rfl rfl ?_
              exact WA.weak (hJ117 _ _ h) ⟨rfl, ⟨rfl, ⟨rfl, ⟨rfl, ⟨rfl, ⟨rfl, trivial⟩⟩⟩⟩⟩⟩
            refine wa_if_eq C (tgt := 114) dX3_isTrue_107 (by decide) h (fun h => ?_) (fun h => ?_)
            · refine wa_iconst C (v := 0) dX3_isTrue_114 (by decide) ?_
              exact WA.weak (hJ115 _ h) ⟨rfl, ⟨rfl, ⟨rfl, ⟨rfl, ⟨rfl, trivial⟩⟩⟩⟩⟩
            · refine wa_iconst C (v := 1) dX3_isTrue_110 (by decide) ?_
              refine wa_goto C (tgt := 115) dX3_isTrue_111 (by decide) ?_
              exact WA.weak (hJ115 _ h) ⟨rfl, ⟨rfl, ⟨rfl, ⟨rfl, ⟨rfl, trivial⟩⟩⟩⟩⟩

set_option maxRecDepth 20000 in
theorem ok_X3_isTrue {l : Launch} {E : fp_E} {x1 : Int32} {g : fp_G} {K : Int32 → fp_G → Prop} (h : w_X3_isTrue x1 g K) : fp_M l E yX3_isTrue cX3_isTrue 8 ((Option.some Jvm.ClassFile.FieldType.boolean)) false 3 [.ref 29, .int x1, .ref 5] g K := by
  unfold w_X3_isTrue at h
  refine fp_enter rfl [some (.ref 29), some (.int x1), some (.ref 5), none, none, none, none, none] (Nat.le_of_ble_eq_true rfl) (fun q hq => hq) (fun Z hE hl hv hK hn hd C => ?_)
  subst hE hl hK
  refine wa_iconst C (v := 0) dX3_isTrue_0 (by decide) ?_
  refine wa_istore_n C (i := 3) dX3_isTrue_1 rfl (by rw [hn]; decide) rfl rfl ?_
  refine wa_iload_n C (i := 1) dX3_isTrue_2 rfl rfl ?_
  refine wa_bipush C (v := 60) dX3_isTrue_3 (by decide) ?_
  refine wa_imul C dX3_isTrue_5 ?_
  refine wa_istore C (i := 4) dX3_isTrue_6 (by rw [hn]; decide) rfl rfl ?_
  refine wa_iconst C (v := 0) dX3_isTrue_8 (by decide) ?_
  refine wa_istore C (i := 5) dX3_isTrue_9 (by rw [hn]; decide) rfl rfl ?_
  obtain ⟨n11, h⟩ := h
  exact WA.weak (ok_X3_isTrue_11 C hv hn hd n11 _ _ _ h) ⟨rfl, ⟨rfl, ⟨rfl, ⟨rfl, ⟨rfl, ⟨rfl, trivial⟩⟩⟩⟩⟩⟩

set_option maxRecDepth 20000 in
theorem ok_X4_lineUp_27 {Z : fp_Z} (C : fp_C Z cX4_lineUp RX4 ((Option.some Jvm.ClassFile.FieldType.int))) (hv : fp_V Z false) (hn : Z.2.2.2.2.1 = 5) (hd : Z.2.2.2.2.2.1 = 1) {c : Nat} (hc : fp_isC c) {x2 : Int32} {x3 : Int32} {E77 : Int32 → fp_G → Prop} (hE77 : ∀ y4 g, E77 y4 g → WA Z 77 [some (.ref 2), some (.ref c), some (.int x2), some (.int x3), some (.int y4)] [] g) : ∀ (n : Nat) (x4 : Int32) (g : fp_G), w_X4_lineUp_27 n c x2 x3 x4 g Z.2.2.2.1 E77 → WA Z 27 [some (.ref 2), some (.ref c), some (.int x2), some (.int x3), some (.int x4)] [] g := by
  intro n
  induction n with
  | zero => intro x4 g h; exact h.elim
  | succ n ih =>
    intro x4 g h
    rw [w_X4_lineUp_27] at h
    refine wa_iload C dX4_lineUp_27 rfl ?_
    refine wa_if_le C (tgt := 77) dX4_lineUp_29 (by decide) h (fun h => ?_) (fun h => ?_)
    · exact WA.weak (hE77 _ _ h) ⟨rfl, ⟨rfl, ⟨rfl, ⟨rfl, ⟨rfl, trivial⟩⟩⟩⟩⟩
    · refine wa_aload_n C (i := 1) dX4_lineUp_32 rfl rfl ?_
      refine wa_getR C (j := 2) (ltC0 hc) (shC hc) rfl in_X0 (by decide) rfl f_X4_95 dX4_lineUp_33 ?_
      refine wa_aload_n C (i := 0) dX4_lineUp_36 rfl rfl ?_
      refine wa_getR C (j := 4) lq_2 sh_2 rfl in_X4 (by decide) rfl f_X4_39 dX4_lineUp_37 ?_
      refine wa_iload C dX4_lineUp_40 rfl ?_
      refine wa_iconst C (v := 1) dX4_lineUp_42 (by decide) ?_
      refine wa_isub C dX4_lineUp_43 ?_
      refine wa_iald C lq_3 sh_3 dX4_lineUp_44 h (fun v2 h => ?_)
      refine wa_iald C (ltC hc (by decide)) (shC_3 hc) dX4_lineUp_45 h (fun v3 h => ?_)
      refine wa_aload_n C (i := 1) dX4_lineUp_46 rfl rfl ?_
      refine wa_getR C (j := 2) (ltC0 hc) (shC hc) rfl in_X0 (by decide) rfl f_X4_95 dX4_lineUp_47 ?_
      refine wa_iload_n C (i := 3) dX4_lineUp_50 rfl rfl ?_
      refine wa_iald C (ltC hc (by decide)) (shC_3 hc) dX4_lineUp_51 h (fun v4 h => ?_)
      refine wa_icmp_le C (tgt := 77) dX4_lineUp_52 (by decide) h (fun h => ?_) (fun h => ?_)
      · exact WA.weak (hE77 _ _ h) ⟨rfl, ⟨rfl, ⟨rfl, ⟨rfl, ⟨rfl, trivial⟩⟩⟩⟩⟩
      · refine wa_aload_n C (i := 0) dX4_lineUp_55 rfl rfl ?_
        refine wa_getR C (j := 4) lq_2 sh_2 rfl in_X4 (by decide) rfl f_X4_39 dX4_lineUp_56 ?_
        refine wa_iload C dX4_lineUp_59 rfl ?_
        refine wa_aload_n C (i := 0) dX4_lineUp_61 rfl rfl ?_
        refine wa_getR C (j := 4) lq_2 sh_2 rfl in_X4 (by decide) rfl f_X4_39 dX4_lineUp_62 ?_
        refine wa_iload C dX4_lineUp_65 rfl ?_
        refine wa_iconst C (v := 1) dX4_lineUp_67 (by decide) ?_
        refine wa_isub C dX4_lineUp_68 ?_
        refine wa_iald C lq_3 sh_3 dX4_lineUp_69 h (fun v5 h => ?_)
        refine wa_iast C lq_3 sh_3 dX4_lineUp_70 h (fun g2 h => ?_)
        refine wa_iinc C (i := 4) dX4_lineUp_71 rfl (fp_incm1 _) (by rw [hn]; decide) rfl rfl ?_
        refine wa_goto C (tgt := 27) dX4_lineUp_74 (by decide) ?_
        exact WA.weak (ih _ _ h) ⟨rfl, ⟨rfl, ⟨rfl, ⟨rfl, ⟨rfl, trivial⟩⟩⟩⟩⟩

set_option maxRecDepth 20000 in
theorem ok_X4_lineUp_4 {Z : fp_Z} (C : fp_C Z cX4_lineUp RX4 ((Option.some Jvm.ClassFile.FieldType.int))) (hv : fp_V Z false) (hn : Z.2.2.2.2.1 = 5) (hd : Z.2.2.2.2.2.1 = 1) {c : Nat} (hc : fp_isC c) : ∀ (n : Nat) (x2 : Int32) (x3 : Int32) (g : fp_G), w_X4_lineUp_4 n c x2 x3 g Z.2.2.2.1 → WA Z 4 [some (.ref 2), some (.ref c), some (.int x2), some (.int x3), none] [] g := by
  intro n
  induction n with
  | zero => intro x2 x3 g h; exact h.elim
  | succ n ih =>
    intro x2 x3 g h
    rw [w_X4_lineUp_4] at h
    refine wa_iload_n C (i := 3) dX4_lineUp_4 rfl rfl ?_
    refine wa_aload_n C (i := 0) dX4_lineUp_5 rfl rfl ?_
    refine wa_getR C (j := 3) lq_2 sh_2 rfl in_X4 (by decide) rfl f_X4_35 dX4_lineUp_6 ?_
    refine wa_getI C (j := 5) lq_37 sh_37 rfl in_X1 (by decide) rfl f_X4_63 dX4_lineUp_9 ?_
    refine wa_icmp_ge C (tgt := 94) dX4_lineUp_12 (by decide) h (fun h => ?_) (fun h => ?_)
    · refine wa_iload_n C (i := 2) dX4_lineUp_94 rfl rfl ?_
      exact wa_iret C hv rfl dX4_lineUp_95 h
    · refine wa_aload_n C (i := 1) dX4_lineUp_15 rfl rfl ?_
      refine wa_getR C (j := 0) (ltC0 hc) (shC hc) rfl in_X0 (by decide) rfl f_X4_92 dX4_lineUp_16 ?_
      refine wa_iload_n C (i := 3) dX4_lineUp_19 rfl rfl ?_
      refine wa_iald C (ltC hc (by decide)) (shC_1 hc) dX4_lineUp_20 h (fun v1 h => ?_)
      refine fp_j1 (Q := fun x2j88 g1 => WA Z 88 [some (.ref 2), some (.ref c), some (.int x2j88), some (.int x3), none] [] g1) h (fun x2j88 g1 h => ?_) (fun J88 hJ88 h => ?_)
      · refine wa_iinc C (i := 3) dX4_lineUp_88 rfl (fp_inc1 _) (by rw [hn]; decide) rfl rfl ?_
        refine wa_goto C (tgt := 4) dX4_lineUp_91 (by decide) ?_
        exact WA.weak (ih _ _ _ h) ⟨rfl, ⟨rfl, ⟨rfl, ⟨rfl, trivial⟩⟩⟩⟩
      refine wa_if_ne C (tgt := 88) dX4_lineUp_21 (by decide) h (fun h => ?_) (fun h => ?_)
      · refine wa_iload_n C (i := 2) dX4_lineUp_24 rfl rfl ?_
        refine wa_istore C (i := 4) dX4_lineUp_25 (by rw [hn]; decide) rfl rfl ?_
        obtain ⟨n27, h⟩ := h
        refine WA.weak (ok_X4_lineUp_27 C hv hn hd hc (fun v6 g3 h => ?_) n27 _ _ h) ⟨rfl, ⟨rfl, ⟨rfl, ⟨rfl, ⟨rfl, trivial⟩⟩⟩⟩⟩
        · refine wa_aload_n C (i := 0) dX4_lineUp_77 rfl rfl ?_
          refine wa_getR C (j := 4) lq_2 sh_2 rfl in_X4 (by decide) rfl f_X4_39 dX4_lineUp_78 ?_
          refine wa_iload C dX4_lineUp_81 rfl ?_
          refine wa_iload_n C (i := 3) dX4_lineUp_83 rfl rfl ?_
          refine wa_iast C lq_3 sh_3 dX4_lineUp_84 h (fun g4 h => ?_)
          refine wa_iinc C (i := 2) dX4_lineUp_85 rfl (fp_inc1 _) (by rw [hn]; decide) rfl rfl ?_
          exact WA.weak (hJ88 _ _ h) ⟨rfl, ⟨rfl, ⟨rfl, ⟨rfl, trivial⟩⟩⟩⟩
      · exact WA.weak (hJ88 _ _ h) ⟨rfl, ⟨rfl, ⟨rfl, ⟨rfl, trivial⟩⟩⟩⟩

set_option maxRecDepth 20000 in
theorem ok_X4_lineUp {l : Launch} {E : fp_E} {c : Nat} (hc : fp_isC c) {g : fp_G} {K : Int32 → fp_G → Prop} (h : w_X4_lineUp c g K) : fp_M l E yX4_lineUp cX4_lineUp 5 ((Option.some Jvm.ClassFile.FieldType.int)) false 1 [.ref 2, .ref c] g K := by
  unfold w_X4_lineUp at h
  refine fp_enter rfl [some (.ref 2), some (.ref c), none, none, none] (Nat.le_of_ble_eq_true rfl) (fun q hq => hq) (fun Z hE hl hv hK hn hd C => ?_)
  subst hE hl hK
  refine wa_iconst C (v := 0) dX4_lineUp_0 (by decide) ?_
  refine wa_istore_n C (i := 2) dX4_lineUp_1 rfl (by rw [hn]; decide) rfl rfl ?_
  refine wa_iconst C (v := 0) dX4_lineUp_2 (by decide) ?_
  refine wa_istore_n C (i := 3) dX4_lineUp_3 rfl (by rw [hn]; decide) rfl rfl ?_
  obtain ⟨n4, h⟩ := h
  exact WA.weak (ok_X4_lineUp_4 C hv hn hd hc n4 _ _ _ h) ⟨rfl, ⟨rfl, ⟨rfl, ⟨rfl, trivial⟩⟩⟩⟩

set_option maxRecDepth 20000 in
theorem ok_J7_fill_53178_5 {Z : fp_Z} (C : fp_C Z cJ7_fill_53178 RJ7 ((Option.none : Option Jvm.ClassFile.FieldType))) (hv : fp_V Z true) (hn : Z.2.2.2.2.1 = 4) (hd : Z.2.2.2.2.2.1 = 1) {a na : Nat} (ha : a < fp_NC ∧ fp_sh a = .inl (.int, na)) {x1 : Int32} {x3 : Int32} : ∀ (n : Nat) (x2 : Int32) (g : fp_G), w_J7_fill_53178_5 n a na x1 x2 x3 g Z.2.2.2.1 → WA Z 5 [some (.ref a), some (.int x1), some (.int x2), some (.int x3)] [] g := by
  intro n
  induction n with
  | zero => intro x2 g h; exact h.elim
  | succ n ih =>
    intro x2 g h
    rw [w_J7_fill_53178_5] at h
    refine wa_iload_n C (i := 2) dJ7_fill_53178_5 rfl rfl ?_
    refine wa_iload_n C (i := 3) dJ7_fill_53178_6 rfl rfl ?_
    refine wa_icmp_ge C (tgt := 20) dJ7_fill_53178_7 (by decide) h (fun h => ?_) (fun h => ?_)
    · exact wa_vret C hv rfl dJ7_fill_53178_20 h
    · refine wa_aload_n C (i := 0) dJ7_fill_53178_10 rfl rfl ?_
      refine wa_iload_n C (i := 2) dJ7_fill_53178_11 rfl rfl ?_
      refine wa_iload_n C (i := 1) dJ7_fill_53178_12 rfl rfl ?_
      refine wa_iast C ha.1 ha.2 dJ7_fill_53178_13 h (fun g1 h => ?_)
      refine wa_iinc C (i := 2) dJ7_fill_53178_14 rfl (fp_inc1 _) (by rw [hn]; decide) rfl rfl ?_
      refine wa_goto C (tgt := 5) dJ7_fill_53178_17 (by decide) ?_
      exact WA.weak (ih _ _ h) ⟨rfl, ⟨rfl, ⟨rfl, ⟨rfl, trivial⟩⟩⟩⟩

set_option maxRecDepth 20000 in
theorem ok_J7_fill_53178 {l : Launch} {E : fp_E} {a na : Nat} (ha : a < fp_NC ∧ fp_sh a = .inl (.int, na)) {x1 : Int32} {g : fp_G} {K : Int32 → fp_G → Prop} (h : w_J7_fill_53178 a na x1 g K) : fp_M l E yJ7_fill_53178 cJ7_fill_53178 4 ((Option.none : Option Jvm.ClassFile.FieldType)) true 1 [.ref a, .int x1] g K := by
  unfold w_J7_fill_53178 at h
  refine fp_enter rfl [some (.ref a), some (.int x1), none, none] (Nat.le_of_ble_eq_true rfl) (fun q hq => hq) (fun Z hE hl hv hK hn hd C => ?_)
  subst hE hl hK
  refine wa_iconst C (v := 0) dJ7_fill_53178_0 (by decide) ?_
  refine wa_istore_n C (i := 2) dJ7_fill_53178_1 rfl (by rw [hn]; decide) rfl rfl ?_
  refine wa_aload_n C (i := 0) dJ7_fill_53178_2 rfl rfl ?_
  refine wa_alen C (t0 := 0) (v := Int32.ofNat na) ha.1 ha.2 rfl rfl dJ7_fill_53178_3 ?_
  refine wa_istore_n C (i := 3) dJ7_fill_53178_4 rfl (by rw [hn]; decide) rfl rfl ?_
  obtain ⟨n5, h⟩ := h
  exact WA.weak (ok_J7_fill_53178_5 C hv hn hd ha n5 _ _ h) ⟨rfl, ⟨rfl, ⟨rfl, ⟨rfl, trivial⟩⟩⟩⟩

set_option maxRecDepth 20000 in
theorem ok_X6_lastState_8 {Z : fp_Z} (C : fp_C Z cX6_lastState RX6 ((Option.some Jvm.ClassFile.FieldType.int))) (hv : fp_V Z false) (hn : Z.2.2.2.2.1 = 5) (hd : Z.2.2.2.2.2.1 = 1) {x1 : Int32} {x2 : Int32} {x3 : Int32} : ∀ (n : Nat) (x4 : Int32) (g : fp_G), w_X6_lastState_8 n x1 x2 x3 x4 g Z.2.2.2.1 → WA Z 8 [some (.ref 18), some (.int x1), some (.int x2), some (.int x3), some (.int x4)] [] g := by
  intro n
  induction n with
  | zero => intro x4 g h; exact h.elim
  | succ n ih =>
    intro x4 g h
    rw [w_X6_lastState_8] at h
    refine wa_iload C dX6_lastState_8 rfl ?_
    refine wa_if_lt C (tgt := 46) dX6_lastState_10 (by decide) h (fun h => ?_) (fun h => ?_)
    · refine wa_iconst C (v := (-1)) dX6_lastState_46 (by decide) ?_
      exact wa_iret C hv rfl dX6_lastState_47 h
    · refine wa_aload_n C (i := 0) dX6_lastState_13 rfl rfl ?_
      refine wa_getR C (j := 8) lq_18 sh_18 rfl in_X6 (by decide) rfl f_X6_30 dX6_lastState_14 ?_
      refine wa_iload C dX6_lastState_17 rfl ?_
      refine wa_iald C lq_25 sh_25 dX6_lastState_19 h (fun v1 h => ?_)
      refine wa_iload_n C (i := 1) dX6_lastState_20 rfl rfl ?_
      refine fp_k0 (Q := WA Z 40 [some (.ref 18), some (.int x1), some (.int x2), some (.int x3), some (.int x4)] [] g) h (fun  h => ?_) (fun J40 hJ40 h => ?_)
      · refine wa_iinc C (i := 4) dX6_lastState_40 rfl (fp_incm1 _) (by rw [hn]; decide) rfl rfl ?_
        refine wa_goto C (tgt := 8) dX6_lastState_43 (by decide) ?_
        exact WA.weak (ih _ _ h) ⟨rfl, ⟨rfl, ⟨rfl, ⟨rfl, ⟨rfl, trivial⟩⟩⟩⟩⟩
      refine wa_icmp_ne C (tgt := 40) dX6_lastState_21 (by decide) h (fun h => ?_) (fun h => ?_)
      · refine wa_aload_n C (i := 0) dX6_lastState_24 rfl rfl ?_
        refine wa_getR C (j := 11) lq_18 sh_18 rfl in_X6 (by decide) rfl f_X6_39 dX6_lastState_25 ?_
        refine wa_iload C dX6_lastState_28 rfl ?_
        refine wa_iald C lq_28 sh_28 dX6_lastState_30 h (fun v2 h => ?_)
        refine wa_iload_n C (i := 3) dX6_lastState_31 rfl rfl ?_
        refine wa_iadd C dX6_lastState_32 ?_
        refine wa_iload_n C (i := 2) dX6_lastState_33 rfl rfl ?_
        refine wa_icmp_gt C (tgt := 40) dX6_lastState_34 (by decide) h (fun h => ?_) (fun h => ?_)
        · exact WA.weak (hJ40  h) ⟨rfl, ⟨rfl, ⟨rfl, ⟨rfl, ⟨rfl, trivial⟩⟩⟩⟩⟩
        · refine wa_iload C dX6_lastState_37 rfl ?_
          exact wa_iret C hv rfl dX6_lastState_39 h
      · exact WA.weak (hJ40  h) ⟨rfl, ⟨rfl, ⟨rfl, ⟨rfl, ⟨rfl, trivial⟩⟩⟩⟩⟩

set_option maxRecDepth 20000 in
theorem ok_X6_lastState {l : Launch} {E : fp_E} {x1 : Int32} {x2 : Int32} {x3 : Int32} {g : fp_G} {K : Int32 → fp_G → Prop} (h : w_X6_lastState x1 x2 x3 g K) : fp_M l E yX6_lastState cX6_lastState 5 ((Option.some Jvm.ClassFile.FieldType.int)) false 1 [.ref 18, .int x1, .int x2, .int x3] g K := by
  unfold w_X6_lastState at h
  refine fp_enter rfl [some (.ref 18), some (.int x1), some (.int x2), some (.int x3), none] (Nat.le_of_ble_eq_true rfl) (fun q hq => hq) (fun Z hE hl hv hK hn hd C => ?_)
  subst hE hl hK
  refine wa_aload_n C (i := 0) dX6_lastState_0 rfl rfl ?_
  refine wa_getI C (j := 12) lq_18 sh_18 rfl in_X6 (by decide) rfl f_X6_49 dX6_lastState_1 ?_
  refine wa_iconst C (v := 1) dX6_lastState_4 (by decide) ?_
  refine wa_isub C dX6_lastState_5 ?_
  refine wa_istore C (i := 4) dX6_lastState_6 (by rw [hn]; decide) rfl rfl ?_
  obtain ⟨n8, h⟩ := h
  exact WA.weak (ok_X6_lastState_8 C hv hn hd n8 _ _ h) ⟨rfl, ⟨rfl, ⟨rfl, ⟨rfl, ⟨rfl, trivial⟩⟩⟩⟩⟩

set_option maxRecDepth 20000 in
theorem ok_X6_stateBy {l : Launch} {E : fp_E} {x1 : Int32} {x2 : Int32} {x3 : Int32} {g : fp_G} {K : Int32 → fp_G → Prop} (h : w_X6_stateBy x1 x2 x3 g K) : fp_M l E yX6_stateBy cX6_stateBy 5 ((Option.some Jvm.ClassFile.FieldType.int)) false 2 [.ref 18, .int x1, .int x2, .int x3] g K := by
  unfold w_X6_stateBy at h
  refine fp_enter rfl [some (.ref 18), some (.int x1), some (.int x2), some (.int x3), none] (Nat.le_of_ble_eq_true rfl) (fun q hq => hq) (fun Z hE hl hv hK hn hd C => ?_)
  subst hE hl hK
  refine wa_aload_n C (i := 0) dX6_stateBy_0 rfl rfl ?_
  refine wa_iload_n C (i := 1) dX6_stateBy_1 rfl rfl ?_
  refine wa_iload_n C (i := 2) dX6_stateBy_2 rfl rfl ?_
  refine wa_iload_n C (i := 3) dX6_stateBy_3 rfl rfl ?_
  refine wa_callVi C lq_18 sh_18 rfl s_X6_52 i_X6_lastState e_X6_lastState dX6_stateBy_4 (ok_X6_lastState h) rfl rfl (Nat.le_of_ble_eq_true rfl) (by rw [hd]; decide) (fun v1 g1 h => ?_)
  refine wa_istore C (i := 4) dX6_stateBy_7 (by rw [hn]; decide) rfl rfl ?_
  refine wa_iload C dX6_stateBy_9 rfl ?_
  refine wa_if_ge C (tgt := 18) dX6_stateBy_11 (by decide) h (fun h => ?_) (fun h => ?_)
  · refine wa_aload_n C (i := 0) dX6_stateBy_18 rfl rfl ?_
    refine wa_getR C (j := 9) lq_18 sh_18 rfl in_X6 (by decide) rfl f_X6_33 dX6_stateBy_19 ?_
    refine wa_iload C dX6_stateBy_22 rfl ?_
    refine wa_iald C lq_26 sh_26 dX6_stateBy_24 h (fun v2 h => ?_)
    exact wa_iret C hv rfl dX6_stateBy_25 h
  · refine wa_iconst C (v := 0) dX6_stateBy_14 (by decide) ?_
    refine wa_goto C (tgt := 25) dX6_stateBy_15 (by decide) ?_
    exact wa_iret C hv rfl dX6_stateBy_25 h

set_option maxRecDepth 20000 in
theorem ok_X4_takeFacts {l : Launch} {E : fp_E} {c : Nat} (hc : fp_isC c) {x2 : Int32} {x3 : Int32} {g : fp_G} {K : Int32 → fp_G → Prop} (h : w_X4_takeFacts c x2 x3 g K) : fp_M l E yX4_takeFacts cX4_takeFacts 6 ((Option.none : Option Jvm.ClassFile.FieldType)) true 3 [.ref 2, .ref c, .int x2, .int x3] g K := by
  unfold w_X4_takeFacts at h
  refine fp_enter rfl [some (.ref 2), some (.ref c), some (.int x2), some (.int x3), none, none] (Nat.le_of_ble_eq_true rfl) (fun q hq => hq) (fun Z hE hl hv hK hn hd C => ?_)
  subst hE hl hK
  refine wa_aload_n C (i := 1) dX4_takeFacts_0 rfl rfl ?_
  refine wa_getR C (j := 1) (ltC0 hc) (shC hc) rfl in_X0 (by decide) rfl f_X4_82 dX4_takeFacts_1 ?_
  refine wa_iload_n C (i := 2) dX4_takeFacts_4 rfl rfl ?_
  refine wa_iald C (ltC hc (by decide)) (shC_2 hc) dX4_takeFacts_5 h (fun v1 h => ?_)
  refine wa_istore C (i := 4) dX4_takeFacts_6 (by rw [hn]; decide) rfl rfl ?_
  refine wa_aload_n C (i := 0) dX4_takeFacts_8 rfl rfl ?_
  refine wa_getR C (j := 3) lq_2 sh_2 rfl in_X4 (by decide) rfl f_X4_35 dX4_takeFacts_9 ?_
  refine wa_getR C (j := 2) lq_37 sh_37 rfl in_X1 (by decide) rfl f_X4_126 dX4_takeFacts_12 ?_
  refine wa_iload_n C (i := 2) dX4_takeFacts_15 rfl rfl ?_
  refine wa_iald C lq_40 sh_40 dX4_takeFacts_16 h (fun v2 h => ?_)
  refine wa_istore C (i := 5) dX4_takeFacts_17 (by rw [hn]; decide) rfl rfl ?_
  refine wa_aload_n C (i := 0) dX4_takeFacts_19 rfl rfl ?_
  refine wa_getR C (j := 6) lq_2 sh_2 rfl in_X4 (by decide) rfl f_X4_56 dX4_takeFacts_20 ?_
  refine wa_iconst C (v := 0) dX4_takeFacts_23 (by decide) ?_
  refine wa_aload_n C (i := 0) dX4_takeFacts_24 rfl rfl ?_
  refine wa_getR C (j := 3) lq_2 sh_2 rfl in_X4 (by decide) rfl f_X4_35 dX4_takeFacts_25 ?_
  refine wa_getR C (j := 0) lq_37 sh_37 rfl in_X1 (by decide) rfl f_X4_140 dX4_takeFacts_28 ?_
  refine wa_iload_n C (i := 2) dX4_takeFacts_31 rfl rfl ?_
  refine wa_iald C lq_38 sh_38 dX4_takeFacts_32 h (fun v3 h => ?_)
  refine wa_iast C lq_5 sh_5 dX4_takeFacts_33 h (fun g1 h => ?_)
  refine wa_aload_n C (i := 0) dX4_takeFacts_34 rfl rfl ?_
  refine wa_getR C (j := 6) lq_2 sh_2 rfl in_X4 (by decide) rfl f_X4_56 dX4_takeFacts_35 ?_
  refine wa_iconst C (v := 1) dX4_takeFacts_38 (by decide) ?_
  refine wa_aload_n C (i := 0) dX4_takeFacts_39 rfl rfl ?_
  refine wa_getR C (j := 3) lq_2 sh_2 rfl in_X4 (by decide) rfl f_X4_35 dX4_takeFacts_40 ?_
  refine wa_getR C (j := 3) lq_37 sh_37 rfl in_X1 (by decide) rfl f_X4_149 dX4_takeFacts_43 ?_
  refine wa_iload_n C (i := 2) dX4_takeFacts_46 rfl rfl ?_
  refine wa_iald C lq_41 sh_41 dX4_takeFacts_47 h (fun v4 h => ?_)
  refine wa_iast C lq_5 sh_5 dX4_takeFacts_48 h (fun g2 h => ?_)
  refine wa_aload_n C (i := 0) dX4_takeFacts_49 rfl rfl ?_
  refine wa_getR C (j := 6) lq_2 sh_2 rfl in_X4 (by decide) rfl f_X4_56 dX4_takeFacts_50 ?_
  refine wa_iconst C (v := 2) dX4_takeFacts_53 (by decide) ?_
  refine wa_iload_n C (i := 3) dX4_takeFacts_54 rfl rfl ?_
  refine wa_aload_n C (i := 0) dX4_takeFacts_55 rfl rfl ?_
  refine wa_getR C (j := 3) lq_2 sh_2 rfl in_X4 (by decide) rfl f_X4_35 dX4_takeFacts_56 ?_
  refine wa_getR C (j := 4) lq_37 sh_37 rfl in_X1 (by decide) rfl f_X4_146 dX4_takeFacts_59 ?_
  refine wa_iload_n C (i := 2) dX4_takeFacts_62 rfl rfl ?_
  refine wa_iald C lq_42 sh_42 dX4_takeFacts_63 h (fun v5 h => ?_)
  refine wa_isub C dX4_takeFacts_64 ?_
  refine wa_iast C lq_5 sh_5 dX4_takeFacts_65 h (fun g3 h => ?_)
  refine wa_aload_n C (i := 0) dX4_takeFacts_66 rfl rfl ?_
  refine wa_getR C (j := 6) lq_2 sh_2 rfl in_X4 (by decide) rfl f_X4_56 dX4_takeFacts_67 ?_
  refine wa_iconst C (v := 3) dX4_takeFacts_70 (by decide) ?_
  refine wa_iload_n C (i := 3) dX4_takeFacts_71 rfl rfl ?_
  refine wa_aload_n C (i := 1) dX4_takeFacts_72 rfl rfl ?_
  refine wa_getR C (j := 2) (ltC0 hc) (shC hc) rfl in_X0 (by decide) rfl f_X4_95 dX4_takeFacts_73 ?_
  refine wa_iload_n C (i := 2) dX4_takeFacts_76 rfl rfl ?_
  refine wa_iald C (ltC hc (by decide)) (shC_3 hc) dX4_takeFacts_77 h (fun v6 h => ?_)
  refine wa_isub C dX4_takeFacts_78 ?_
  refine wa_iast C lq_5 sh_5 dX4_takeFacts_79 h (fun g4 h => ?_)
  refine wa_aload_n C (i := 0) dX4_takeFacts_80 rfl rfl ?_
  refine wa_getR C (j := 6) lq_2 sh_2 rfl in_X4 (by decide) rfl f_X4_56 dX4_takeFacts_81 ?_
  refine wa_iconst C (v := 4) dX4_takeFacts_84 (by decide) ?_
  refine wa_aload_n C (i := 0) dX4_takeFacts_85 rfl rfl ?_
  refine wa_getR C (j := 1) lq_2 sh_2 rfl in_X4 (by decide) rfl f_X4_21 dX4_takeFacts_86 ?_
  refine wa_iload C dX4_takeFacts_89 rfl ?_
  refine wa_iload_n C (i := 3) dX4_takeFacts_91 rfl rfl ?_
  refine wa_aload_n C (i := 0) dX4_takeFacts_92 rfl rfl ?_
  refine wa_getR C (j := 0) lq_2 sh_2 rfl in_X4 (by decide) rfl f_X4_12 dX4_takeFacts_93 ?_
  refine wa_iload C dX4_takeFacts_96 rfl ?_
  refine wa_callVi C lq_6 sh_6 rfl s_X4_174 i_X2_lateAt e_X2_lateAt dX4_takeFacts_98 (ok_X2_lateAt h) rfl rfl (Nat.le_of_ble_eq_true rfl) (by rw [hd]; decide) (fun v7 g5 h => ?_)
  refine wa_callVi C lq_18 sh_18 rfl s_X4_194 i_X6_stateBy e_X6_stateBy dX4_takeFacts_101 (ok_X6_stateBy h) rfl rfl (Nat.le_of_ble_eq_true rfl) (by rw [hd]; decide) (fun v8 g6 h => ?_)
  refine wa_iast C lq_5 sh_5 dX4_takeFacts_104 h (fun g7 h => ?_)
  refine wa_aload_n C (i := 0) dX4_takeFacts_105 rfl rfl ?_
  refine wa_getR C (j := 6) lq_2 sh_2 rfl in_X4 (by decide) rfl f_X4_56 dX4_takeFacts_106 ?_
  refine wa_iconst C (v := 5) dX4_takeFacts_109 (by decide) ?_
  refine wa_aload_n C (i := 0) dX4_takeFacts_110 rfl rfl ?_
  refine wa_getR C (j := 1) lq_2 sh_2 rfl in_X4 (by decide) rfl f_X4_21 dX4_takeFacts_111 ?_
  refine wa_getR C (j := 5) lq_18 sh_18 rfl in_X6 (by decide) rfl f_X4_188 dX4_takeFacts_114 ?_
  refine wa_iload C dX4_takeFacts_117 rfl ?_
  refine wa_iald C lq_23 sh_23 dX4_takeFacts_119 h (fun v9 h => ?_)
  refine wa_iast C lq_5 sh_5 dX4_takeFacts_120 h (fun g8 h => ?_)
  refine wa_aload_n C (i := 0) dX4_takeFacts_121 rfl rfl ?_
  refine wa_getR C (j := 6) lq_2 sh_2 rfl in_X4 (by decide) rfl f_X4_56 dX4_takeFacts_122 ?_
  refine wa_bipush C (v := 6) dX4_takeFacts_125 (by decide) ?_
  refine wa_iload C dX4_takeFacts_127 rfl ?_
  refine wa_iast C lq_5 sh_5 dX4_takeFacts_129 h (fun g9 h => ?_)
  refine wa_aload_n C (i := 0) dX4_takeFacts_130 rfl rfl ?_
  refine wa_getR C (j := 6) lq_2 sh_2 rfl in_X4 (by decide) rfl f_X4_56 dX4_takeFacts_131 ?_
  refine wa_bipush C (v := 7) dX4_takeFacts_134 (by decide) ?_
  refine wa_aload_n C (i := 1) dX4_takeFacts_136 rfl rfl ?_
  refine wa_getR C (j := 3) (ltC0 hc) (shC hc) rfl in_X0 (by decide) rfl f_X4_115 dX4_takeFacts_137 ?_
  refine wa_iload_n C (i := 2) dX4_takeFacts_140 rfl rfl ?_
  refine wa_zald C (ltC hc (by decide)) (shC_4 hc) dX4_takeFacts_141 h (fun v10 h => ?_)
  refine fp_k1 (Q := fun z0j150 => WA Z 150 [some (.ref 2), some (.ref c), some (.int x2), none, none, none] [.int z0j150, .int 7, .ref 5] g9) h (fun z0j150 h => ?_) (fun J150 hJ150 h => ?_)
  · refine wa_iast C lq_5 sh_5 dX4_takeFacts_150 h (fun g10 h => ?_)
    refine wa_aload_n C (i := 0) dX4_takeFacts_151 rfl rfl ?_
    refine wa_getR C (j := 6) lq_2 sh_2 rfl in_X4 (by decide) rfl f_X4_56 dX4_takeFacts_152 ?_
    refine wa_bipush C (v := 8) dX4_takeFacts_155 (by decide) ?_
    refine wa_aload_n C (i := 1) dX4_takeFacts_157 rfl rfl ?_
    refine wa_getR C (j := 5) (ltC0 hc) (shC hc) rfl in_X0 (by decide) rfl f_X4_197 dX4_takeFacts_158 ?_
    refine wa_iload_n C (i := 2) dX4_takeFacts_161 rfl rfl ?_
    refine wa_iald C (ltC hc (by decide)) (shC_6 hc) dX4_takeFacts_162 h (fun v11 h => ?_)
    refine wa_iast C lq_5 sh_5 dX4_takeFacts_163 h (fun g11 h => ?_)
    exact wa_vret C hv rfl dX4_takeFacts_164 h
  refine wa_if_eq C (tgt := 149) dX4_takeFacts_142 (by decide) h (fun h => ?_) (fun h => ?_)
  · refine wa_iconst C (v := 0) dX4_takeFacts_149 (by decide) ?_
    exact WA.weak (hJ150 _ h) ⟨rfl, ⟨rfl, ⟨rfl, trivial⟩⟩⟩
  · refine wa_iconst C (v := 1) dX4_takeFacts_145 (by decide) ?_
    refine wa_goto C (tgt := 150) dX4_takeFacts_146 (by decide) ?_
    exact WA.weak (hJ150 _ h) ⟨rfl, ⟨rfl, ⟨rfl, trivial⟩⟩⟩

set_option maxRecDepth 20000 in
theorem ok_X4_purposeHolds {l : Launch} {E : fp_E} {x1 : Int32} {x2 : Int32} {x3 : Int32} {g : fp_G} {K : Int32 → fp_G → Prop} (h : w_X4_purposeHolds x1 x2 x3 g K) : fp_M l E yX4_purposeHolds cX4_purposeHolds 5 ((Option.some Jvm.ClassFile.FieldType.boolean)) false 4 [.ref 2, .int x1, .int x2, .int x3] g K := by
  unfold w_X4_purposeHolds at h
  refine fp_enter rfl [some (.ref 2), some (.int x1), some (.int x2), some (.int x3), none] (Nat.le_of_ble_eq_true rfl) (fun q hq => hq) (fun Z hE hl hv hK hn hd C => ?_)
  subst hE hl hK
  refine wa_aload_n C (i := 0) dX4_purposeHolds_0 rfl rfl ?_
  refine wa_getR C (j := 2) lq_2 sh_2 rfl in_X4 (by decide) rfl f_X4_28 dX4_purposeHolds_1 ?_
  refine wa_iload_n C (i := 1) dX4_purposeHolds_4 rfl rfl ?_
  refine wa_iload_n C (i := 3) dX4_purposeHolds_5 rfl rfl ?_
  refine wa_aload_n C (i := 0) dX4_purposeHolds_6 rfl rfl ?_
  refine wa_getR C (j := 0) lq_2 sh_2 rfl in_X4 (by decide) rfl f_X4_12 dX4_purposeHolds_7 ?_
  refine wa_iload_n C (i := 2) dX4_purposeHolds_10 rfl rfl ?_
  refine wa_callVi C lq_6 sh_6 rfl s_X4_174 i_X2_lateAt e_X2_lateAt dX4_purposeHolds_11 (ok_X2_lateAt h) rfl rfl (Nat.le_of_ble_eq_true rfl) (by rw [hd]; decide) (fun v1 g1 h => ?_)
  refine wa_callVi C lq_29 sh_29 rfl s_X4_200 i_X3_inForce e_X3_inForce dX4_purposeHolds_14 (ok_X3_inForce h) rfl rfl (Nat.le_of_ble_eq_true rfl) (by rw [hd]; decide) (fun v2 g2 h => ?_)
  refine wa_istore C (i := 4) dX4_purposeHolds_17 (by rw [hn]; decide) rfl rfl ?_
  refine wa_iload C dX4_purposeHolds_19 rfl ?_
  refine fp_j0 (Q := fun g3 => WA Z 44 [none, none, none, none, none] [] g3) h (fun g3 h => ?_) (fun J44 hJ44 h => ?_)
  · refine wa_iconst C (v := 0) dX4_purposeHolds_44 (by decide) ?_
    exact wa_zret C hv rfl rfl dX4_purposeHolds_45 h
  refine wa_if_lt C (tgt := 44) dX4_purposeHolds_21 (by decide) h (fun h => ?_) (fun h => ?_)
  · exact WA.weak (hJ44 _ h) trivial
  · refine wa_aload_n C (i := 0) dX4_purposeHolds_24 rfl rfl ?_
    refine wa_getR C (j := 2) lq_2 sh_2 rfl in_X4 (by decide) rfl f_X4_28 dX4_purposeHolds_25 ?_
    refine wa_iload C dX4_purposeHolds_28 rfl ?_
    refine wa_aload_n C (i := 0) dX4_purposeHolds_30 rfl rfl ?_
    refine wa_getR C (j := 6) lq_2 sh_2 rfl in_X4 (by decide) rfl f_X4_56 dX4_purposeHolds_31 ?_
    refine wa_callVi C lq_29 sh_29 rfl s_X4_203 i_X3_isTrue e_X3_isTrue dX4_purposeHolds_34 (ok_X3_isTrue h) rfl rfl (Nat.le_of_ble_eq_true rfl) (by rw [hd]; decide) (fun v3 g4 h => ?_)
    refine wa_if_eq C (tgt := 44) dX4_purposeHolds_37 (by decide) h (fun h => ?_) (fun h => ?_)
    · exact WA.weak (hJ44 _ h) trivial
    · refine wa_iconst C (v := 1) dX4_purposeHolds_40 (by decide) ?_
      refine wa_goto C (tgt := 45) dX4_purposeHolds_41 (by decide) ?_
      exact wa_zret C hv rfl rfl dX4_purposeHolds_45 h

set_option maxRecDepth 20000 in
theorem ok_X4_turnBack {l : Launch} {E : fp_E} {c : Nat} (hc : fp_isC c) {x2 : Int32} {x3 : Int32} {g : fp_G} {K : Int32 → fp_G → Prop} (h : w_X4_turnBack c x2 x3 g K) : fp_M l E yX4_turnBack cX4_turnBack 5 ((Option.none : Option Jvm.ClassFile.FieldType)) true 5 [.ref 2, .ref c, .int x2, .int x3] g K := by
  unfold w_X4_turnBack at h
  refine fp_enter rfl [some (.ref 2), some (.ref c), some (.int x2), some (.int x3), none] (Nat.le_of_ble_eq_true rfl) (fun q hq => hq) (fun Z hE hl hv hK hn hd C => ?_)
  subst hE hl hK
  refine wa_aload_n C (i := 1) dX4_turnBack_0 rfl rfl ?_
  refine wa_getR C (j := 3) (ltC0 hc) (shC hc) rfl in_X0 (by decide) rfl f_X4_115 dX4_turnBack_1 ?_
  refine wa_iload_n C (i := 2) dX4_turnBack_4 rfl rfl ?_
  refine wa_zald C (ltC hc (by decide)) (shC_4 hc) dX4_turnBack_5 h (fun v1 h => ?_)
  refine wa_if_eq C (tgt := 10) dX4_turnBack_6 (by decide) h (fun h => ?_) (fun h => ?_)
  · refine wa_aload_n C (i := 0) dX4_turnBack_10 rfl rfl ?_
    refine wa_getR C (j := 6) lq_2 sh_2 rfl in_X4 (by decide) rfl f_X4_56 dX4_turnBack_11 ?_
    refine wa_iconst C (v := 4) dX4_turnBack_14 (by decide) ?_
    refine wa_iald C lq_5 sh_5 dX4_turnBack_15 h (fun v2 h => ?_)
    refine wa_istore C (i := 4) dX4_turnBack_16 (by rw [hn]; decide) rfl rfl ?_
    refine wa_aload_n C (i := 0) dX4_turnBack_18 rfl rfl ?_
    refine wa_iconst C (v := 2) dX4_turnBack_19 (by decide) ?_
    refine wa_aload_n C (i := 1) dX4_turnBack_20 rfl rfl ?_
    refine wa_getR C (j := 1) (ltC0 hc) (shC hc) rfl in_X0 (by decide) rfl f_X4_82 dX4_turnBack_21 ?_
    refine wa_iload_n C (i := 2) dX4_turnBack_24 rfl rfl ?_
    refine wa_iald C (ltC hc (by decide)) (shC_2 hc) dX4_turnBack_25 h (fun v3 h => ?_)
    refine wa_iload_n C (i := 3) dX4_turnBack_26 rfl rfl ?_
    refine wa_callVi C lq_2 sh_2 rfl s_X4_101 i_X4_purposeHolds e_X4_purposeHolds dX4_turnBack_27 (ok_X4_purposeHolds h) rfl rfl (Nat.le_of_ble_eq_true rfl) (by rw [hd]; decide) (fun v4 g1 h => ?_)
    refine wa_if_eq C (tgt := 42) dX4_turnBack_30 (by decide) h (fun h => ?_) (fun h => ?_)
    · refine wa_iload C dX4_turnBack_42 rfl ?_
      refine wa_iconst C (v := 2) dX4_turnBack_44 (by decide) ?_
      refine fp_k0 (Q := WA Z 54 [none, some (.ref c), some (.int x2), none, some (.int v2)] [] g1) h (fun  h => ?_) (fun J54 hJ54 h => ?_)
      · refine wa_aload_n C (i := 1) dX4_turnBack_54 rfl rfl ?_
        refine wa_iload_n C (i := 2) dX4_turnBack_55 rfl rfl ?_
        refine wa_iload C dX4_turnBack_56 rfl ?_
        refine wa_callVv C (ltC0 hc) (shC hc) rfl s_X4_119 i_X0_turn e_X0_turn dX4_turnBack_58 (ok_X0_turn hc h) rfl rfl (Nat.le_of_ble_eq_true rfl) (by rw [hd]; decide) (fun g2 h => ?_)
        exact wa_vret C hv rfl dX4_turnBack_61 h
      refine wa_icmp_eq C (tgt := 54) dX4_turnBack_45 (by decide) h (fun h => ?_) (fun h => ?_)
      · exact WA.weak (hJ54  h) ⟨rfl, ⟨rfl, ⟨rfl, trivial⟩⟩⟩
      · refine wa_iload C dX4_turnBack_48 rfl ?_
        refine wa_iconst C (v := 3) dX4_turnBack_50 (by decide) ?_
        refine wa_icmp_ne C (tgt := 61) dX4_turnBack_51 (by decide) h (fun h => ?_) (fun h => ?_)
        · exact WA.weak (hJ54  h) ⟨rfl, ⟨rfl, ⟨rfl, trivial⟩⟩⟩
        · exact wa_vret C hv rfl dX4_turnBack_61 h
    · refine wa_aload_n C (i := 1) dX4_turnBack_33 rfl rfl ?_
      refine wa_iload_n C (i := 2) dX4_turnBack_34 rfl rfl ?_
      refine wa_iconst C (v := 4) dX4_turnBack_35 (by decide) ?_
      refine wa_callVv C (ltC0 hc) (shC hc) rfl s_X4_119 i_X0_turn e_X0_turn dX4_turnBack_36 (ok_X0_turn hc h) rfl rfl (Nat.le_of_ble_eq_true rfl) (by rw [hd]; decide) (fun g3 h => ?_)
      refine wa_goto C (tgt := 61) dX4_turnBack_39 (by decide) ?_
      exact wa_vret C hv rfl dX4_turnBack_61 h
  · exact wa_vret C hv rfl dX4_turnBack_9 h

set_option maxRecDepth 20000 in
theorem ok_X6_unitAt_10 {Z : fp_Z} (C : fp_C Z cX6_unitAt RX6 ((Option.some Jvm.ClassFile.FieldType.int))) (hv : fp_V Z false) (hn : Z.2.2.2.2.1 = 8) (hd : Z.2.2.2.2.2.1 = 1) {x1 : Int32} {x2 : Int32} {x3 : Int32} : ∀ (n : Nat) (x4 : Int32) (x5 : Int32) (x6 : Int32) (g : fp_G), w_X6_unitAt_10 n x1 x2 x3 x4 x5 x6 g Z.2.2.2.1 → WA Z 10 [some (.ref 18), some (.int x1), some (.int x2), some (.int x3), some (.int x4), some (.int x5), some (.int x6), none] [] g := by
  intro n
  induction n with
  | zero => intro x4 x5 x6 g h; exact h.elim
  | succ n ih =>
    intro x4 x5 x6 g h
    rw [w_X6_unitAt_10] at h
    refine wa_iload C dX6_unitAt_10 rfl ?_
    refine wa_aload_n C (i := 0) dX6_unitAt_12 rfl rfl ?_
    refine wa_getI C (j := 4) lq_18 sh_18 rfl in_X6 (by decide) rfl f_X6_46 dX6_unitAt_13 ?_
    refine wa_icmp_ge C (tgt := 102) dX6_unitAt_16 (by decide) h (fun h => ?_) (fun h => ?_)
    · refine wa_iload C dX6_unitAt_102 rfl ?_
      exact wa_iret C hv rfl dX6_unitAt_104 h
    · refine wa_aload_n C (i := 0) dX6_unitAt_19 rfl rfl ?_
      refine wa_getR C (j := 0) lq_18 sh_18 rfl in_X6 (by decide) rfl f_X6_9 dX6_unitAt_20 ?_
      refine wa_iload C dX6_unitAt_23 rfl ?_
      refine wa_iald C lq_19 sh_19 dX6_unitAt_25 h (fun v1 h => ?_)
      refine wa_iload_n C (i := 1) dX6_unitAt_26 rfl rfl ?_
      refine fp_k1 (Q := fun z0j59 => WA Z 59 [some (.ref 18), some (.int x1), some (.int x2), some (.int x3), some (.int x4), some (.int x5), some (.int x6), none] [.int z0j59] g) h (fun z0j59 h => ?_) (fun J59 hJ59 h => ?_)
      · refine wa_istore C (i := 7) dX6_unitAt_59 (by rw [hn]; decide) rfl rfl ?_
        refine wa_iload C dX6_unitAt_61 rfl ?_
        refine fp_k2 (Q := fun x4j96 x5j96 => WA Z 96 [some (.ref 18), some (.int x1), some (.int x2), some (.int x3), some (.int x4j96), some (.int x5j96), some (.int x6), none] [] g) h (fun x4j96 x5j96 h => ?_) (fun J96 hJ96 h => ?_)
        · refine wa_iinc C (i := 6) dX6_unitAt_96 rfl (fp_inc1 _) (by rw [hn]; decide) rfl rfl ?_
          refine wa_goto C (tgt := 10) dX6_unitAt_99 (by decide) ?_
          exact WA.weak (ih _ _ _ _ h) ⟨rfl, ⟨rfl, ⟨rfl, ⟨rfl, ⟨rfl, ⟨rfl, ⟨rfl, trivial⟩⟩⟩⟩⟩⟩⟩
        refine wa_if_eq C (tgt := 96) dX6_unitAt_63 (by decide) h (fun h => ?_) (fun h => ?_)
        · exact WA.weak (hJ96 _ _ h) ⟨rfl, ⟨rfl, ⟨rfl, ⟨rfl, ⟨rfl, ⟨rfl, ⟨rfl, trivial⟩⟩⟩⟩⟩⟩⟩
        · refine wa_aload_n C (i := 0) dX6_unitAt_66 rfl rfl ?_
          refine wa_getR C (j := 2) lq_18 sh_18 rfl in_X6 (by decide) rfl f_X6_18 dX6_unitAt_67 ?_
          refine wa_iload C dX6_unitAt_70 rfl ?_
          refine wa_iald C lq_21 sh_21 dX6_unitAt_72 h (fun v2 h => ?_)
          refine wa_iload C dX6_unitAt_73 rfl ?_
          refine wa_icmp_lt C (tgt := 96) dX6_unitAt_75 (by decide) h (fun h => ?_) (fun h => ?_)
          · exact WA.weak (hJ96 _ _ h) ⟨rfl, ⟨rfl, ⟨rfl, ⟨rfl, ⟨rfl, ⟨rfl, ⟨rfl, trivial⟩⟩⟩⟩⟩⟩⟩
          · refine wa_aload_n C (i := 0) dX6_unitAt_78 rfl rfl ?_
            refine wa_getR C (j := 2) lq_18 sh_18 rfl in_X6 (by decide) rfl f_X6_18 dX6_unitAt_79 ?_
            refine wa_iload C dX6_unitAt_82 rfl ?_
            refine wa_iald C lq_21 sh_21 dX6_unitAt_84 h (fun v3 h => ?_)
            refine wa_istore C (i := 5) dX6_unitAt_85 (by rw [hn]; decide) rfl rfl ?_
            refine wa_aload_n C (i := 0) dX6_unitAt_87 rfl rfl ?_
            refine wa_getR C (j := 1) lq_18 sh_18 rfl in_X6 (by decide) rfl f_X6_15 dX6_unitAt_88 ?_
            refine wa_iload C dX6_unitAt_91 rfl ?_
            refine wa_iald C lq_20 sh_20 dX6_unitAt_93 h (fun v4 h => ?_)
            refine wa_istore C (i := 4) dX6_unitAt_94 (by rw [hn]; decide) rfl rfl ?_
            exact WA.weak (hJ96 _ _ h) ⟨rfl, ⟨rfl, ⟨rfl, ⟨rfl, ⟨rfl, ⟨rfl, ⟨rfl, trivial⟩⟩⟩⟩⟩⟩⟩
      refine fp_k0 (Q := WA Z 58 [some (.ref 18), some (.int x1), some (.int x2), some (.int x3), some (.int x4), some (.int x5), some (.int x6), none] [] g) h (fun  h => ?_) (fun J58 hJ58 h => ?_)
      · refine wa_iconst C (v := 0) dX6_unitAt_58 (by decide) ?_
        exact WA.weak (hJ59 _ h) ⟨rfl, ⟨rfl, ⟨rfl, ⟨rfl, ⟨rfl, ⟨rfl, ⟨rfl, trivial⟩⟩⟩⟩⟩⟩⟩
      refine wa_icmp_ne C (tgt := 58) dX6_unitAt_27 (by decide) h (fun h => ?_) (fun h => ?_)
      · refine wa_aload_n C (i := 0) dX6_unitAt_30 rfl rfl ?_
        refine wa_getR C (j := 3) lq_18 sh_18 rfl in_X6 (by decide) rfl f_X6_21 dX6_unitAt_31 ?_
        refine wa_iload C dX6_unitAt_34 rfl ?_
        refine wa_iald C lq_22 sh_22 dX6_unitAt_36 h (fun v5 h => ?_)
        refine wa_iload_n C (i := 3) dX6_unitAt_37 rfl rfl ?_
        refine wa_iadd C dX6_unitAt_38 ?_
        refine wa_iload_n C (i := 2) dX6_unitAt_39 rfl rfl ?_
        refine wa_icmp_gt C (tgt := 58) dX6_unitAt_40 (by decide) h (fun h => ?_) (fun h => ?_)
        · exact WA.weak (hJ58  h) ⟨rfl, ⟨rfl, ⟨rfl, ⟨rfl, ⟨rfl, ⟨rfl, ⟨rfl, trivial⟩⟩⟩⟩⟩⟩⟩
        · refine wa_aload_n C (i := 0) dX6_unitAt_43 rfl rfl ?_
          refine wa_getR C (j := 2) lq_18 sh_18 rfl in_X6 (by decide) rfl f_X6_18 dX6_unitAt_44 ?_
          refine wa_iload C dX6_unitAt_47 rfl ?_
          refine wa_iald C lq_21 sh_21 dX6_unitAt_49 h (fun v6 h => ?_)
          refine wa_iload_n C (i := 2) dX6_unitAt_50 rfl rfl ?_
          refine wa_icmp_gt C (tgt := 58) dX6_unitAt_51 (by decide) h (fun h => ?_) (fun h => ?_)
          · exact WA.weak (hJ58  h) ⟨rfl, ⟨rfl, ⟨rfl, ⟨rfl, ⟨rfl, ⟨rfl, ⟨rfl, trivial⟩⟩⟩⟩⟩⟩⟩
          · refine wa_iconst C (v := 1) dX6_unitAt_54 (by decide) ?_
            refine wa_goto C (tgt := 59) dX6_unitAt_55 (by decide) ?_
            exact WA.weak (hJ59 _ h) ⟨rfl, ⟨rfl, ⟨rfl, ⟨rfl, ⟨rfl, ⟨rfl, ⟨rfl, trivial⟩⟩⟩⟩⟩⟩⟩
      · exact WA.weak (hJ58  h) ⟨rfl, ⟨rfl, ⟨rfl, ⟨rfl, ⟨rfl, ⟨rfl, ⟨rfl, trivial⟩⟩⟩⟩⟩⟩⟩

set_option maxRecDepth 20000 in
theorem ok_X6_unitAt {l : Launch} {E : fp_E} {x1 : Int32} {x2 : Int32} {x3 : Int32} {g : fp_G} {K : Int32 → fp_G → Prop} (h : w_X6_unitAt x1 x2 x3 g K) : fp_M l E yX6_unitAt cX6_unitAt 8 ((Option.some Jvm.ClassFile.FieldType.int)) false 1 [.ref 18, .int x1, .int x2, .int x3] g K := by
  unfold w_X6_unitAt at h
  refine fp_enter rfl [some (.ref 18), some (.int x1), some (.int x2), some (.int x3), none, none, none, none] (Nat.le_of_ble_eq_true rfl) (fun q hq => hq) (fun Z hE hl hv hK hn hd C => ?_)
  subst hE hl hK
  refine wa_bipush C (v := (-9)) dX6_unitAt_0 (by decide) ?_
  refine wa_istore C (i := 4) dX6_unitAt_2 (by rw [hn]; decide) rfl rfl ?_
  refine wa_iconst C (v := 0) dX6_unitAt_4 (by decide) ?_
  refine wa_istore C (i := 5) dX6_unitAt_5 (by rw [hn]; decide) rfl rfl ?_
  refine wa_iconst C (v := 0) dX6_unitAt_7 (by decide) ?_
  refine wa_istore C (i := 6) dX6_unitAt_8 (by rw [hn]; decide) rfl rfl ?_
  obtain ⟨n10, h⟩ := h
  exact WA.weak (ok_X6_unitAt_10 C hv hn hd n10 _ _ _ _ h) ⟨rfl, ⟨rfl, ⟨rfl, ⟨rfl, ⟨rfl, ⟨rfl, ⟨rfl, trivial⟩⟩⟩⟩⟩⟩⟩

set_option maxRecDepth 20000 in
theorem ok_X4_goalOf {l : Launch} {E : fp_E} {c : Nat} (hc : fp_isC c) {x2 : Int32} {x3 : Int32} {g : fp_G} {K : Int32 → fp_G → Prop} (h : w_X4_goalOf c x2 x3 g K) : fp_M l E yX4_goalOf cX4_goalOf 7 ((Option.some Jvm.ClassFile.FieldType.int)) false 3 [.ref 2, .ref c, .int x2, .int x3] g K := by
  unfold w_X4_goalOf at h
  refine fp_enter rfl [some (.ref 2), some (.ref c), some (.int x2), some (.int x3), none, none, none] (Nat.le_of_ble_eq_true rfl) (fun q hq => hq) (fun Z hE hl hv hK hn hd C => ?_)
  subst hE hl hK
  refine wa_aload_n C (i := 1) dX4_goalOf_0 rfl rfl ?_
  refine wa_getR C (j := 3) (ltC0 hc) (shC hc) rfl in_X0 (by decide) rfl f_X4_115 dX4_goalOf_1 ?_
  refine wa_iload_n C (i := 2) dX4_goalOf_4 rfl rfl ?_
  refine wa_zald C (ltC hc (by decide)) (shC_4 hc) dX4_goalOf_5 h (fun v1 h => ?_)
  refine wa_if_eq C (tgt := 19) dX4_goalOf_6 (by decide) h (fun h => ?_) (fun h => ?_)
  · refine wa_aload_n C (i := 0) dX4_goalOf_19 rfl rfl ?_
    refine wa_getR C (j := 3) lq_2 sh_2 rfl in_X4 (by decide) rfl f_X4_35 dX4_goalOf_20 ?_
    refine wa_getR C (j := 2) lq_37 sh_37 rfl in_X1 (by decide) rfl f_X4_126 dX4_goalOf_23 ?_
    refine wa_iload_n C (i := 2) dX4_goalOf_26 rfl rfl ?_
    refine wa_iald C lq_40 sh_40 dX4_goalOf_27 h (fun v2 h => ?_)
    refine wa_istore C (i := 4) dX4_goalOf_28 (by rw [hn]; decide) rfl rfl ?_
    refine wa_aload_n C (i := 0) dX4_goalOf_30 rfl rfl ?_
    refine wa_getR C (j := 0) lq_2 sh_2 rfl in_X4 (by decide) rfl f_X4_12 dX4_goalOf_31 ?_
    refine wa_aload_n C (i := 1) dX4_goalOf_34 rfl rfl ?_
    refine wa_getR C (j := 1) (ltC0 hc) (shC hc) rfl in_X0 (by decide) rfl f_X4_82 dX4_goalOf_35 ?_
    refine wa_iload_n C (i := 2) dX4_goalOf_38 rfl rfl ?_
    refine wa_iald C (ltC hc (by decide)) (shC_2 hc) dX4_goalOf_39 h (fun v3 h => ?_)
    refine wa_callVi C lq_6 sh_6 rfl s_X4_174 i_X2_lateAt e_X2_lateAt dX4_goalOf_40 (ok_X2_lateAt h) rfl rfl (Nat.le_of_ble_eq_true rfl) (by rw [hd]; decide) (fun v4 g1 h => ?_)
    refine wa_istore C (i := 5) dX4_goalOf_43 (by rw [hn]; decide) rfl rfl ?_
    refine wa_aload_n C (i := 0) dX4_goalOf_45 rfl rfl ?_
    refine wa_getR C (j := 1) lq_2 sh_2 rfl in_X4 (by decide) rfl f_X4_21 dX4_goalOf_46 ?_
    refine wa_iload C dX4_goalOf_49 rfl ?_
    refine wa_iload_n C (i := 3) dX4_goalOf_51 rfl rfl ?_
    refine wa_iload C dX4_goalOf_52 rfl ?_
    refine wa_callVi C lq_18 sh_18 rfl s_X4_178 i_X6_lastState e_X6_lastState dX4_goalOf_54 (ok_X6_lastState h) rfl rfl (Nat.le_of_ble_eq_true rfl) (by rw [hd]; decide) (fun v5 g2 h => ?_)
    refine wa_istore C (i := 6) dX4_goalOf_57 (by rw [hn]; decide) rfl rfl ?_
    refine wa_iload C dX4_goalOf_59 rfl ?_
    refine fp_k0 (Q := WA Z 89 [some (.ref 2), none, none, some (.int x3), some (.int v2), some (.int v4), none] [] g2) h (fun  h => ?_) (fun J89 hJ89 h => ?_)
    · refine wa_aload_n C (i := 0) dX4_goalOf_89 rfl rfl ?_
      refine wa_getR C (j := 1) lq_2 sh_2 rfl in_X4 (by decide) rfl f_X4_21 dX4_goalOf_90 ?_
      refine wa_aload_n C (i := 0) dX4_goalOf_93 rfl rfl ?_
      refine wa_getR C (j := 1) lq_2 sh_2 rfl in_X4 (by decide) rfl f_X4_21 dX4_goalOf_94 ?_
      refine wa_getR C (j := 5) lq_18 sh_18 rfl in_X6 (by decide) rfl f_X4_188 dX4_goalOf_97 ?_
      refine wa_iload C dX4_goalOf_100 rfl ?_
      refine wa_iald C lq_23 sh_23 dX4_goalOf_102 h (fun v6 h => ?_)
      refine wa_iload_n C (i := 3) dX4_goalOf_103 rfl rfl ?_
      refine wa_iload C dX4_goalOf_104 rfl ?_
      refine wa_callVi C lq_18 sh_18 rfl s_X4_191 i_X6_unitAt e_X6_unitAt dX4_goalOf_106 (ok_X6_unitAt h) rfl rfl (Nat.le_of_ble_eq_true rfl) (by rw [hd]; decide) (fun v7 g3 h => ?_)
      exact wa_iret C hv rfl dX4_goalOf_109 h
    refine wa_if_lt C (tgt := 89) dX4_goalOf_61 (by decide) h (fun h => ?_) (fun h => ?_)
    · exact WA.weak (hJ89  h) ⟨rfl, ⟨rfl, ⟨rfl, ⟨rfl, trivial⟩⟩⟩⟩
    · refine wa_aload_n C (i := 0) dX4_goalOf_64 rfl rfl ?_
      refine wa_getR C (j := 1) lq_2 sh_2 rfl in_X4 (by decide) rfl f_X4_21 dX4_goalOf_65 ?_
      refine wa_getR C (j := 9) lq_18 sh_18 rfl in_X6 (by decide) rfl f_X4_182 dX4_goalOf_68 ?_
      refine wa_iload C dX4_goalOf_71 rfl ?_
      refine wa_iald C lq_26 sh_26 dX4_goalOf_73 h (fun v8 h => ?_)
      refine wa_iconst C (v := 1) dX4_goalOf_74 (by decide) ?_
      refine wa_icmp_ne C (tgt := 89) dX4_goalOf_75 (by decide) h (fun h => ?_) (fun h => ?_)
      · refine wa_aload_n C (i := 0) dX4_goalOf_78 rfl rfl ?_
        refine wa_getR C (j := 1) lq_2 sh_2 rfl in_X4 (by decide) rfl f_X4_21 dX4_goalOf_79 ?_
        refine wa_getR C (j := 10) lq_18 sh_18 rfl in_X6 (by decide) rfl f_X4_185 dX4_goalOf_82 ?_
        refine wa_iload C dX4_goalOf_85 rfl ?_
        refine wa_iald C lq_27 sh_27 dX4_goalOf_87 h (fun v9 h => ?_)
        exact wa_iret C hv rfl dX4_goalOf_88 h
      · exact WA.weak (hJ89  h) ⟨rfl, ⟨rfl, ⟨rfl, ⟨rfl, trivial⟩⟩⟩⟩
  · refine wa_aload_n C (i := 0) dX4_goalOf_9 rfl rfl ?_
    refine wa_getR C (j := 3) lq_2 sh_2 rfl in_X4 (by decide) rfl f_X4_35 dX4_goalOf_10 ?_
    refine wa_getR C (j := 1) lq_37 sh_37 rfl in_X1 (by decide) rfl f_X4_171 dX4_goalOf_13 ?_
    refine wa_iload_n C (i := 2) dX4_goalOf_16 rfl rfl ?_
    refine wa_iald C lq_39 sh_39 dX4_goalOf_17 h (fun v10 h => ?_)
    exact wa_iret C hv rfl dX4_goalOf_18 h
