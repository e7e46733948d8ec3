set_option maxRecDepth 20000 in
theorem ok_X9_move {l : Launch} {E : fp_E} {x1 : Int32} {x2 : Int32} {x3 : Int32} {g : fp_G} {K : Int32 → fp_G → Prop} (h : w_X9_move x1 x2 x3 g K) : fp_M l E yX9_move cX9_move 5 ((Option.some Jvm.ClassFile.FieldType.int)) false 2 [.ref 67, .int x1, .int x2, .int x3] g K := by
  unfold w_X9_move at h
  refine fp_enter rfl [some (.ref 67), some (.int x1), some (.int x2), some (.int x3), none] (Nat.le_of_ble_eq_true rfl) (fun q hq => hq) (fun Z hE hl hv hK hn hd C => ?_)
  subst hE hl hK
  refine wa_iload_n C (i := 1) dX9_move_0 rfl rfl ?_
  refine wa_callSi C s_X9_223 t_X9_isUnit dX9_move_1 (ok_X9_isUnit h) rfl rfl (Nat.le_of_ble_eq_true rfl) (by rw [hd]; decide) (fun v1 g1 h => ?_)
  refine fp_j0 (Q := fun g2 => WA Z 15 [some (.ref 67), none, none, none, none] [] g2) h (fun g2 h => ?_) (fun J15 hJ15 h => ?_)
  · refine wa_aload_n C (i := 0) dX9_move_15 rfl rfl ?_
    refine wa_iconst C (v := (-1)) dX9_move_16 (by decide) ?_
    refine wa_callVi C lq_67 sh_67 rfl s_X9_192 i_X9_no e_X9_no dX9_move_17 (ok_X9_no h) rfl rfl (Nat.le_of_ble_eq_true rfl) (by rw [hd]; decide) (fun v2 g3 h => ?_)
    exact wa_iret C hv rfl dX9_move_20 h
  refine wa_if_eq C (tgt := 15) dX9_move_4 (by decide) h (fun h => ?_) (fun h => ?_)
  · exact WA.weak (hJ15 _ h) ⟨rfl, trivial⟩
  · refine wa_aload_n C (i := 0) dX9_move_7 rfl rfl ?_
    refine wa_iload_n C (i := 2) dX9_move_8 rfl rfl ?_
    refine wa_callVi C lq_67 sh_67 rfl s_X9_196 i_X9_isOffice e_X9_isOffice dX9_move_9 (ok_X9_isOffice h) rfl rfl (Nat.le_of_ble_eq_true rfl) (by rw [hd]; decide) (fun v3 g4 h => ?_)
    refine wa_if_ne C (tgt := 21) dX9_move_12 (by decide) h (fun h => ?_) (fun h => ?_)
    · exact WA.weak (hJ15 _ h) ⟨rfl, trivial⟩
    · refine wa_iload_n C (i := 3) dX9_move_21 rfl rfl ?_
      refine wa_aload_n C (i := 0) dX9_move_22 rfl rfl ?_
      refine wa_getI C (j := 15) lq_67 sh_67 rfl in_X9 (by decide) rfl f_X9_207 dX9_move_23 ?_
      refine fp_k1 (Q := fun z0j56 => WA Z 56 [some (.ref 67), some (.int x1), some (.int x2), some (.int x3), none] [.int z0j56] g4) h (fun z0j56 h => ?_) (fun J56 hJ56 h => ?_)
      · refine wa_istore C (i := 4) dX9_move_56 (by rw [hn]; decide) rfl rfl ?_
        refine wa_iload C dX9_move_58 rfl ?_
        refine wa_if_eq C (tgt := 70) dX9_move_60 (by decide) h (fun h => ?_) (fun h => ?_)
        · refine wa_aload_n C (i := 0) dX9_move_70 rfl rfl ?_
          refine wa_getR C (j := 16) lq_67 sh_67 rfl in_X9 (by decide) rfl f_X9_47 dX9_move_71 ?_
          refine wa_aload_n C (i := 0) dX9_move_74 rfl rfl ?_
          refine wa_getI C (j := 26) lq_67 sh_67 rfl in_X9 (by decide) rfl f_X9_226 dX9_move_75 ?_
          refine wa_iload_n C (i := 1) dX9_move_78 rfl rfl ?_
          refine wa_iast C lq_80 sh_80 dX9_move_79 h (fun g5 h => ?_)
          refine wa_aload_n C (i := 0) dX9_move_80 rfl rfl ?_
          refine wa_getR C (j := 17) lq_67 sh_67 rfl in_X9 (by decide) rfl f_X9_50 dX9_move_81 ?_
          refine wa_aload_n C (i := 0) dX9_move_84 rfl rfl ?_
          refine wa_getI C (j := 26) lq_67 sh_67 rfl in_X9 (by decide) rfl f_X9_226 dX9_move_85 ?_
          refine wa_iload_n C (i := 2) dX9_move_88 rfl rfl ?_
          refine wa_iast C lq_81 sh_81 dX9_move_89 h (fun g6 h => ?_)
          refine wa_aload_n C (i := 0) dX9_move_90 rfl rfl ?_
          refine wa_getR C (j := 18) lq_67 sh_67 rfl in_X9 (by decide) rfl f_X9_53 dX9_move_91 ?_
          refine wa_aload_n C (i := 0) dX9_move_94 rfl rfl ?_
          refine wa_getI C (j := 26) lq_67 sh_67 rfl in_X9 (by decide) rfl f_X9_226 dX9_move_95 ?_
          refine wa_iload_n C (i := 3) dX9_move_98 rfl rfl ?_
          refine wa_iast C lq_82 sh_82 dX9_move_99 h (fun g7 h => ?_)
          refine wa_aload_n C (i := 0) dX9_move_100 rfl rfl ?_
          refine wa_getR C (j := 19) lq_67 sh_67 rfl in_X9 (by decide) rfl f_X9_56 dX9_move_101 ?_
          refine wa_aload_n C (i := 0) dX9_move_104 rfl rfl ?_
          refine wa_getI C (j := 26) lq_67 sh_67 rfl in_X9 (by decide) rfl f_X9_226 dX9_move_105 ?_
          refine wa_aload_n C (i := 0) dX9_move_108 rfl rfl ?_
          refine wa_getI C (j := 15) lq_67 sh_67 rfl in_X9 (by decide) rfl f_X9_207 dX9_move_109 ?_
          refine wa_iast C lq_83 sh_83 dX9_move_112 h (fun g8 h => ?_)
          refine wa_aload_n C (i := 0) dX9_move_113 rfl rfl ?_
          refine wa_dup C dX9_move_114 rfl ?_
          refine wa_getI C (j := 26) lq_67 sh_67 rfl in_X9 (by decide) rfl f_X9_226 dX9_move_115 ?_
          refine wa_iconst C (v := 1) dX9_move_118 (by decide) ?_
          refine wa_iadd C dX9_move_119 ?_
          refine wa_putI C (j := 26) lq_67 sh_67 rfl in_X9 (by decide) tyX9 tyX9_ok nmX9 rfl rfl rfl f_X9_226 dX9_move_120 h (fun g9 h => ?_)
          refine wa_aload_n C (i := 0) dX9_move_123 rfl rfl ?_
          refine wa_getI C (j := 26) lq_67 sh_67 rfl in_X9 (by decide) rfl f_X9_226 dX9_move_124 ?_
          exact wa_iret C hv rfl dX9_move_127 h
        · refine wa_aload_n C (i := 0) dX9_move_63 rfl rfl ?_
          refine wa_iload C dX9_move_64 rfl ?_
          refine wa_callVi C lq_67 sh_67 rfl s_X9_192 i_X9_no e_X9_no dX9_move_66 (ok_X9_no h) rfl rfl (Nat.le_of_ble_eq_true rfl) (by rw [hd]; decide) (fun v4 g10 h => ?_)
          exact wa_iret C hv rfl dX9_move_69 h
      refine wa_icmp_ge C (tgt := 34) dX9_move_26 (by decide) h (fun h => ?_) (fun h => ?_)
      · refine wa_iload_n C (i := 3) dX9_move_34 rfl rfl ?_
        refine wa_sipush C (v := 2000) dX9_move_35 (by decide) ?_
        refine fp_k0 (Q := WA Z 50 [some (.ref 67), some (.int x1), some (.int x2), some (.int x3), none] [] g4) h (fun  h => ?_) (fun J50 hJ50 h => ?_)
        · refine wa_bipush C (v := (-6)) dX9_move_50 (by decide) ?_
          refine wa_goto C (tgt := 56) dX9_move_52 (by decide) ?_
          exact WA.weak (hJ56 _ h) ⟨rfl, ⟨rfl, ⟨rfl, ⟨rfl, trivial⟩⟩⟩⟩
        refine wa_icmp_gt C (tgt := 50) dX9_move_38 (by decide) h (fun h => ?_) (fun h => ?_)
        · exact WA.weak (hJ50  h) ⟨rfl, ⟨rfl, ⟨rfl, ⟨rfl, trivial⟩⟩⟩⟩
        · refine wa_aload_n C (i := 0) dX9_move_41 rfl rfl ?_
          refine wa_getI C (j := 26) lq_67 sh_67 rfl in_X9 (by decide) rfl f_X9_226 dX9_move_42 ?_
          refine wa_bipush C (v := 60) dX9_move_45 (by decide) ?_
          refine wa_icmp_ne C (tgt := 55) dX9_move_47 (by decide) h (fun h => ?_) (fun h => ?_)
          · exact WA.weak (hJ50  h) ⟨rfl, ⟨rfl, ⟨rfl, ⟨rfl, trivial⟩⟩⟩⟩
          · refine wa_iconst C (v := 0) dX9_move_55 (by decide) ?_
            exact WA.weak (hJ56 _ h) ⟨rfl, ⟨rfl, ⟨rfl, ⟨rfl, trivial⟩⟩⟩⟩
      · refine wa_bipush C (v := (-4)) dX9_move_29 (by decide) ?_
        refine wa_goto C (tgt := 56) dX9_move_31 (by decide) ?_
        exact WA.weak (hJ56 _ h) ⟨rfl, ⟨rfl, ⟨rfl, ⟨rfl, trivial⟩⟩⟩⟩

set_option maxRecDepth 20000 in
theorem ok_X9_unitAt_7 {Z : fp_Z} (C : fp_C Z cX9_unitAt RX9 ((Option.some Jvm.ClassFile.FieldType.int))) (hv : fp_V Z false) (hn : Z.2.2.2.2.1 = 6) (hd : Z.2.2.2.2.2.1 = 3) {x1 : Int32} {x2 : Int32} {x3 : Int32} : ∀ (n : Nat) (x4 : Int32) (x5 : Int32) (g : fp_G), w_X9_unitAt_7 n x1 x2 x3 x4 x5 g Z.2.2.2.1 → WA Z 7 [some (.ref 67), some (.int x1), some (.int x2), some (.int x3), some (.int x4), some (.int x5)] [] g := by
  intro n
  induction n with
  | zero => intro x4 x5 g h; exact h.elim
  | succ n ih =>
    intro x4 x5 g h
    rw [w_X9_unitAt_7] at h
    refine wa_iload C dX9_unitAt_7 rfl ?_
    refine wa_aload_n C (i := 0) dX9_unitAt_9 rfl rfl ?_
    refine wa_getI C (j := 26) lq_67 sh_67 rfl in_X9 (by decide) rfl f_X9_226 dX9_unitAt_10 ?_
    refine wa_icmp_ge C (tgt := 93) dX9_unitAt_13 (by decide) h (fun h => ?_) (fun h => ?_)
    · refine wa_iload C dX9_unitAt_93 rfl ?_
      refine wa_if_ge C (tgt := 103) dX9_unitAt_95 (by decide) h (fun h => ?_) (fun h => ?_)
      · refine wa_aload_n C (i := 0) dX9_unitAt_103 rfl rfl ?_
        refine wa_getR C (j := 17) lq_67 sh_67 rfl in_X9 (by decide) rfl f_X9_50 dX9_unitAt_104 ?_
        refine wa_iload C dX9_unitAt_107 rfl ?_
        refine wa_iald C lq_81 sh_81 dX9_unitAt_109 h (fun v1 h => ?_)
        exact wa_iret C hv rfl dX9_unitAt_110 h
      · refine wa_bipush C (v := (-9)) dX9_unitAt_98 (by decide) ?_
        refine wa_goto C (tgt := 110) dX9_unitAt_100 (by decide) ?_
        exact wa_iret C hv rfl dX9_unitAt_110 h
    · refine wa_aload_n C (i := 0) dX9_unitAt_16 rfl rfl ?_
      refine wa_getR C (j := 16) lq_67 sh_67 rfl in_X9 (by decide) rfl f_X9_47 dX9_unitAt_17 ?_
      refine wa_iload C dX9_unitAt_20 rfl ?_
      refine wa_iald C lq_80 sh_80 dX9_unitAt_22 h (fun v2 h => ?_)
      refine wa_iload_n C (i := 1) dX9_unitAt_23 rfl rfl ?_
      refine fp_j1 (Q := fun x4j87 g1 => WA Z 87 [some (.ref 67), some (.int x1), some (.int x2), some (.int x3), some (.int x4j87), some (.int x5)] [] g1) h (fun x4j87 g1 h => ?_) (fun J87 hJ87 h => ?_)
      · refine wa_iinc C (i := 5) dX9_unitAt_87 rfl (fp_inc1 _) (by rw [hn]; decide) rfl rfl ?_
        refine wa_goto C (tgt := 7) dX9_unitAt_90 (by decide) ?_
        exact WA.weak (ih _ _ _ h) ⟨rfl, ⟨rfl, ⟨rfl, ⟨rfl, ⟨rfl, ⟨rfl, trivial⟩⟩⟩⟩⟩⟩
      refine wa_icmp_ne C (tgt := 87) dX9_unitAt_24 (by decide) h (fun h => ?_) (fun h => ?_)
      · refine wa_aload_n C (i := 0) dX9_unitAt_27 rfl rfl ?_
        refine wa_getR C (j := 18) lq_67 sh_67 rfl in_X9 (by decide) rfl f_X9_53 dX9_unitAt_28 ?_
        refine wa_iload C dX9_unitAt_31 rfl ?_
        refine wa_iald C lq_82 sh_82 dX9_unitAt_33 h (fun v3 h => ?_)
        refine wa_iload_n C (i := 2) dX9_unitAt_34 rfl rfl ?_
        refine wa_icmp_gt C (tgt := 87) dX9_unitAt_35 (by decide) h (fun h => ?_) (fun h => ?_)
        · exact WA.weak (hJ87 _ _ h) ⟨rfl, ⟨rfl, ⟨rfl, ⟨rfl, ⟨rfl, ⟨rfl, trivial⟩⟩⟩⟩⟩⟩
        · refine wa_iload_n C (i := 3) dX9_unitAt_38 rfl rfl ?_
          refine fp_j0 (Q := fun g2 => WA Z 61 [some (.ref 67), some (.int x1), some (.int x2), some (.int x3), some (.int x4), some (.int x5)] [] g2) h (fun g2 h => ?_) (fun J61 hJ61 h => ?_)
          · refine wa_iload C dX9_unitAt_61 rfl ?_
            refine fp_k0 (Q := WA Z 83 [some (.ref 67), some (.int x1), some (.int x2), some (.int x3), none, some (.int x5)] [] g2) h (fun  h => ?_) (fun J83 hJ83 h => ?_)
            · refine wa_iload C dX9_unitAt_83 rfl ?_
              refine wa_istore C (i := 4) dX9_unitAt_85 (by rw [hn]; decide) rfl rfl ?_
              exact WA.weak (hJ87 _ _ h) ⟨rfl, ⟨rfl, ⟨rfl, ⟨rfl, ⟨rfl, ⟨rfl, trivial⟩⟩⟩⟩⟩⟩
            refine wa_if_lt C (tgt := 83) dX9_unitAt_63 (by decide) h (fun h => ?_) (fun h => ?_)
            · exact WA.weak (hJ83  h) ⟨rfl, ⟨rfl, ⟨rfl, ⟨rfl, ⟨rfl, trivial⟩⟩⟩⟩⟩
            · refine wa_aload_n C (i := 0) dX9_unitAt_66 rfl rfl ?_
              refine wa_getR C (j := 18) lq_67 sh_67 rfl in_X9 (by decide) rfl f_X9_53 dX9_unitAt_67 ?_
              refine wa_iload C dX9_unitAt_70 rfl ?_
              refine wa_iald C lq_82 sh_82 dX9_unitAt_72 h (fun v4 h => ?_)
              refine wa_aload_n C (i := 0) dX9_unitAt_73 rfl rfl ?_
              refine wa_getR C (j := 18) lq_67 sh_67 rfl in_X9 (by decide) rfl f_X9_53 dX9_unitAt_74 ?_
              refine wa_iload C dX9_unitAt_77 rfl ?_
              refine wa_iald C lq_82 sh_82 dX9_unitAt_79 h (fun v5 h => ?_)
              refine wa_icmp_lt C (tgt := 87) dX9_unitAt_80 (by decide) h (fun h => ?_) (fun h => ?_)
              · exact WA.weak (hJ87 _ _ h) ⟨rfl, ⟨rfl, ⟨rfl, ⟨rfl, ⟨rfl, ⟨rfl, trivial⟩⟩⟩⟩⟩⟩
              · exact WA.weak (hJ83  h) ⟨rfl, ⟨rfl, ⟨rfl, ⟨rfl, ⟨rfl, trivial⟩⟩⟩⟩⟩
          refine wa_if_lt C (tgt := 61) dX9_unitAt_39 (by decide) h (fun h => ?_) (fun h => ?_)
          · exact WA.weak (hJ61 _ h) ⟨rfl, ⟨rfl, ⟨rfl, ⟨rfl, ⟨rfl, ⟨rfl, trivial⟩⟩⟩⟩⟩⟩
          · refine wa_aload_n C (i := 0) dX9_unitAt_42 rfl rfl ?_
            refine wa_aload_n C (i := 0) dX9_unitAt_43 rfl rfl ?_
            refine wa_getR C (j := 19) lq_67 sh_67 rfl in_X9 (by decide) rfl f_X9_56 dX9_unitAt_44 ?_
            refine wa_iload C dX9_unitAt_47 rfl ?_
            refine wa_iald C lq_83 sh_83 dX9_unitAt_49 h (fun v6 h => ?_)
            refine wa_iload_n C (i := 3) dX9_unitAt_50 rfl rfl ?_
            refine wa_iload_n C (i := 2) dX9_unitAt_51 rfl rfl ?_
            refine wa_callVi C lq_67 sh_67 rfl s_X9_229 i_X9_isHeard e_X9_isHeard dX9_unitAt_52 (ok_X9_isHeard h) rfl rfl (Nat.le_of_ble_eq_true rfl) (by rw [hd]; decide) (fun v7 g3 h => ?_)
            refine wa_if_ne C (tgt := 61) dX9_unitAt_55 (by decide) h (fun h => ?_) (fun h => ?_)
            · refine wa_goto C (tgt := 87) dX9_unitAt_58 (by decide) ?_
              exact WA.weak (hJ87 _ _ h) ⟨rfl, ⟨rfl, ⟨rfl, ⟨rfl, ⟨rfl, ⟨rfl, trivial⟩⟩⟩⟩⟩⟩
            · exact WA.weak (hJ61 _ h) ⟨rfl, ⟨rfl, ⟨rfl, ⟨rfl, ⟨rfl, ⟨rfl, trivial⟩⟩⟩⟩⟩⟩
      · exact WA.weak (hJ87 _ _ h) ⟨rfl, ⟨rfl, ⟨rfl, ⟨rfl, ⟨rfl, ⟨rfl, trivial⟩⟩⟩⟩⟩⟩

set_option maxRecDepth 20000 in
theorem ok_X9_unitAt {l : Launch} {E : fp_E} {x1 : Int32} {x2 : Int32} {x3 : Int32} {g : fp_G} {K : Int32 → fp_G → Prop} (h : w_X9_unitAt x1 x2 x3 g K) : fp_M l E yX9_unitAt cX9_unitAt 6 ((Option.some Jvm.ClassFile.FieldType.int)) false 3 [.ref 67, .int x1, .int x2, .int x3] g K := by
  unfold w_X9_unitAt at h
  refine fp_enter rfl [some (.ref 67), some (.int x1), some (.int x2), some (.int x3), none, none] (Nat.le_of_ble_eq_true rfl) (fun q hq => hq) (fun Z hE hl hv hK hn hd C => ?_)
  subst hE hl hK
  refine wa_bipush C (v := (-9)) dX9_unitAt_0 (by decide) ?_
  refine wa_istore C (i := 4) dX9_unitAt_2 (by rw [hn]; decide) rfl rfl ?_
  refine wa_iconst C (v := 0) dX9_unitAt_4 (by decide) ?_
  refine wa_istore C (i := 5) dX9_unitAt_5 (by rw [hn]; decide) rfl rfl ?_
  obtain ⟨n7, h⟩ := h
  exact WA.weak (ok_X9_unitAt_7 C hv hn hd n7 _ _ _ h) ⟨rfl, ⟨rfl, ⟨rfl, ⟨rfl, ⟨rfl, ⟨rfl, trivial⟩⟩⟩⟩⟩⟩

set_option maxRecDepth 20000 in
theorem ok_X9_is {l : Launch} {E : fp_E} {x1 : Int32} {x2 : Int32} {g : fp_G} {K : Int32 → fp_G → Prop} (h : w_X9_is x1 x2 g K) : fp_M l E yX9_is cX9_is 4 ((Option.some Jvm.ClassFile.FieldType.int)) false 4 [.ref 67, .int x1, .int x2] g K := by
  unfold w_X9_is at h
  refine fp_enter rfl [some (.ref 67), some (.int x1), some (.int x2), none] (Nat.le_of_ble_eq_true rfl) (fun q hq => hq) (fun Z hE hl hv hK hn hd C => ?_)
  subst hE hl hK
  refine wa_iload_n C (i := 1) dX9_is_0 rfl rfl ?_
  refine wa_callSi C s_X9_223 t_X9_isUnit dX9_is_1 (ok_X9_isUnit h) rfl rfl (Nat.le_of_ble_eq_true rfl) (by rw [hd]; decide) (fun v1 g1 h => ?_)
  refine wa_if_ne C (tgt := 13) dX9_is_4 (by decide) h (fun h => ?_) (fun h => ?_)
  · refine wa_aload_n C (i := 0) dX9_is_7 rfl rfl ?_
    refine wa_iconst C (v := (-1)) dX9_is_8 (by decide) ?_
    refine wa_callVi C lq_67 sh_67 rfl s_X9_192 i_X9_no e_X9_no dX9_is_9 (ok_X9_no h) rfl rfl (Nat.le_of_ble_eq_true rfl) (by rw [hd]; decide) (fun v5 g5 h => ?_)
    exact wa_iret C hv rfl dX9_is_12 h
  · refine wa_iload_n C (i := 2) dX9_is_13 rfl rfl ?_
    refine wa_i2l C dX9_is_14 ?_
    refine wa_lconst C (v := 0) dX9_is_15 (by decide) ?_
    refine wa_ldc2 C (v := 2000) k_X9_233 dX9_is_16 ?_
    refine wa_callSi C s_X9_188 t_X9_out dX9_is_19 (ok_X9_out h) rfl rfl (Nat.le_of_ble_eq_true rfl) (by rw [hd]; decide) (fun v2 g2 h => ?_)
    refine wa_istore_n C (i := 3) dX9_is_22 rfl (by rw [hn]; decide) rfl rfl ?_
    refine wa_iload_n C (i := 3) dX9_is_23 rfl rfl ?_
    refine wa_if_eq C (tgt := 35) dX9_is_24 (by decide) h (fun h => ?_) (fun h => ?_)
    · refine wa_aload_n C (i := 0) dX9_is_35 rfl rfl ?_
      refine wa_iload_n C (i := 1) dX9_is_36 rfl rfl ?_
      refine wa_iload_n C (i := 2) dX9_is_37 rfl rfl ?_
      refine wa_iconst C (v := (-1)) dX9_is_38 (by decide) ?_
      refine wa_callVi C lq_67 sh_67 rfl s_X9_235 i_X9_unitAt e_X9_unitAt dX9_is_39 (ok_X9_unitAt h) rfl rfl (Nat.le_of_ble_eq_true rfl) (by rw [hd]; decide) (fun v3 g3 h => ?_)
      exact wa_iret C hv rfl dX9_is_42 h
    · refine wa_aload_n C (i := 0) dX9_is_27 rfl rfl ?_
      refine wa_iload_n C (i := 3) dX9_is_28 rfl rfl ?_
      refine wa_callVi C lq_67 sh_67 rfl s_X9_192 i_X9_no e_X9_no dX9_is_29 (ok_X9_no h) rfl rfl (Nat.le_of_ble_eq_true rfl) (by rw [hd]; decide) (fun v4 g4 h => ?_)
      refine wa_goto C (tgt := 42) dX9_is_32 (by decide) ?_
      exact wa_iret C hv rfl dX9_is_42 h

set_option maxRecDepth 20000 in
theorem ok_X9_list {l : Launch} {E : fp_E} {x1 : Int32} {x2 : Int32} {x3 : Int32} {g : fp_G} {K : Int32 → fp_G → Prop} (h : w_X9_list x1 x2 x3 g K) : fp_M l E yX9_list cX9_list 5 ((Option.some Jvm.ClassFile.FieldType.int)) false 4 [.ref 67, .int x1, .int x2, .int x3] g K := by
  unfold w_X9_list at h
  refine fp_enter rfl [some (.ref 67), some (.int x1), some (.int x2), some (.int x3), none] (Nat.le_of_ble_eq_true rfl) (fun q hq => hq) (fun Z hE hl hv hK hn hd C => ?_)
  subst hE hl hK
  refine wa_aload_n C (i := 0) dX9_list_0 rfl rfl ?_
  refine wa_iload_n C (i := 1) dX9_list_1 rfl rfl ?_
  refine wa_callVi C lq_67 sh_67 rfl s_X9_196 i_X9_isOffice e_X9_isOffice dX9_list_2 (ok_X9_isOffice h) rfl rfl (Nat.le_of_ble_eq_true rfl) (by rw [hd]; decide) (fun v1 g1 h => ?_)
  refine fp_j0 (Q := fun g2 => WA Z 15 [some (.ref 67), none, none, none, none] [] g2) h (fun g2 h => ?_) (fun J15 hJ15 h => ?_)
  · refine wa_aload_n C (i := 0) dX9_list_15 rfl rfl ?_
    refine wa_iconst C (v := (-1)) dX9_list_16 (by decide) ?_
    refine wa_callVi C lq_67 sh_67 rfl s_X9_192 i_X9_no e_X9_no dX9_list_17 (ok_X9_no h) rfl rfl (Nat.le_of_ble_eq_true rfl) (by rw [hd]; decide) (fun v2 g3 h => ?_)
    exact wa_iret C hv rfl dX9_list_20 h
  refine wa_if_eq C (tgt := 15) dX9_list_5 (by decide) h (fun h => ?_) (fun h => ?_)
  · exact WA.weak (hJ15 _ h) ⟨rfl, trivial⟩
  · refine wa_iload_n C (i := 2) dX9_list_8 rfl rfl ?_
    refine wa_callSi C s_X9_223 t_X9_isUnit dX9_list_9 (ok_X9_isUnit h) rfl rfl (Nat.le_of_ble_eq_true rfl) (by rw [hd]; decide) (fun v3 g4 h => ?_)
    refine wa_if_ne C (tgt := 21) dX9_list_12 (by decide) h (fun h => ?_) (fun h => ?_)
    · exact WA.weak (hJ15 _ h) ⟨rfl, trivial⟩
    · refine wa_iload_n C (i := 3) dX9_list_21 rfl rfl ?_
      refine wa_i2l C dX9_list_22 ?_
      refine wa_lconst C (v := 0) dX9_list_23 (by decide) ?_
      refine wa_ldc2 C (v := 2000) k_X9_233 dX9_list_24 ?_
      refine wa_callSi C s_X9_188 t_X9_out dX9_list_27 (ok_X9_out h) rfl rfl (Nat.le_of_ble_eq_true rfl) (by rw [hd]; decide) (fun v4 g5 h => ?_)
      refine wa_istore C (i := 4) dX9_list_30 (by rw [hn]; decide) rfl rfl ?_
      refine wa_iload C dX9_list_32 rfl ?_
      refine wa_if_eq C (tgt := 44) dX9_list_34 (by decide) h (fun h => ?_) (fun h => ?_)
      · refine wa_aload_n C (i := 0) dX9_list_44 rfl rfl ?_
        refine wa_callVv C lq_67 sh_67 rfl s_X9_214 i_X9_findFar e_X9_findFar dX9_list_45 (ok_X9_findFar h) rfl rfl (Nat.le_of_ble_eq_true rfl) (by rw [hd]; decide) (fun g6 h => ?_)
        refine wa_aload_n C (i := 0) dX9_list_48 rfl rfl ?_
        refine wa_iload_n C (i := 2) dX9_list_49 rfl rfl ?_
        refine wa_iload_n C (i := 3) dX9_list_50 rfl rfl ?_
        refine wa_iload_n C (i := 1) dX9_list_51 rfl rfl ?_
        refine wa_callVi C lq_67 sh_67 rfl s_X9_235 i_X9_unitAt e_X9_unitAt dX9_list_52 (ok_X9_unitAt h) rfl rfl (Nat.le_of_ble_eq_true rfl) (by rw [hd]; decide) (fun v6 g7 h => ?_)
        exact wa_iret C hv rfl dX9_list_55 h
      · refine wa_aload_n C (i := 0) dX9_list_37 rfl rfl ?_
        refine wa_iload C dX9_list_38 rfl ?_
        refine wa_callVi C lq_67 sh_67 rfl s_X9_192 i_X9_no e_X9_no dX9_list_40 (ok_X9_no h) rfl rfl (Nat.le_of_ble_eq_true rfl) (by rw [hd]; decide) (fun v7 g8 h => ?_)
        exact wa_iret C hv rfl dX9_list_43 h

set_option maxRecDepth 20000 in
theorem ok_X9_man {l : Launch} {E : fp_E} {x1 : Int32} {x2 : Int32} {g : fp_G} {K : Int32 → fp_G → Prop} (h : w_X9_man x1 x2 g K) : fp_M l E yX9_man cX9_man 4 ((Option.some Jvm.ClassFile.FieldType.int)) false 2 [.ref 67, .int x1, .int x2] g K := by
  unfold w_X9_man at h
  refine fp_enter rfl [some (.ref 67), some (.int x1), some (.int x2), none] (Nat.le_of_ble_eq_true rfl) (fun q hq => hq) (fun Z hE hl hv hK hn hd C => ?_)
  subst hE hl hK
  refine wa_iload_n C (i := 1) dX9_man_0 rfl rfl ?_
  refine wa_callSi C s_X9_223 t_X9_isUnit dX9_man_1 (ok_X9_isUnit h) rfl rfl (Nat.le_of_ble_eq_true rfl) (by rw [hd]; decide) (fun v1 g1 h => ?_)
  refine wa_if_ne C (tgt := 13) dX9_man_4 (by decide) h (fun h => ?_) (fun h => ?_)
  · refine wa_aload_n C (i := 0) dX9_man_7 rfl rfl ?_
    refine wa_iconst C (v := (-1)) dX9_man_8 (by decide) ?_
    refine wa_callVi C lq_67 sh_67 rfl s_X9_192 i_X9_no e_X9_no dX9_man_9 (ok_X9_no h) rfl rfl (Nat.le_of_ble_eq_true rfl) (by rw [hd]; decide) (fun v4 g7 h => ?_)
    exact wa_iret C hv rfl dX9_man_12 h
  · refine wa_iload_n C (i := 2) dX9_man_13 rfl rfl ?_
    refine wa_i2l C dX9_man_14 ?_
    refine wa_lconst C (v := 0) dX9_man_15 (by decide) ?_
    refine wa_ldc2 C (v := 9999) k_X9_239 dX9_man_16 ?_
    refine wa_callSi C s_X9_188 t_X9_out dX9_man_19 (ok_X9_out h) rfl rfl (Nat.le_of_ble_eq_true rfl) (by rw [hd]; decide) (fun v2 g2 h => ?_)
    refine wa_istore_n C (i := 3) dX9_man_22 rfl (by rw [hn]; decide) rfl rfl ?_
    refine wa_iload_n C (i := 3) dX9_man_23 rfl rfl ?_
    refine fp_k1 (Q := fun x3j39 => WA Z 39 [some (.ref 67), some (.int x1), some (.int x2), some (.int x3j39)] [] g2) h (fun x3j39 h => ?_) (fun J39 hJ39 h => ?_)
    · refine wa_iload_n C (i := 3) dX9_man_39 rfl rfl ?_
      refine wa_if_eq C (tgt := 49) dX9_man_40 (by decide) h (fun h => ?_) (fun h => ?_)
      · refine wa_aload_n C (i := 0) dX9_man_49 rfl rfl ?_
        refine wa_getR C (j := 20) lq_67 sh_67 rfl in_X9 (by decide) rfl f_X9_59 dX9_man_50 ?_
        refine wa_aload_n C (i := 0) dX9_man_53 rfl rfl ?_
        refine wa_getI C (j := 27) lq_67 sh_67 rfl in_X9 (by decide) rfl f_X9_220 dX9_man_54 ?_
        refine wa_iload_n C (i := 1) dX9_man_57 rfl rfl ?_
        refine wa_iast C lq_84 sh_84 dX9_man_58 h (fun g3 h => ?_)
        refine wa_aload_n C (i := 0) dX9_man_59 rfl rfl ?_
        refine wa_getR C (j := 21) lq_67 sh_67 rfl in_X9 (by decide) rfl f_X9_62 dX9_man_60 ?_
        refine wa_aload_n C (i := 0) dX9_man_63 rfl rfl ?_
        refine wa_getI C (j := 27) lq_67 sh_67 rfl in_X9 (by decide) rfl f_X9_220 dX9_man_64 ?_
        refine wa_iload_n C (i := 2) dX9_man_67 rfl rfl ?_
        refine wa_iast C lq_85 sh_85 dX9_man_68 h (fun g4 h => ?_)
        refine wa_aload_n C (i := 0) dX9_man_69 rfl rfl ?_
        refine wa_dup C dX9_man_70 rfl ?_
        refine wa_getI C (j := 27) lq_67 sh_67 rfl in_X9 (by decide) rfl f_X9_220 dX9_man_71 ?_
        refine wa_iconst C (v := 1) dX9_man_74 (by decide) ?_
        refine wa_iadd C dX9_man_75 ?_
        refine wa_putI C (j := 27) lq_67 sh_67 rfl in_X9 (by decide) tyX9 tyX9_ok nmX9 rfl rfl rfl f_X9_220 dX9_man_76 h (fun g5 h => ?_)
        refine wa_aload_n C (i := 0) dX9_man_79 rfl rfl ?_
        refine wa_getI C (j := 27) lq_67 sh_67 rfl in_X9 (by decide) rfl f_X9_220 dX9_man_80 ?_
        refine wa_iconst C (v := 1) dX9_man_83 (by decide) ?_
        refine wa_isub C dX9_man_84 ?_
        exact wa_iret C hv rfl dX9_man_85 h
      · refine wa_aload_n C (i := 0) dX9_man_43 rfl rfl ?_
        refine wa_iload_n C (i := 3) dX9_man_44 rfl rfl ?_
        refine wa_callVi C lq_67 sh_67 rfl s_X9_192 i_X9_no e_X9_no dX9_man_45 (ok_X9_no h) rfl rfl (Nat.le_of_ble_eq_true rfl) (by rw [hd]; decide) (fun v3 g6 h => ?_)
        exact wa_iret C hv rfl dX9_man_48 h
    refine wa_if_ne C (tgt := 39) dX9_man_24 (by decide) h (fun h => ?_) (fun h => ?_)
    · refine wa_aload_n C (i := 0) dX9_man_27 rfl rfl ?_
      refine wa_getI C (j := 27) lq_67 sh_67 rfl in_X9 (by decide) rfl f_X9_220 dX9_man_28 ?_
      refine wa_bipush C (v := 40) dX9_man_31 (by decide) ?_
      refine wa_icmp_ne C (tgt := 39) dX9_man_33 (by decide) h (fun h => ?_) (fun h => ?_)
      · refine wa_bipush C (v := (-6)) dX9_man_36 (by decide) ?_
        refine wa_istore_n C (i := 3) dX9_man_38 rfl (by rw [hn]; decide) rfl rfl ?_
        exact WA.weak (hJ39 _ h) ⟨rfl, ⟨rfl, ⟨rfl, ⟨rfl, trivial⟩⟩⟩⟩
      · exact WA.weak (hJ39 _ h) ⟨rfl, ⟨rfl, ⟨rfl, ⟨rfl, trivial⟩⟩⟩⟩
    · exact WA.weak (hJ39 _ h) ⟨rfl, ⟨rfl, ⟨rfl, ⟨rfl, trivial⟩⟩⟩⟩

set_option maxRecDepth 20000 in
theorem ok_X9_state {l : Launch} {E : fp_E} {x1 : Int32} {x2 : Int32} {x3 : Int32} {g : fp_G} {K : Int32 → fp_G → Prop} (h : w_X9_state x1 x2 x3 g K) : fp_M l E yX9_state cX9_state 4 ((Option.some Jvm.ClassFile.FieldType.int)) false 2 [.ref 67, .int x1, .int x2, .int x3] g K := by
  unfold w_X9_state at h
  refine fp_enter rfl [some (.ref 67), some (.int x1), some (.int x2), some (.int x3)] (Nat.le_of_ble_eq_true rfl) (fun q hq => hq) (fun Z hE hl hv hK hn hd C => ?_)
  subst hE hl hK
  refine wa_aload_n C (i := 0) dX9_state_0 rfl rfl ?_
  refine wa_iload_n C (i := 1) dX9_state_1 rfl rfl ?_
  refine wa_callVi C lq_67 sh_67 rfl s_X9_241 i_X9_isMan e_X9_isMan dX9_state_2 (ok_X9_isMan h) rfl rfl (Nat.le_of_ble_eq_true rfl) (by rw [hd]; decide) (fun v1 g1 h => ?_)
  refine fp_j0 (Q := fun g2 => WA Z 21 [some (.ref 67), none, none, none] [] g2) h (fun g2 h => ?_) (fun J21 hJ21 h => ?_)
  · refine wa_aload_n C (i := 0) dX9_state_21 rfl rfl ?_
    refine wa_iconst C (v := (-1)) dX9_state_22 (by decide) ?_
    refine wa_callVi C lq_67 sh_67 rfl s_X9_192 i_X9_no e_X9_no dX9_state_23 (ok_X9_no h) rfl rfl (Nat.le_of_ble_eq_true rfl) (by rw [hd]; decide) (fun v2 g3 h => ?_)
    exact wa_iret C hv rfl dX9_state_26 h
  refine wa_if_eq C (tgt := 21) dX9_state_5 (by decide) h (fun h => ?_) (fun h => ?_)
  · exact WA.weak (hJ21 _ h) ⟨rfl, trivial⟩
  · refine wa_iload_n C (i := 2) dX9_state_8 rfl rfl ?_
    refine wa_iconst C (v := 1) dX9_state_9 (by decide) ?_
    refine fp_j0 (Q := fun g4 => WA Z 27 [some (.ref 67), some (.int x1), some (.int x2), some (.int x3)] [] g4) h (fun g4 h => ?_) (fun J27 hJ27 h => ?_)
    · refine wa_iload_n C (i := 2) dX9_state_27 rfl rfl ?_
      refine wa_i2l C dX9_state_28 ?_
      refine wa_lconst C (v := 0) dX9_state_29 (by decide) ?_
      refine wa_ldc2 C (v := 3) k_X9_244 dX9_state_30 ?_
      refine wa_callSi C s_X9_203 t_X9_isIn dX9_state_33 (ok_X9_isIn h) rfl rfl (Nat.le_of_ble_eq_true rfl) (by rw [hd]; decide) (fun v3 g5 h => ?_)
      refine wa_if_ne C (tgt := 46) dX9_state_36 (by decide) h (fun h => ?_) (fun h => ?_)
      · refine wa_aload_n C (i := 0) dX9_state_39 rfl rfl ?_
        refine wa_bipush C (v := (-2)) dX9_state_40 (by decide) ?_
        refine wa_callVi C lq_67 sh_67 rfl s_X9_192 i_X9_no e_X9_no dX9_state_42 (ok_X9_no h) rfl rfl (Nat.le_of_ble_eq_true rfl) (by rw [hd]; decide) (fun v5 g12 h => ?_)
        exact wa_iret C hv rfl dX9_state_45 h
      · refine wa_aload_n C (i := 0) dX9_state_46 rfl rfl ?_
        refine wa_getI C (j := 28) lq_67 sh_67 rfl in_X9 (by decide) rfl f_X9_246 dX9_state_47 ?_
        refine wa_bipush C (v := 80) dX9_state_50 (by decide) ?_
        refine wa_icmp_ne C (tgt := 62) dX9_state_52 (by decide) h (fun h => ?_) (fun h => ?_)
        · refine wa_aload_n C (i := 0) dX9_state_55 rfl rfl ?_
          refine wa_bipush C (v := (-6)) dX9_state_56 (by decide) ?_
          refine wa_callVi C lq_67 sh_67 rfl s_X9_192 i_X9_no e_X9_no dX9_state_58 (ok_X9_no h) rfl rfl (Nat.le_of_ble_eq_true rfl) (by rw [hd]; decide) (fun v4 g11 h => ?_)
          exact wa_iret C hv rfl dX9_state_61 h
        · refine wa_aload_n C (i := 0) dX9_state_62 rfl rfl ?_
          refine wa_getR C (j := 22) lq_67 sh_67 rfl in_X9 (by decide) rfl f_X9_65 dX9_state_63 ?_
          refine wa_aload_n C (i := 0) dX9_state_66 rfl rfl ?_
          refine wa_getI C (j := 28) lq_67 sh_67 rfl in_X9 (by decide) rfl f_X9_246 dX9_state_67 ?_
          refine wa_iload_n C (i := 1) dX9_state_70 rfl rfl ?_
          refine wa_iast C lq_86 sh_86 dX9_state_71 h (fun g6 h => ?_)
          refine wa_aload_n C (i := 0) dX9_state_72 rfl rfl ?_
          refine wa_getR C (j := 23) lq_67 sh_67 rfl in_X9 (by decide) rfl f_X9_68 dX9_state_73 ?_
          refine wa_aload_n C (i := 0) dX9_state_76 rfl rfl ?_
          refine wa_getI C (j := 28) lq_67 sh_67 rfl in_X9 (by decide) rfl f_X9_246 dX9_state_77 ?_
          refine wa_iload_n C (i := 2) dX9_state_80 rfl rfl ?_
          refine wa_iast C lq_87 sh_87 dX9_state_81 h (fun g7 h => ?_)
          refine wa_aload_n C (i := 0) dX9_state_82 rfl rfl ?_
          refine wa_getR C (j := 24) lq_67 sh_67 rfl in_X9 (by decide) rfl f_X9_71 dX9_state_83 ?_
          refine wa_aload_n C (i := 0) dX9_state_86 rfl rfl ?_
          refine wa_getI C (j := 28) lq_67 sh_67 rfl in_X9 (by decide) rfl f_X9_246 dX9_state_87 ?_
          refine wa_iload_n C (i := 3) dX9_state_90 rfl rfl ?_
          refine wa_iast C lq_88 sh_88 dX9_state_91 h (fun g8 h => ?_)
          refine wa_aload_n C (i := 0) dX9_state_92 rfl rfl ?_
          refine wa_getR C (j := 25) lq_67 sh_67 rfl in_X9 (by decide) rfl f_X9_74 dX9_state_93 ?_
          refine wa_aload_n C (i := 0) dX9_state_96 rfl rfl ?_
          refine wa_getI C (j := 28) lq_67 sh_67 rfl in_X9 (by decide) rfl f_X9_246 dX9_state_97 ?_
          refine wa_aload_n C (i := 0) dX9_state_100 rfl rfl ?_
          refine wa_getI C (j := 15) lq_67 sh_67 rfl in_X9 (by decide) rfl f_X9_207 dX9_state_101 ?_
          refine wa_iast C lq_89 sh_89 dX9_state_104 h (fun g9 h => ?_)
          refine wa_aload_n C (i := 0) dX9_state_105 rfl rfl ?_
          refine wa_dup C dX9_state_106 rfl ?_
          refine wa_getI C (j := 28) lq_67 sh_67 rfl in_X9 (by decide) rfl f_X9_246 dX9_state_107 ?_
          refine wa_iconst C (v := 1) dX9_state_110 (by decide) ?_
          refine wa_iadd C dX9_state_111 ?_
          refine wa_putI C (j := 28) lq_67 sh_67 rfl in_X9 (by decide) tyX9 tyX9_ok nmX9 rfl rfl rfl f_X9_246 dX9_state_112 h (fun g10 h => ?_)
          refine wa_aload_n C (i := 0) dX9_state_115 rfl rfl ?_
          refine wa_getI C (j := 28) lq_67 sh_67 rfl in_X9 (by decide) rfl f_X9_246 dX9_state_116 ?_
          exact wa_iret C hv rfl dX9_state_119 h
    refine wa_icmp_ne C (tgt := 27) dX9_state_10 (by decide) h (fun h => ?_) (fun h => ?_)
    · refine wa_aload_n C (i := 0) dX9_state_13 rfl rfl ?_
      refine wa_iload_n C (i := 3) dX9_state_14 rfl rfl ?_
      refine wa_callVi C lq_67 sh_67 rfl s_X9_196 i_X9_isOffice e_X9_isOffice dX9_state_15 (ok_X9_isOffice h) rfl rfl (Nat.le_of_ble_eq_true rfl) (by rw [hd]; decide) (fun v6 g13 h => ?_)
      refine wa_if_ne C (tgt := 27) dX9_state_18 (by decide) h (fun h => ?_) (fun h => ?_)
      · exact WA.weak (hJ21 _ h) ⟨rfl, trivial⟩
      · exact WA.weak (hJ27 _ h) ⟨rfl, ⟨rfl, ⟨rfl, ⟨rfl, trivial⟩⟩⟩⟩
    · exact WA.weak (hJ27 _ h) ⟨rfl, ⟨rfl, ⟨rfl, ⟨rfl, trivial⟩⟩⟩⟩

set_option maxRecDepth 20000 in
theorem ok_X9_latest_7 {Z : fp_Z} (C : fp_C Z cX9_latest RX9 ((Option.some Jvm.ClassFile.FieldType.int))) (hv : fp_V Z false) (hn : Z.2.2.2.2.1 = 6) (hd : Z.2.2.2.2.2.1 = 3) {x1 : Int32} {x2 : Int32} {x3 : Int32} : ∀ (n : Nat) (x4 : Int32) (x5 : Int32) (g : fp_G), w_X9_latest_7 n x1 x2 x3 x4 x5 g Z.2.2.2.1 → WA Z 7 [some (.ref 67), some (.int x1), some (.int x2), some (.int x3), some (.int x4), some (.int x5)] [] g := by
  intro n
  induction n with
  | zero => intro x4 x5 g h; exact h.elim
  | succ n ih =>
    intro x4 x5 g h
    rw [w_X9_latest_7] at h
    refine wa_iload C dX9_latest_7 rfl ?_
    refine wa_aload_n C (i := 0) dX9_latest_9 rfl rfl ?_
    refine wa_getI C (j := 28) lq_67 sh_67 rfl in_X9 (by decide) rfl f_X9_246 dX9_latest_10 ?_
    refine wa_icmp_ge C (tgt := 58) dX9_latest_13 (by decide) h (fun h => ?_) (fun h => ?_)
    · refine wa_iload C dX9_latest_58 rfl ?_
      exact wa_iret C hv rfl dX9_latest_60 h
    · refine wa_aload_n C (i := 0) dX9_latest_16 rfl rfl ?_
      refine wa_getR C (j := 22) lq_67 sh_67 rfl in_X9 (by decide) rfl f_X9_65 dX9_latest_17 ?_
      refine wa_iload C dX9_latest_20 rfl ?_
      refine wa_iald C lq_86 sh_86 dX9_latest_22 h (fun v1 h => ?_)
      refine wa_iload_n C (i := 1) dX9_latest_23 rfl rfl ?_
      refine fp_j1 (Q := fun z0j50 g1 => WA Z 50 [some (.ref 67), some (.int x1), some (.int x2), some (.int x3), none, some (.int x5)] [.int z0j50] g1) h (fun z0j50 g1 h => ?_) (fun J50 hJ50 h => ?_)
      · refine wa_istore C (i := 4) dX9_latest_50 (by rw [hn]; decide) rfl rfl ?_
        refine wa_iinc C (i := 5) dX9_latest_52 rfl (fp_inc1 _) (by rw [hn]; decide) rfl rfl ?_
        refine wa_goto C (tgt := 7) dX9_latest_55 (by decide) ?_
        exact WA.weak (ih _ _ _ h) ⟨rfl, ⟨rfl, ⟨rfl, ⟨rfl, ⟨rfl, ⟨rfl, trivial⟩⟩⟩⟩⟩⟩
      refine fp_j0 (Q := fun g2 => WA Z 48 [some (.ref 67), some (.int x1), some (.int x2), some (.int x3), some (.int x4), some (.int x5)] [] g2) h (fun g2 h => ?_) (fun J48 hJ48 h => ?_)
      · refine wa_iload C dX9_latest_48 rfl ?_
        exact WA.weak (hJ50 _ _ h) ⟨rfl, ⟨rfl, ⟨rfl, ⟨rfl, ⟨rfl, trivial⟩⟩⟩⟩⟩
      refine wa_icmp_ne C (tgt := 48) dX9_latest_24 (by decide) h (fun h => ?_) (fun h => ?_)
      · refine wa_aload_n C (i := 0) dX9_latest_27 rfl rfl ?_
        refine wa_aload_n C (i := 0) dX9_latest_28 rfl rfl ?_
        refine wa_getR C (j := 25) lq_67 sh_67 rfl in_X9 (by decide) rfl f_X9_74 dX9_latest_29 ?_
        refine wa_iload C dX9_latest_32 rfl ?_
        refine wa_iald C lq_89 sh_89 dX9_latest_34 h (fun v2 h => ?_)
        refine wa_iload_n C (i := 3) dX9_latest_35 rfl rfl ?_
        refine wa_iload_n C (i := 2) dX9_latest_36 rfl rfl ?_
        refine wa_callVi C lq_67 sh_67 rfl s_X9_229 i_X9_isHeard e_X9_isHeard dX9_latest_37 (ok_X9_isHeard h) rfl rfl (Nat.le_of_ble_eq_true rfl) (by rw [hd]; decide) (fun v3 g3 h => ?_)
        refine wa_if_eq C (tgt := 48) dX9_latest_40 (by decide) h (fun h => ?_) (fun h => ?_)
        · exact WA.weak (hJ48 _ h) ⟨rfl, ⟨rfl, ⟨rfl, ⟨rfl, ⟨rfl, ⟨rfl, trivial⟩⟩⟩⟩⟩⟩
        · refine wa_iload C dX9_latest_43 rfl ?_
          refine wa_goto C (tgt := 50) dX9_latest_45 (by decide) ?_
          exact WA.weak (hJ50 _ _ h) ⟨rfl, ⟨rfl, ⟨rfl, ⟨rfl, ⟨rfl, trivial⟩⟩⟩⟩⟩
      · exact WA.weak (hJ48 _ h) ⟨rfl, ⟨rfl, ⟨rfl, ⟨rfl, ⟨rfl, ⟨rfl, trivial⟩⟩⟩⟩⟩⟩

set_option maxRecDepth 20000 in
theorem ok_X9_latest {l : Launch} {E : fp_E} {x1 : Int32} {x2 : Int32} {x3 : Int32} {g : fp_G} {K : Int32 → fp_G → Prop} (h : w_X9_latest x1 x2 x3 g K) : fp_M l E yX9_latest cX9_latest 6 ((Option.some Jvm.ClassFile.FieldType.int)) false 3 [.ref 67, .int x1, .int x2, .int x3] g K := by
  unfold w_X9_latest at h
  refine fp_enter rfl [some (.ref 67), some (.int x1), some (.int x2), some (.int x3), none, none] (Nat.le_of_ble_eq_true rfl) (fun q hq => hq) (fun Z hE hl hv hK hn hd C => ?_)
  subst hE hl hK
  refine wa_bipush C (v := (-9)) dX9_latest_0 (by decide) ?_
  refine wa_istore C (i := 4) dX9_latest_2 (by rw [hn]; decide) rfl rfl ?_
  refine wa_iconst C (v := 0) dX9_latest_4 (by decide) ?_
  refine wa_istore C (i := 5) dX9_latest_5 (by rw [hn]; decide) rfl rfl ?_
  obtain ⟨n7, h⟩ := h
  exact WA.weak (ok_X9_latest_7 C hv hn hd n7 _ _ _ h) ⟨rfl, ⟨rfl, ⟨rfl, ⟨rfl, ⟨rfl, ⟨rfl, trivial⟩⟩⟩⟩⟩⟩

set_option maxRecDepth 20000 in
theorem ok_X9_stateAt {l : Launch} {E : fp_E} {x1 : Int32} {x2 : Int32} {x3 : Int32} {g : fp_G} {K : Int32 → fp_G → Prop} (h : w_X9_stateAt x1 x2 x3 g K) : fp_M l E yX9_stateAt cX9_stateAt 5 ((Option.some Jvm.ClassFile.FieldType.int)) false 4 [.ref 67, .int x1, .int x2, .int x3] g K := by
  unfold w_X9_stateAt at h
  refine fp_enter rfl [some (.ref 67), some (.int x1), some (.int x2), some (.int x3), none] (Nat.le_of_ble_eq_true rfl) (fun q hq => hq) (fun Z hE hl hv hK hn hd C => ?_)
  subst hE hl hK
  refine wa_aload_n C (i := 0) dX9_stateAt_0 rfl rfl ?_
  refine wa_iload_n C (i := 1) dX9_stateAt_1 rfl rfl ?_
  refine wa_iload_n C (i := 2) dX9_stateAt_2 rfl rfl ?_
  refine wa_iload_n C (i := 3) dX9_stateAt_3 rfl rfl ?_
  refine wa_callVi C lq_67 sh_67 rfl s_X9_249 i_X9_latest e_X9_latest dX9_stateAt_4 (ok_X9_latest h) rfl rfl (Nat.le_of_ble_eq_true rfl) (by rw [hd]; decide) (fun v1 g1 h => ?_)
  refine wa_istore C (i := 4) dX9_stateAt_7 (by rw [hn]; decide) rfl rfl ?_
  refine wa_iload C dX9_stateAt_9 rfl ?_
  refine wa_if_ge C (tgt := 18) dX9_stateAt_11 (by decide) h (fun h => ?_) (fun h => ?_)
  · refine wa_aload_n C (i := 0) dX9_stateAt_18 rfl rfl ?_
    refine wa_getR C (j := 23) lq_67 sh_67 rfl in_X9 (by decide) rfl f_X9_68 dX9_stateAt_19 ?_
    refine wa_iload C dX9_stateAt_22 rfl ?_
    refine wa_iald C lq_87 sh_87 dX9_stateAt_24 h (fun v2 h => ?_)
    exact wa_iret C hv rfl dX9_stateAt_25 h
  · refine wa_iconst C (v := 0) dX9_stateAt_14 (by decide) ?_
    refine wa_goto C (tgt := 25) dX9_stateAt_15 (by decide) ?_
    exact wa_iret C hv rfl dX9_stateAt_25 h

set_option maxRecDepth 20000 in
theorem ok_X9_stateOf {l : Launch} {E : fp_E} {x1 : Int32} {x2 : Int32} {x3 : Int32} {g : fp_G} {K : Int32 → fp_G → Prop} (h : w_X9_stateOf x1 x2 x3 g K) : fp_M l E yX9_stateOf cX9_stateOf 5 ((Option.some Jvm.ClassFile.FieldType.int)) false 5 [.ref 67, .int x1, .int x2, .int x3] g K := by
  unfold w_X9_stateOf at h
  refine fp_enter rfl [some (.ref 67), some (.int x1), some (.int x2), some (.int x3), none] (Nat.le_of_ble_eq_true rfl) (fun q hq => hq) (fun Z hE hl hv hK hn hd C => ?_)
  subst hE hl hK
  refine wa_aload_n C (i := 0) dX9_stateOf_0 rfl rfl ?_
  refine wa_iload_n C (i := 1) dX9_stateOf_1 rfl rfl ?_
  refine wa_callVi C lq_67 sh_67 rfl s_X9_241 i_X9_isMan e_X9_isMan dX9_stateOf_2 (ok_X9_isMan h) rfl rfl (Nat.le_of_ble_eq_true rfl) (by rw [hd]; decide) (fun v1 g1 h => ?_)
  refine fp_j0 (Q := fun g2 => WA Z 21 [some (.ref 67), none, none, none, none] [] g2) h (fun g2 h => ?_) (fun J21 hJ21 h => ?_)
  · refine wa_aload_n C (i := 0) dX9_stateOf_21 rfl rfl ?_
    refine wa_iconst C (v := (-1)) dX9_stateOf_22 (by decide) ?_
    refine wa_callVi C lq_67 sh_67 rfl s_X9_192 i_X9_no e_X9_no dX9_stateOf_23 (ok_X9_no h) rfl rfl (Nat.le_of_ble_eq_true rfl) (by rw [hd]; decide) (fun v2 g3 h => ?_)
    exact wa_iret C hv rfl dX9_stateOf_26 h
  refine wa_if_eq C (tgt := 21) dX9_stateOf_5 (by decide) h (fun h => ?_) (fun h => ?_)
  · exact WA.weak (hJ21 _ h) ⟨rfl, trivial⟩
  · refine wa_iload_n C (i := 3) dX9_stateOf_8 rfl rfl ?_
    refine wa_iconst C (v := (-1)) dX9_stateOf_9 (by decide) ?_
    refine fp_j0 (Q := fun g4 => WA Z 27 [some (.ref 67), some (.int x1), some (.int x2), some (.int x3), none] [] g4) h (fun g4 h => ?_) (fun J27 hJ27 h => ?_)
    · refine wa_iload_n C (i := 2) dX9_stateOf_27 rfl rfl ?_
      refine wa_i2l C dX9_stateOf_28 ?_
      refine wa_lconst C (v := 0) dX9_stateOf_29 (by decide) ?_
      refine wa_ldc2 C (v := 2000) k_X9_233 dX9_stateOf_30 ?_
      refine wa_callSi C s_X9_188 t_X9_out dX9_stateOf_33 (ok_X9_out h) rfl rfl (Nat.le_of_ble_eq_true rfl) (by rw [hd]; decide) (fun v3 g5 h => ?_)
      refine wa_istore C (i := 4) dX9_stateOf_36 (by rw [hn]; decide) rfl rfl ?_
      refine wa_iload C dX9_stateOf_38 rfl ?_
      refine wa_if_eq C (tgt := 50) dX9_stateOf_40 (by decide) h (fun h => ?_) (fun h => ?_)
      · refine wa_aload_n C (i := 0) dX9_stateOf_50 rfl rfl ?_
        refine wa_callVv C lq_67 sh_67 rfl s_X9_214 i_X9_findFar e_X9_findFar dX9_stateOf_51 (ok_X9_findFar h) rfl rfl (Nat.le_of_ble_eq_true rfl) (by rw [hd]; decide) (fun g6 h => ?_)
        refine wa_aload_n C (i := 0) dX9_stateOf_54 rfl rfl ?_
        refine wa_iload_n C (i := 1) dX9_stateOf_55 rfl rfl ?_
        refine wa_iload_n C (i := 2) dX9_stateOf_56 rfl rfl ?_
        refine wa_iload_n C (i := 3) dX9_stateOf_57 rfl rfl ?_
        refine wa_callVi C lq_67 sh_67 rfl s_X9_252 i_X9_stateAt e_X9_stateAt dX9_stateOf_58 (ok_X9_stateAt h) rfl rfl (Nat.le_of_ble_eq_true rfl) (by rw [hd]; decide) (fun v5 g7 h => ?_)
        exact wa_iret C hv rfl dX9_stateOf_61 h
      · refine wa_aload_n C (i := 0) dX9_stateOf_43 rfl rfl ?_
        refine wa_iload C dX9_stateOf_44 rfl ?_
        refine wa_callVi C lq_67 sh_67 rfl s_X9_192 i_X9_no e_X9_no dX9_stateOf_46 (ok_X9_no h) rfl rfl (Nat.le_of_ble_eq_true rfl) (by rw [hd]; decide) (fun v6 g8 h => ?_)
        exact wa_iret C hv rfl dX9_stateOf_49 h
    refine wa_icmp_eq C (tgt := 27) dX9_stateOf_10 (by decide) h (fun h => ?_) (fun h => ?_)
    · exact WA.weak (hJ27 _ h) ⟨rfl, ⟨rfl, ⟨rfl, ⟨rfl, trivial⟩⟩⟩⟩
    · refine wa_aload_n C (i := 0) dX9_stateOf_13 rfl rfl ?_
      refine wa_iload_n C (i := 3) dX9_stateOf_14 rfl rfl ?_
      refine wa_callVi C lq_67 sh_67 rfl s_X9_196 i_X9_isOffice e_X9_isOffice dX9_stateOf_15 (ok_X9_isOffice h) rfl rfl (Nat.le_of_ble_eq_true rfl) (by rw [hd]; decide) (fun v7 g9 h => ?_)
      refine wa_if_ne C (tgt := 27) dX9_stateOf_18 (by decide) h (fun h => ?_) (fun h => ?_)
      · exact WA.weak (hJ21 _ h) ⟨rfl, trivial⟩
      · exact WA.weak (hJ27 _ h) ⟨rfl, ⟨rfl, ⟨rfl, ⟨rfl, trivial⟩⟩⟩⟩

set_option maxRecDepth 20000 in
theorem ok_X9_whereIs {l : Launch} {E : fp_E} {x1 : Int32} {x2 : Int32} {g : fp_G} {K : Int32 → fp_G → Prop} (h : w_X9_whereIs x1 x2 g K) : fp_M l E yX9_whereIs cX9_whereIs 5 ((Option.some Jvm.ClassFile.FieldType.int)) false 4 [.ref 67, .int x1, .int x2] g K := by
  unfold w_X9_whereIs at h
  refine fp_enter rfl [some (.ref 67), some (.int x1), some (.int x2), none, none] (Nat.le_of_ble_eq_true rfl) (fun q hq => hq) (fun Z hE hl hv hK hn hd C => ?_)
  subst hE hl hK
  refine wa_aload_n C (i := 0) dX9_whereIs_0 rfl rfl ?_
  refine wa_iload_n C (i := 1) dX9_whereIs_1 rfl rfl ?_
  refine wa_iload_n C (i := 2) dX9_whereIs_2 rfl rfl ?_
  refine wa_iconst C (v := (-1)) dX9_whereIs_3 (by decide) ?_
  refine wa_callVi C lq_67 sh_67 rfl s_X9_249 i_X9_latest e_X9_latest dX9_whereIs_4 (ok_X9_latest h) rfl rfl (Nat.le_of_ble_eq_true rfl) (by rw [hd]; decide) (fun v1 g1 h => ?_)
  refine wa_istore_n C (i := 3) dX9_whereIs_7 rfl (by rw [hn]; decide) rfl rfl ?_
  refine wa_iload_n C (i := 3) dX9_whereIs_8 rfl rfl ?_
  refine fp_k1 (Q := fun z0j22 => WA Z 22 [some (.ref 67), some (.int x1), some (.int x2), some (.int v1), none] [.int z0j22] g1) h (fun z0j22 h => ?_) (fun J22 hJ22 h => ?_)
  · refine wa_istore C (i := 4) dX9_whereIs_22 (by rw [hn]; decide) rfl rfl ?_
    refine wa_iload C dX9_whereIs_24 rfl ?_
    refine wa_if_ne C (tgt := 44) dX9_whereIs_26 (by decide) h (fun h => ?_) (fun h => ?_)
    · refine wa_aload_n C (i := 0) dX9_whereIs_29 rfl rfl ?_
      refine wa_aload_n C (i := 0) dX9_whereIs_30 rfl rfl ?_
      refine wa_getR C (j := 20) lq_67 sh_67 rfl in_X9 (by decide) rfl f_X9_59 dX9_whereIs_31 ?_
      refine wa_iload_n C (i := 1) dX9_whereIs_34 rfl rfl ?_
      refine wa_iald C lq_84 sh_84 dX9_whereIs_35 h (fun v3 h => ?_)
      refine wa_iload_n C (i := 2) dX9_whereIs_36 rfl rfl ?_
      refine wa_iconst C (v := (-1)) dX9_whereIs_37 (by decide) ?_
      refine wa_callVi C lq_67 sh_67 rfl s_X9_235 i_X9_unitAt e_X9_unitAt dX9_whereIs_38 (ok_X9_unitAt h) rfl rfl (Nat.le_of_ble_eq_true rfl) (by rw [hd]; decide) (fun v4 g2 h => ?_)
      refine wa_goto C (tgt := 61) dX9_whereIs_41 (by decide) ?_
      exact wa_iret C hv rfl dX9_whereIs_61 h
    · refine wa_iload C dX9_whereIs_44 rfl ?_
      refine wa_iconst C (v := 1) dX9_whereIs_46 (by decide) ?_
      refine wa_icmp_ne C (tgt := 59) dX9_whereIs_47 (by decide) h (fun h => ?_) (fun h => ?_)
      · refine wa_aload_n C (i := 0) dX9_whereIs_50 rfl rfl ?_
        refine wa_getR C (j := 24) lq_67 sh_67 rfl in_X9 (by decide) rfl f_X9_71 dX9_whereIs_51 ?_
        refine wa_iload_n C (i := 3) dX9_whereIs_54 rfl rfl ?_
        refine wa_iald C lq_88 sh_88 dX9_whereIs_55 h (fun v2 h => ?_)
        refine wa_goto C (tgt := 61) dX9_whereIs_56 (by decide) ?_
        exact wa_iret C hv rfl dX9_whereIs_61 h
      · refine wa_bipush C (v := (-9)) dX9_whereIs_59 (by decide) ?_
        exact wa_iret C hv rfl dX9_whereIs_61 h
  refine wa_if_ge C (tgt := 16) dX9_whereIs_9 (by decide) h (fun h => ?_) (fun h => ?_)
  · refine wa_aload_n C (i := 0) dX9_whereIs_16 rfl rfl ?_
    refine wa_getR C (j := 23) lq_67 sh_67 rfl in_X9 (by decide) rfl f_X9_68 dX9_whereIs_17 ?_
    refine wa_iload_n C (i := 3) dX9_whereIs_20 rfl rfl ?_
    refine wa_iald C lq_87 sh_87 dX9_whereIs_21 h (fun v5 h => ?_)
    exact WA.weak (hJ22 _ h) ⟨rfl, ⟨rfl, ⟨rfl, ⟨rfl, trivial⟩⟩⟩⟩
  · refine wa_iconst C (v := 0) dX9_whereIs_12 (by decide) ?_
    refine wa_goto C (tgt := 22) dX9_whereIs_13 (by decide) ?_
    exact WA.weak (hJ22 _ h) ⟨rfl, ⟨rfl, ⟨rfl, ⟨rfl, trivial⟩⟩⟩⟩

set_option maxRecDepth 20000 in
theorem ok_X9_manAt {l : Launch} {E : fp_E} {x1 : Int32} {g : fp_G} {K : Int32 → fp_G → Prop} (h : w_X9_manAt x1 g K) : fp_M l E yX9_manAt cX9_manAt 2 ((Option.some Jvm.ClassFile.FieldType.int)) false 5 [.ref 67, .int x1] g K := by
  unfold w_X9_manAt at h
  refine fp_enter rfl [some (.ref 67), some (.int x1)] (Nat.le_of_ble_eq_true rfl) (fun q hq => hq) (fun Z hE hl hv hK hn hd C => ?_)
  subst hE hl hK
  refine wa_aload_n C (i := 0) dX9_manAt_0 rfl rfl ?_
  refine wa_iload_n C (i := 1) dX9_manAt_1 rfl rfl ?_
  refine wa_callVi C lq_67 sh_67 rfl s_X9_241 i_X9_isMan e_X9_isMan dX9_manAt_2 (ok_X9_isMan h) rfl rfl (Nat.le_of_ble_eq_true rfl) (by rw [hd]; decide) (fun v1 g1 h => ?_)
  refine wa_if_eq C (tgt := 20) dX9_manAt_5 (by decide) h (fun h => ?_) (fun h => ?_)
  · refine wa_aload_n C (i := 0) dX9_manAt_20 rfl rfl ?_
    refine wa_iconst C (v := (-1)) dX9_manAt_21 (by decide) ?_
    refine wa_callVi C lq_67 sh_67 rfl s_X9_192 i_X9_no e_X9_no dX9_manAt_22 (ok_X9_no h) rfl rfl (Nat.le_of_ble_eq_true rfl) (by rw [hd]; decide) (fun v2 g2 h => ?_)
    exact wa_iret C hv rfl dX9_manAt_25 h
  · refine wa_aload_n C (i := 0) dX9_manAt_8 rfl rfl ?_
    refine wa_iload_n C (i := 1) dX9_manAt_9 rfl rfl ?_
    refine wa_aload_n C (i := 0) dX9_manAt_10 rfl rfl ?_
    refine wa_getI C (j := 15) lq_67 sh_67 rfl in_X9 (by decide) rfl f_X9_207 dX9_manAt_11 ?_
    refine wa_callVi C lq_67 sh_67 rfl s_X9_255 i_X9_whereIs e_X9_whereIs dX9_manAt_14 (ok_X9_whereIs h) rfl rfl (Nat.le_of_ble_eq_true rfl) (by rw [hd]; decide) (fun v3 g3 h => ?_)
    refine wa_goto C (tgt := 25) dX9_manAt_17 (by decide) ?_
    exact wa_iret C hv rfl dX9_manAt_25 h

set_option maxRecDepth 20000 in
theorem ok_X9_isMail {l : Launch} {E : fp_E} {x1 : Int32} {g : fp_G} {K : Int32 → fp_G → Prop} (h : w_X9_isMail x1 g K) : fp_M l E yX9_isMail cX9_isMail 2 ((Option.some Jvm.ClassFile.FieldType.boolean)) false 1 [.ref 67, .int x1] g K := by
  unfold w_X9_isMail at h
  refine fp_enter rfl [some (.ref 67), some (.int x1)] (Nat.le_of_ble_eq_true rfl) (fun q hq => hq) (fun Z hE hl hv hK hn hd C => ?_)
  subst hE hl hK
  refine wa_iload_n C (i := 1) dX9_isMail_0 rfl rfl ?_
  refine fp_k0 (Q := WA Z 16 [none, none] [] g) h (fun  h => ?_) (fun J16 hJ16 h => ?_)
  · refine wa_iconst C (v := 0) dX9_isMail_16 (by decide) ?_
    exact wa_zret C hv rfl rfl dX9_isMail_17 h
  refine wa_if_lt C (tgt := 16) dX9_isMail_1 (by decide) h (fun h => ?_) (fun h => ?_)
  · exact WA.weak (hJ16  h) trivial
  · refine wa_iload_n C (i := 1) dX9_isMail_4 rfl rfl ?_
    refine wa_aload_n C (i := 0) dX9_isMail_5 rfl rfl ?_
    refine wa_getI C (j := 42) lq_67 sh_67 rfl in_X9 (by decide) rfl f_X9_259 dX9_isMail_6 ?_
    refine wa_icmp_ge C (tgt := 16) dX9_isMail_9 (by decide) h (fun h => ?_) (fun h => ?_)
    · exact WA.weak (hJ16  h) trivial
    · refine wa_iconst C (v := 1) dX9_isMail_12 (by decide) ?_
      refine wa_goto C (tgt := 17) dX9_isMail_13 (by decide) ?_
      exact wa_zret C hv rfl rfl dX9_isMail_17 h

set_option maxRecDepth 20000 in
theorem ok_X9_comes {l : Launch} {E : fp_E} {x1 : Int32} {x2 : Int32} {x3 : Int32} {g : fp_G} {K : Int32 → fp_G → Prop} (h : w_X9_comes x1 x2 x3 g K) : fp_M l E yX9_comes cX9_comes 4 ((Option.none : Option Jvm.ClassFile.FieldType)) true 1 [.ref 67, .int x1, .int x2, .int x3] g K := by
  unfold w_X9_comes at h
  refine fp_enter rfl [some (.ref 67), some (.int x1), some (.int x2), some (.int x3)] (Nat.le_of_ble_eq_true rfl) (fun q hq => hq) (fun Z hE hl hv hK hn hd C => ?_)
  subst hE hl hK
  refine wa_aload_n C (i := 0) dX9_comes_0 rfl rfl ?_
  refine wa_getR C (j := 34) lq_67 sh_67 rfl in_X9 (by decide) rfl f_X9_92 dX9_comes_1 ?_
  refine wa_iload_n C (i := 1) dX9_comes_4 rfl rfl ?_
  refine wa_iconst C (v := 0) dX9_comes_5 (by decide) ?_
  refine wa_iast C lq_95 sh_95 dX9_comes_6 h (fun g1 h => ?_)
  refine wa_aload_n C (i := 0) dX9_comes_7 rfl rfl ?_
  refine wa_getR C (j := 35) lq_67 sh_67 rfl in_X9 (by decide) rfl f_X9_95 dX9_comes_8 ?_
  refine wa_iload_n C (i := 1) dX9_comes_11 rfl rfl ?_
  refine wa_iload_n C (i := 2) dX9_comes_12 rfl rfl ?_
  refine wa_iast C lq_96 sh_96 dX9_comes_13 h (fun g2 h => ?_)
  refine wa_aload_n C (i := 0) dX9_comes_14 rfl rfl ?_
  refine wa_getR C (j := 36) lq_67 sh_67 rfl in_X9 (by decide) rfl f_X9_98 dX9_comes_15 ?_
  refine wa_iload_n C (i := 1) dX9_comes_18 rfl rfl ?_
  refine wa_iload_n C (i := 3) dX9_comes_19 rfl rfl ?_
  refine wa_iast C lq_97 sh_97 dX9_comes_20 h (fun g3 h => ?_)
  refine wa_aload_n C (i := 0) dX9_comes_21 rfl rfl ?_
  refine wa_getR C (j := 38) lq_67 sh_67 rfl in_X9 (by decide) rfl f_X9_104 dX9_comes_22 ?_
  refine wa_iload_n C (i := 1) dX9_comes_25 rfl rfl ?_
  refine wa_iald C lq_99 sh_99 dX9_comes_26 h (fun v1 h => ?_)
  refine wa_bipush C (v := 40) dX9_comes_27 (by decide) ?_
  refine fp_j0 (Q := fun g4 => WA Z 49 [some (.ref 67), some (.int x1), none, none] [] g4) h (fun g4 h => ?_) (fun J49 hJ49 h => ?_)
  · refine wa_aload_n C (i := 0) dX9_comes_49 rfl rfl ?_
    refine wa_getR C (j := 38) lq_67 sh_67 rfl in_X9 (by decide) rfl f_X9_104 dX9_comes_50 ?_
    refine wa_iload_n C (i := 1) dX9_comes_53 rfl rfl ?_
    refine wa_dup2 C dX9_comes_54 rfl rfl ?_
    refine wa_iald C lq_99 sh_99 dX9_comes_55 h (fun v2 h => ?_)
    refine wa_iconst C (v := 1) dX9_comes_56 (by decide) ?_
    refine wa_iadd C dX9_comes_57 ?_
    refine wa_iast C lq_99 sh_99 dX9_comes_58 h (fun g5 h => ?_)
    exact wa_vret C hv rfl dX9_comes_59 h
  refine wa_icmp_ge C (tgt := 49) dX9_comes_29 (by decide) h (fun h => ?_) (fun h => ?_)
  · exact WA.weak (hJ49 _ h) ⟨rfl, ⟨rfl, trivial⟩⟩
  · refine wa_aload_n C (i := 0) dX9_comes_32 rfl rfl ?_
    refine wa_getR C (j := 39) lq_67 sh_67 rfl in_X9 (by decide) rfl f_X9_107 dX9_comes_33 ?_
    refine wa_bipush C (v := 40) dX9_comes_36 (by decide) ?_
    refine wa_iload_n C (i := 1) dX9_comes_38 rfl rfl ?_
    refine wa_imul C dX9_comes_39 ?_
    refine wa_aload_n C (i := 0) dX9_comes_40 rfl rfl ?_
    refine wa_getR C (j := 38) lq_67 sh_67 rfl in_X9 (by decide) rfl f_X9_104 dX9_comes_41 ?_
    refine wa_iload_n C (i := 1) dX9_comes_44 rfl rfl ?_
    refine wa_iald C lq_99 sh_99 dX9_comes_45 h (fun v3 h => ?_)
    refine wa_iadd C dX9_comes_46 ?_
    refine wa_iload_n C (i := 2) dX9_comes_47 rfl rfl ?_
    refine wa_iast C lq_100 sh_100 dX9_comes_48 h (fun g6 h => ?_)
    exact WA.weak (hJ49 _ h) ⟨rfl, ⟨rfl, trivial⟩⟩
