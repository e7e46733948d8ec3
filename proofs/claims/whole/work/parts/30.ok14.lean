set_option maxRecDepth 20000 in
theorem ok_X9_findBest_45 {Z : fp_Z} (C : fp_C Z cX9_findBest RX9 ((Option.none : Option Jvm.ClassFile.FieldType))) (hv : fp_V Z true) (hn : Z.2.2.2.2.1 = 5) (hd : Z.2.2.2.2.2.1 = 2) {x1 : Int32} {E94 : Int32 → Int32 → fp_G → Prop} (hE94 : ∀ y2 y3 g, E94 y2 y3 g → WA Z 94 [some (.ref 67), some (.int x1), some (.int y2), some (.int y3), none] [] g) : ∀ (n : Nat) (x2 : Int32) (x3 : Int32) (x4 : Int32) (g : fp_G), w_X9_findBest_45 n x1 x2 x3 x4 g Z.2.2.2.1 E94 → WA Z 45 [some (.ref 67), some (.int x1), some (.int x2), some (.int x3), some (.int x4)] [] g := by
  intro n
  induction n with
  | zero => intro x2 x3 x4 g h; exact h.elim
  | succ n ih =>
    intro x2 x3 x4 g h
    rw [w_X9_findBest_45] at h
    refine wa_iload C dX9_findBest_45 rfl ?_
    refine wa_aload_n C (i := 0) dX9_findBest_47 rfl rfl ?_
    refine wa_getI C (j := 72) lq_67 sh_67 rfl in_X9 (by decide) rfl f_X9_384 dX9_findBest_48 ?_
    refine wa_icmp_ge C (tgt := 94) dX9_findBest_51 (by decide) h (fun h => ?_) (fun h => ?_)
    · exact WA.weak (hE94 _ _ _ h) ⟨rfl, ⟨rfl, ⟨rfl, ⟨rfl, trivial⟩⟩⟩⟩
    · refine wa_iload_n C (i := 2) dX9_findBest_54 rfl rfl ?_
      refine wa_iload_n C (i := 1) dX9_findBest_55 rfl rfl ?_
      refine wa_iload C dX9_findBest_56 rfl ?_
      refine wa_ishr C dX9_findBest_58 ?_
      refine wa_iconst C (v := 1) dX9_findBest_59 (by decide) ?_
      refine wa_iand C dX9_findBest_60 ?_
      refine wa_aload_n C (i := 0) dX9_findBest_61 rfl rfl ?_
      refine wa_getR C (j := 70) lq_67 sh_67 rfl in_X9 (by decide) rfl f_X9_177 dX9_findBest_62 ?_
      refine wa_iload C dX9_findBest_65 rfl ?_
      refine wa_iald C lq_122 sh_122 dX9_findBest_67 h (fun v2 h => ?_)
      refine wa_imul C dX9_findBest_68 ?_
      refine wa_iadd C dX9_findBest_69 ?_
      refine wa_istore_n C (i := 2) dX9_findBest_70 rfl (by rw [hn]; decide) rfl rfl ?_
      refine wa_iload_n C (i := 3) dX9_findBest_71 rfl rfl ?_
      refine wa_iload_n C (i := 1) dX9_findBest_72 rfl rfl ?_
      refine wa_iload C dX9_findBest_73 rfl ?_
      refine wa_ishr C dX9_findBest_75 ?_
      refine wa_iconst C (v := 1) dX9_findBest_76 (by decide) ?_
      refine wa_iand C dX9_findBest_77 ?_
      refine wa_aload_n C (i := 0) dX9_findBest_78 rfl rfl ?_
      refine wa_getR C (j := 68) lq_67 sh_67 rfl in_X9 (by decide) rfl f_X9_171 dX9_findBest_79 ?_
      refine wa_iload C dX9_findBest_82 rfl ?_
      refine wa_iald C lq_120 sh_120 dX9_findBest_84 h (fun v3 h => ?_)
      refine wa_imul C dX9_findBest_85 ?_
      refine wa_iadd C dX9_findBest_86 ?_
      refine wa_istore_n C (i := 3) dX9_findBest_87 rfl (by rw [hn]; decide) rfl rfl ?_
      refine wa_iinc C (i := 4) dX9_findBest_88 rfl (fp_inc1 _) (by rw [hn]; decide) rfl rfl ?_
      refine wa_goto C (tgt := 45) dX9_findBest_91 (by decide) ?_
      exact WA.weak (ih _ _ _ _ h) ⟨rfl, ⟨rfl, ⟨rfl, ⟨rfl, ⟨rfl, trivial⟩⟩⟩⟩⟩

set_option maxRecDepth 20000 in
theorem ok_X9_findBest_17 {Z : fp_Z} (C : fp_C Z cX9_findBest RX9 ((Option.none : Option Jvm.ClassFile.FieldType))) (hv : fp_V Z true) (hn : Z.2.2.2.2.1 = 5) (hd : Z.2.2.2.2.2.1 = 2) : ∀ (n : Nat) (x1 : Int32) (g : fp_G), w_X9_findBest_17 n x1 g Z.2.2.2.1 → WA Z 17 [some (.ref 67), some (.int x1), none, none, none] [] g := by
  intro n
  induction n with
  | zero => intro x1 g h; exact h.elim
  | succ n ih =>
    intro x1 g h
    rw [w_X9_findBest_17] at h
    refine wa_iload_n C (i := 1) dX9_findBest_17 rfl rfl ?_
    refine wa_iconst C (v := 1) dX9_findBest_18 (by decide) ?_
    refine wa_aload_n C (i := 0) dX9_findBest_19 rfl rfl ?_
    refine wa_getI C (j := 72) lq_67 sh_67 rfl in_X9 (by decide) rfl f_X9_384 dX9_findBest_20 ?_
    refine wa_ishl C dX9_findBest_23 ?_
    refine wa_icmp_ge C (tgt := 142) dX9_findBest_24 (by decide) h (fun h => ?_) (fun h => ?_)
    · exact wa_vret C hv rfl dX9_findBest_142 h
    · refine wa_aload_n C (i := 0) dX9_findBest_27 rfl rfl ?_
      refine wa_iload_n C (i := 1) dX9_findBest_28 rfl rfl ?_
      refine wa_callVi C lq_67 sh_67 rfl s_X9_396 i_X9_canBe e_X9_canBe dX9_findBest_29 (ok_X9_canBe h) rfl rfl (Nat.le_of_ble_eq_true rfl) (by rw [hd]; decide) (fun v1 g4 h => ?_)
      refine fp_j0 (Q := fun g5 => WA Z 136 [some (.ref 67), some (.int x1), none, none, none] [] g5) h (fun g5 h => ?_) (fun J136 hJ136 h => ?_)
      · refine wa_iinc C (i := 1) dX9_findBest_136 rfl (fp_inc1 _) (by rw [hn]; decide) rfl rfl ?_
        refine wa_goto C (tgt := 17) dX9_findBest_139 (by decide) ?_
        exact WA.weak (ih _ _ h) ⟨rfl, ⟨rfl, trivial⟩⟩
      refine wa_if_ne C (tgt := 38) dX9_findBest_32 (by decide) h (fun h => ?_) (fun h => ?_)
      · refine wa_goto C (tgt := 136) dX9_findBest_35 (by decide) ?_
        exact WA.weak (hJ136 _ h) ⟨rfl, ⟨rfl, trivial⟩⟩
      · refine wa_iconst C (v := 0) dX9_findBest_38 (by decide) ?_
        refine wa_istore_n C (i := 2) dX9_findBest_39 rfl (by rw [hn]; decide) rfl rfl ?_
        refine wa_iconst C (v := 0) dX9_findBest_40 (by decide) ?_
        refine wa_istore_n C (i := 3) dX9_findBest_41 rfl (by rw [hn]; decide) rfl rfl ?_
        refine wa_iconst C (v := 0) dX9_findBest_42 (by decide) ?_
        refine wa_istore C (i := 4) dX9_findBest_43 (by rw [hn]; decide) rfl rfl ?_
        obtain ⟨n45, h⟩ := h
        refine WA.weak (ok_X9_findBest_45 C hv hn hd (fun v4 v5 g6 h => ?_) n45 _ _ _ _ h) ⟨rfl, ⟨rfl, ⟨rfl, ⟨rfl, ⟨rfl, trivial⟩⟩⟩⟩⟩
        · refine wa_iload_n C (i := 2) dX9_findBest_94 rfl rfl ?_
          refine wa_aload_n C (i := 0) dX9_findBest_95 rfl rfl ?_
          refine wa_getI C (j := 75) lq_67 sh_67 rfl in_X9 (by decide) rfl f_X9_390 dX9_findBest_96 ?_
          refine wa_icmp_lt C (tgt := 136) dX9_findBest_99 (by decide) h (fun h => ?_) (fun h => ?_)
          · exact WA.weak (hJ136 _ h) ⟨rfl, ⟨rfl, trivial⟩⟩
          · refine wa_iload_n C (i := 2) dX9_findBest_102 rfl rfl ?_
            refine wa_aload_n C (i := 0) dX9_findBest_103 rfl rfl ?_
            refine wa_getI C (j := 75) lq_67 sh_67 rfl in_X9 (by decide) rfl f_X9_390 dX9_findBest_104 ?_
            refine fp_k0 (Q := WA Z 121 [some (.ref 67), some (.int x1), some (.int v4), some (.int v5), none] [] g6) h (fun  h => ?_) (fun J121 hJ121 h => ?_)
            · refine wa_aload_n C (i := 0) dX9_findBest_121 rfl rfl ?_
              refine wa_iload_n C (i := 1) dX9_findBest_122 rfl rfl ?_
              refine wa_putI C (j := 74) lq_67 sh_67 rfl in_X9 (by decide) tyX9 tyX9_ok nmX9 rfl rfl rfl f_X9_387 dX9_findBest_123 h (fun g7 h => ?_)
              refine wa_aload_n C (i := 0) dX9_findBest_126 rfl rfl ?_
              refine wa_iload_n C (i := 2) dX9_findBest_127 rfl rfl ?_
              refine wa_putI C (j := 75) lq_67 sh_67 rfl in_X9 (by decide) tyX9 tyX9_ok nmX9 rfl rfl rfl f_X9_390 dX9_findBest_128 h (fun g8 h => ?_)
              refine wa_aload_n C (i := 0) dX9_findBest_131 rfl rfl ?_
              refine wa_iload_n C (i := 3) dX9_findBest_132 rfl rfl ?_
              refine wa_putI C (j := 76) lq_67 sh_67 rfl in_X9 (by decide) tyX9 tyX9_ok nmX9 rfl rfl rfl f_X9_393 dX9_findBest_133 h (fun g9 h => ?_)
              exact WA.weak (hJ136 _ h) ⟨rfl, ⟨rfl, trivial⟩⟩
            refine wa_icmp_ne C (tgt := 121) dX9_findBest_107 (by decide) h (fun h => ?_) (fun h => ?_)
            · refine wa_iload_n C (i := 3) dX9_findBest_110 rfl rfl ?_
              refine wa_aload_n C (i := 0) dX9_findBest_111 rfl rfl ?_
              refine wa_getI C (j := 76) lq_67 sh_67 rfl in_X9 (by decide) rfl f_X9_393 dX9_findBest_112 ?_
              refine wa_icmp_lt C (tgt := 121) dX9_findBest_115 (by decide) h (fun h => ?_) (fun h => ?_)
              · exact WA.weak (hJ121  h) ⟨rfl, ⟨rfl, ⟨rfl, ⟨rfl, trivial⟩⟩⟩⟩
              · refine wa_goto C (tgt := 136) dX9_findBest_118 (by decide) ?_
                exact WA.weak (hJ136 _ h) ⟨rfl, ⟨rfl, trivial⟩⟩
            · exact WA.weak (hJ121  h) ⟨rfl, ⟨rfl, ⟨rfl, ⟨rfl, trivial⟩⟩⟩⟩

set_option maxRecDepth 20000 in
theorem ok_X9_findBest {l : Launch} {E : fp_E} {g : fp_G} {K : Int32 → fp_G → Prop} (h : w_X9_findBest  g K) : fp_M l E yX9_findBest cX9_findBest 5 ((Option.none : Option Jvm.ClassFile.FieldType)) true 2 [.ref 67] g K := by
  unfold w_X9_findBest at h
  refine fp_enter rfl [some (.ref 67), none, none, none, none] (Nat.le_of_ble_eq_true rfl) (fun q hq => hq) (fun Z hE hl hv hK hn hd C => ?_)
  subst hE hl hK
  refine wa_aload_n C (i := 0) dX9_findBest_0 rfl rfl ?_
  refine wa_iconst C (v := 0) dX9_findBest_1 (by decide) ?_
  refine wa_putI C (j := 74) lq_67 sh_67 rfl in_X9 (by decide) tyX9 tyX9_ok nmX9 rfl rfl rfl f_X9_387 dX9_findBest_2 h (fun g1 h => ?_)
  refine wa_aload_n C (i := 0) dX9_findBest_5 rfl rfl ?_
  refine wa_iconst C (v := 0) dX9_findBest_6 (by decide) ?_
  refine wa_putI C (j := 75) lq_67 sh_67 rfl in_X9 (by decide) tyX9 tyX9_ok nmX9 rfl rfl rfl f_X9_390 dX9_findBest_7 h (fun g2 h => ?_)
  refine wa_aload_n C (i := 0) dX9_findBest_10 rfl rfl ?_
  refine wa_iconst C (v := 0) dX9_findBest_11 (by decide) ?_
  refine wa_putI C (j := 76) lq_67 sh_67 rfl in_X9 (by decide) tyX9 tyX9_ok nmX9 rfl rfl rfl f_X9_393 dX9_findBest_12 h (fun g3 h => ?_)
  refine wa_iconst C (v := 1) dX9_findBest_15 (by decide) ?_
  refine wa_istore_n C (i := 1) dX9_findBest_16 rfl (by rw [hn]; decide) rfl rfl ?_
  obtain ⟨n17, h⟩ := h
  exact WA.weak (ok_X9_findBest_17 C hv hn hd n17 _ _ h) ⟨rfl, ⟨rfl, trivial⟩⟩

set_option maxRecDepth 20000 in
theorem ok_X9_best {l : Launch} {E : fp_E} {x1 : Int32} {g : fp_G} {K : Int32 → fp_G → Prop} (h : w_X9_best x1 g K) : fp_M l E yX9_best cX9_best 2 ((Option.some Jvm.ClassFile.FieldType.int)) false 3 [.ref 67, .int x1] g K := by
  unfold w_X9_best at h
  refine fp_enter rfl [some (.ref 67), some (.int x1)] (Nat.le_of_ble_eq_true rfl) (fun q hq => hq) (fun Z hE hl hv hK hn hd C => ?_)
  subst hE hl hK
  refine wa_iload_n C (i := 1) dX9_best_0 rfl rfl ?_
  refine wa_i2l C dX9_best_1 ?_
  refine wa_lconst C (v := 0) dX9_best_2 (by decide) ?_
  refine wa_ldc2 C (v := 2) k_X9_262 dX9_best_3 ?_
  refine wa_callSi C s_X9_203 t_X9_isIn dX9_best_6 (ok_X9_isIn h) rfl rfl (Nat.le_of_ble_eq_true rfl) (by rw [hd]; decide) (fun v1 g1 h => ?_)
  refine wa_if_ne C (tgt := 19) dX9_best_9 (by decide) h (fun h => ?_) (fun h => ?_)
  · refine wa_aload_n C (i := 0) dX9_best_12 rfl rfl ?_
    refine wa_bipush C (v := (-2)) dX9_best_13 (by decide) ?_
    refine wa_callVi C lq_67 sh_67 rfl s_X9_192 i_X9_no e_X9_no dX9_best_15 (ok_X9_no h) rfl rfl (Nat.le_of_ble_eq_true rfl) (by rw [hd]; decide) (fun v3 g3 h => ?_)
    exact wa_iret C hv rfl dX9_best_18 h
  · refine wa_aload_n C (i := 0) dX9_best_19 rfl rfl ?_
    refine wa_callVv C lq_67 sh_67 rfl s_X9_399 i_X9_findBest e_X9_findBest dX9_best_20 (ok_X9_findBest h) rfl rfl (Nat.le_of_ble_eq_true rfl) (by rw [hd]; decide) (fun g2 h => ?_)
    refine wa_iload_n C (i := 1) dX9_best_23 rfl rfl ?_
    refine wa_if_ne C (tgt := 34) dX9_best_24 (by decide) h (fun h => ?_) (fun h => ?_)
    · refine wa_aload_n C (i := 0) dX9_best_27 rfl rfl ?_
      refine wa_getI C (j := 74) lq_67 sh_67 rfl in_X9 (by decide) rfl f_X9_387 dX9_best_28 ?_
      refine wa_goto C (tgt := 50) dX9_best_31 (by decide) ?_
      exact wa_iret C hv rfl dX9_best_50 h
    · refine wa_iload_n C (i := 1) dX9_best_34 rfl rfl ?_
      refine wa_iconst C (v := 1) dX9_best_35 (by decide) ?_
      refine wa_icmp_ne C (tgt := 46) dX9_best_36 (by decide) h (fun h => ?_) (fun h => ?_)
      · refine wa_aload_n C (i := 0) dX9_best_39 rfl rfl ?_
        refine wa_getI C (j := 75) lq_67 sh_67 rfl in_X9 (by decide) rfl f_X9_390 dX9_best_40 ?_
        refine wa_goto C (tgt := 50) dX9_best_43 (by decide) ?_
        exact wa_iret C hv rfl dX9_best_50 h
      · refine wa_aload_n C (i := 0) dX9_best_46 rfl rfl ?_
        refine wa_getI C (j := 76) lq_67 sh_67 rfl in_X9 (by decide) rfl f_X9_393 dX9_best_47 ?_
        exact wa_iret C hv rfl dX9_best_50 h

set_option maxRecDepth 20000 in
theorem ok_X9_put {l : Launch} {E : fp_E} {x1 : Int32} {g : fp_G} {K : Int32 → fp_G → Prop} (h : w_X9_put x1 g K) : fp_M l E yX9_put cX9_put 3 ((Option.some Jvm.ClassFile.FieldType.int)) false 2 [.ref 67, .int x1] g K := by
  unfold w_X9_put at h
  refine fp_enter rfl [some (.ref 67), some (.int x1), none] (Nat.le_of_ble_eq_true rfl) (fun q hq => hq) (fun Z hE hl hv hK hn hd C => ?_)
  subst hE hl hK
  refine wa_iload_n C (i := 1) dX9_put_0 rfl rfl ?_
  refine wa_i2l C dX9_put_1 ?_
  refine wa_ldc2 C (v := (-128)) k_X9_402 dX9_put_2 ?_
  refine wa_ldc2 C (v := 127) k_X9_404 dX9_put_5 ?_
  refine wa_callSi C s_X9_188 t_X9_out dX9_put_8 (ok_X9_out h) rfl rfl (Nat.le_of_ble_eq_true rfl) (by rw [hd]; decide) (fun v1 g1 h => ?_)
  refine wa_istore_n C (i := 2) dX9_put_11 rfl (by rw [hn]; decide) rfl rfl ?_
  refine wa_iload_n C (i := 2) dX9_put_12 rfl rfl ?_
  refine fp_k1 (Q := fun x2j28 => WA Z 28 [some (.ref 67), some (.int x1), some (.int x2j28)] [] g1) h (fun x2j28 h => ?_) (fun J28 hJ28 h => ?_)
  · refine wa_iload_n C (i := 2) dX9_put_28 rfl rfl ?_
    refine wa_if_eq C (tgt := 38) dX9_put_29 (by decide) h (fun h => ?_) (fun h => ?_)
    · refine wa_aload_n C (i := 0) dX9_put_38 rfl rfl ?_
      refine wa_getR C (j := 71) lq_67 sh_67 rfl in_X9 (by decide) rfl f_X9_180 dX9_put_39 ?_
      refine wa_aload_n C (i := 0) dX9_put_42 rfl rfl ?_
      refine wa_getI C (j := 73) lq_67 sh_67 rfl in_X9 (by decide) rfl f_X9_406 dX9_put_43 ?_
      refine wa_iload_n C (i := 1) dX9_put_46 rfl rfl ?_
      refine wa_iast C lq_123 sh_123 dX9_put_47 h (fun g2 h => ?_)
      refine wa_aload_n C (i := 0) dX9_put_48 rfl rfl ?_
      refine wa_dup C dX9_put_49 rfl ?_
      refine wa_getI C (j := 73) lq_67 sh_67 rfl in_X9 (by decide) rfl f_X9_406 dX9_put_50 ?_
      refine wa_iconst C (v := 1) dX9_put_53 (by decide) ?_
      refine wa_iadd C dX9_put_54 ?_
      refine wa_putI C (j := 73) lq_67 sh_67 rfl in_X9 (by decide) tyX9 tyX9_ok nmX9 rfl rfl rfl f_X9_406 dX9_put_55 h (fun g3 h => ?_)
      refine wa_aload_n C (i := 0) dX9_put_58 rfl rfl ?_
      refine wa_getI C (j := 73) lq_67 sh_67 rfl in_X9 (by decide) rfl f_X9_406 dX9_put_59 ?_
      exact wa_iret C hv rfl dX9_put_62 h
    · refine wa_aload_n C (i := 0) dX9_put_32 rfl rfl ?_
      refine wa_iload_n C (i := 2) dX9_put_33 rfl rfl ?_
      refine wa_callVi C lq_67 sh_67 rfl s_X9_192 i_X9_no e_X9_no dX9_put_34 (ok_X9_no h) rfl rfl (Nat.le_of_ble_eq_true rfl) (by rw [hd]; decide) (fun v2 g4 h => ?_)
      exact wa_iret C hv rfl dX9_put_37 h
  refine wa_if_ne C (tgt := 28) dX9_put_13 (by decide) h (fun h => ?_) (fun h => ?_)
  · refine wa_aload_n C (i := 0) dX9_put_16 rfl rfl ?_
    refine wa_getI C (j := 73) lq_67 sh_67 rfl in_X9 (by decide) rfl f_X9_406 dX9_put_17 ?_
    refine wa_bipush C (v := 12) dX9_put_20 (by decide) ?_
    refine wa_icmp_ne C (tgt := 28) dX9_put_22 (by decide) h (fun h => ?_) (fun h => ?_)
    · refine wa_bipush C (v := (-6)) dX9_put_25 (by decide) ?_
      refine wa_istore_n C (i := 2) dX9_put_27 rfl (by rw [hn]; decide) rfl rfl ?_
      exact WA.weak (hJ28 _ h) ⟨rfl, ⟨rfl, ⟨rfl, trivial⟩⟩⟩
    · exact WA.weak (hJ28 _ h) ⟨rfl, ⟨rfl, ⟨rfl, trivial⟩⟩⟩
  · exact WA.weak (hJ28 _ h) ⟨rfl, ⟨rfl, ⟨rfl, trivial⟩⟩⟩

set_option maxRecDepth 20000 in
theorem ok_X9_judge_31 {Z : fp_Z} (C : fp_C Z cX9_judge RX9 ((Option.some Jvm.ClassFile.FieldType.int))) (hv : fp_V Z false) (hn : Z.2.2.2.2.1 = 8) (hd : Z.2.2.2.2.2.1 = 3) {x1 : Int32} : ∀ (n : Nat) (x2 : Int32) (x3 : Int32) (x4 : Int32) (x5 : Int32) (x6 : Int32) (g : fp_G), w_X9_judge_31 n x1 x2 x3 x4 x5 x6 g Z.2.2.2.1 → WA Z 31 [some (.ref 67), some (.int x1), some (.int x2), some (.int x3), some (.int x4), some (.int x5), some (.int x6), none] [] g := by
  intro n
  induction n with
  | zero => intro x2 x3 x4 x5 x6 g h; exact h.elim
  | succ n ih =>
    intro x2 x3 x4 x5 x6 g h
    rw [w_X9_judge_31] at h
    refine wa_iload C dX9_judge_31 rfl ?_
    refine wa_aload_n C (i := 0) dX9_judge_33 rfl rfl ?_
    refine wa_getI C (j := 73) lq_67 sh_67 rfl in_X9 (by decide) rfl f_X9_406 dX9_judge_34 ?_
    refine fp_k0 (Q := WA Z 143 [some (.ref 67), some (.int x1), some (.int x2), none, some (.int x4), none, none, none] [] g) h (fun  h => ?_) (fun J143 hJ143 h => ?_)
    · refine wa_iload_n C (i := 1) dX9_judge_143 rfl rfl ?_
      refine wa_if_ne C (tgt := 149) dX9_judge_144 (by decide) h (fun h => ?_) (fun h => ?_)
      · refine wa_iload_n C (i := 2) dX9_judge_147 rfl rfl ?_
        exact wa_iret C hv rfl dX9_judge_148 h
      · refine wa_aload_n C (i := 0) dX9_judge_149 rfl rfl ?_
        refine wa_iconst C (v := 0) dX9_judge_150 (by decide) ?_
        refine wa_putI C (j := 73) lq_67 sh_67 rfl in_X9 (by decide) tyX9 tyX9_ok nmX9 rfl rfl rfl f_X9_406 dX9_judge_151 h (fun g2 h => ?_)
        refine wa_aload_n C (i := 0) dX9_judge_154 rfl rfl ?_
        refine wa_callVv C lq_67 sh_67 rfl s_X9_399 i_X9_findBest e_X9_findBest dX9_judge_155 (ok_X9_findBest h) rfl rfl (Nat.le_of_ble_eq_true rfl) (by rw [hd]; decide) (fun g3 h => ?_)
        refine wa_aload_n C (i := 0) dX9_judge_158 rfl rfl ?_
        refine wa_getI C (j := 75) lq_67 sh_67 rfl in_X9 (by decide) rfl f_X9_390 dX9_judge_159 ?_
        refine wa_iload C dX9_judge_162 rfl ?_
        refine wa_isub C dX9_judge_164 ?_
        exact wa_iret C hv rfl dX9_judge_165 h
    refine wa_icmp_ge C (tgt := 143) dX9_judge_37 (by decide) h (fun h => ?_) (fun h => ?_)
    · exact WA.weak (hJ143  h) ⟨rfl, ⟨rfl, ⟨rfl, ⟨rfl, trivial⟩⟩⟩⟩
    · refine wa_iload_n C (i := 2) dX9_judge_40 rfl rfl ?_
      refine wa_if_ge C (tgt := 143) dX9_judge_41 (by decide) h (fun h => ?_) (fun h => ?_)
      · exact WA.weak (hJ143  h) ⟨rfl, ⟨rfl, ⟨rfl, ⟨rfl, trivial⟩⟩⟩⟩
      · refine wa_aload_n C (i := 0) dX9_judge_44 rfl rfl ?_
        refine wa_getR C (j := 71) lq_67 sh_67 rfl in_X9 (by decide) rfl f_X9_180 dX9_judge_45 ?_
        refine wa_iload C dX9_judge_48 rfl ?_
        refine wa_iald C lq_123 sh_123 dX9_judge_50 h (fun v3 h => ?_)
        refine wa_istore C (i := 7) dX9_judge_51 (by rw [hn]; decide) rfl rfl ?_
        refine wa_iload C dX9_judge_53 rfl ?_
        refine wa_i2l C dX9_judge_55 ?_
        refine wa_lconst C (v := 0) dX9_judge_56 (by decide) ?_
        refine wa_aload_n C (i := 0) dX9_judge_57 rfl rfl ?_
        refine wa_getI C (j := 72) lq_67 sh_67 rfl in_X9 (by decide) rfl f_X9_384 dX9_judge_58 ?_
        refine wa_iconst C (v := 1) dX9_judge_61 (by decide) ?_
        refine wa_isub C dX9_judge_62 ?_
        refine wa_i2l C dX9_judge_63 ?_
        refine wa_callSi C s_X9_203 t_X9_isIn dX9_judge_64 (ok_X9_isIn h) rfl rfl (Nat.le_of_ble_eq_true rfl) (by rw [hd]; decide) (fun v4 g4 h => ?_)
        refine fp_k4 (Q := fun x2j137 x3j137 x4j137 x5j137 => WA Z 137 [some (.ref 67), some (.int x1), some (.int x2j137), some (.int x3j137), some (.int x4j137), some (.int x5j137), some (.int x6), none] [] g4) h (fun x2j137 x3j137 x4j137 x5j137 h => ?_) (fun J137 hJ137 h => ?_)
        · refine wa_iinc C (i := 6) dX9_judge_137 rfl (fp_inc1 _) (by rw [hn]; decide) rfl rfl ?_
          refine wa_goto C (tgt := 31) dX9_judge_140 (by decide) ?_
          exact WA.weak (ih _ _ _ _ _ _ h) ⟨rfl, ⟨rfl, ⟨rfl, ⟨rfl, ⟨rfl, ⟨rfl, ⟨rfl, trivial⟩⟩⟩⟩⟩⟩⟩
        refine fp_k0 (Q := WA Z 100 [some (.ref 67), some (.int x1), none, some (.int x3), some (.int x4), some (.int x5), some (.int x6), none] [] g4) h (fun  h => ?_) (fun J100 hJ100 h => ?_)
        · refine wa_iload C dX9_judge_100 rfl ?_
          refine wa_istore_n C (i := 2) dX9_judge_102 rfl (by rw [hn]; decide) rfl rfl ?_
          refine wa_goto C (tgt := 137) dX9_judge_103 (by decide) ?_
          exact WA.weak (hJ137 _ _ _ _ h) ⟨rfl, ⟨rfl, ⟨rfl, ⟨rfl, ⟨rfl, ⟨rfl, ⟨rfl, trivial⟩⟩⟩⟩⟩⟩⟩
        refine wa_if_eq C (tgt := 100) dX9_judge_67 (by decide) h (fun h => ?_) (fun h => ?_)
        · exact WA.weak (hJ100  h) ⟨rfl, ⟨rfl, ⟨rfl, ⟨rfl, ⟨rfl, ⟨rfl, trivial⟩⟩⟩⟩⟩⟩
        · refine wa_iload C dX9_judge_70 rfl ?_
          refine wa_iload C dX9_judge_72 rfl ?_
          refine wa_ishr C dX9_judge_74 ?_
          refine wa_iconst C (v := 1) dX9_judge_75 (by decide) ?_
          refine wa_iand C dX9_judge_76 ?_
          refine wa_iconst C (v := 1) dX9_judge_77 (by decide) ?_
          refine wa_icmp_eq C (tgt := 100) dX9_judge_78 (by decide) h (fun h => ?_) (fun h => ?_)
          · exact WA.weak (hJ100  h) ⟨rfl, ⟨rfl, ⟨rfl, ⟨rfl, ⟨rfl, ⟨rfl, trivial⟩⟩⟩⟩⟩⟩
          · refine wa_iload_n C (i := 3) dX9_judge_81 rfl rfl ?_
            refine wa_aload_n C (i := 0) dX9_judge_82 rfl rfl ?_
            refine wa_getR C (j := 68) lq_67 sh_67 rfl in_X9 (by decide) rfl f_X9_171 dX9_judge_83 ?_
            refine wa_iload C dX9_judge_86 rfl ?_
            refine wa_iald C lq_120 sh_120 dX9_judge_88 h (fun v5 h => ?_)
            refine wa_iadd C dX9_judge_89 ?_
            refine wa_aload_n C (i := 0) dX9_judge_90 rfl rfl ?_
            refine wa_getR C (j := 69) lq_67 sh_67 rfl in_X9 (by decide) rfl f_X9_174 dX9_judge_91 ?_
            refine wa_iload C dX9_judge_94 rfl ?_
            refine wa_iald C lq_121 sh_121 dX9_judge_96 h (fun v6 h => ?_)
            refine wa_icmp_le C (tgt := 106) dX9_judge_97 (by decide) h (fun h => ?_) (fun h => ?_)
            · refine wa_iload C dX9_judge_106 rfl ?_
              refine wa_iconst C (v := 1) dX9_judge_108 (by decide) ?_
              refine wa_iload C dX9_judge_109 rfl ?_
              refine wa_ishl C dX9_judge_111 ?_
              refine wa_ior C dX9_judge_112 ?_
              refine wa_istore C (i := 5) dX9_judge_113 (by rw [hn]; decide) rfl rfl ?_
              refine wa_iload_n C (i := 3) dX9_judge_115 rfl rfl ?_
              refine wa_aload_n C (i := 0) dX9_judge_116 rfl rfl ?_
              refine wa_getR C (j := 68) lq_67 sh_67 rfl in_X9 (by decide) rfl f_X9_171 dX9_judge_117 ?_
              refine wa_iload C dX9_judge_120 rfl ?_
              refine wa_iald C lq_120 sh_120 dX9_judge_122 h (fun v7 h => ?_)
              refine wa_iadd C dX9_judge_123 ?_
              refine wa_istore_n C (i := 3) dX9_judge_124 rfl (by rw [hn]; decide) rfl rfl ?_
              refine wa_iload C dX9_judge_125 rfl ?_
              refine wa_aload_n C (i := 0) dX9_judge_127 rfl rfl ?_
              refine wa_getR C (j := 70) lq_67 sh_67 rfl in_X9 (by decide) rfl f_X9_177 dX9_judge_128 ?_
              refine wa_iload C dX9_judge_131 rfl ?_
              refine wa_iald C lq_122 sh_122 dX9_judge_133 h (fun v8 h => ?_)
              refine wa_iadd C dX9_judge_134 ?_
              refine wa_istore C (i := 4) dX9_judge_135 (by rw [hn]; decide) rfl rfl ?_
              exact WA.weak (hJ137 _ _ _ _ h) ⟨rfl, ⟨rfl, ⟨rfl, ⟨rfl, ⟨rfl, ⟨rfl, ⟨rfl, trivial⟩⟩⟩⟩⟩⟩⟩
            · exact WA.weak (hJ100  h) ⟨rfl, ⟨rfl, ⟨rfl, ⟨rfl, ⟨rfl, ⟨rfl, trivial⟩⟩⟩⟩⟩⟩

set_option maxRecDepth 20000 in
theorem ok_X9_judge {l : Launch} {E : fp_E} {x1 : Int32} {g : fp_G} {K : Int32 → fp_G → Prop} (h : w_X9_judge x1 g K) : fp_M l E yX9_judge cX9_judge 8 ((Option.some Jvm.ClassFile.FieldType.int)) false 3 [.ref 67, .int x1] g K := by
  unfold w_X9_judge at h
  refine fp_enter rfl [some (.ref 67), some (.int x1), none, none, none, none, none, none] (Nat.le_of_ble_eq_true rfl) (fun q hq => hq) (fun Z hE hl hv hK hn hd C => ?_)
  subst hE hl hK
  refine wa_iload_n C (i := 1) dX9_judge_0 rfl rfl ?_
  refine wa_i2l C dX9_judge_1 ?_
  refine wa_lconst C (v := 0) dX9_judge_2 (by decide) ?_
  refine wa_lconst C (v := 1) dX9_judge_3 (by decide) ?_
  refine wa_callSi C s_X9_203 t_X9_isIn dX9_judge_4 (ok_X9_isIn h) rfl rfl (Nat.le_of_ble_eq_true rfl) (by rw [hd]; decide) (fun v1 g1 h => ?_)
  refine wa_if_ne C (tgt := 17) dX9_judge_7 (by decide) h (fun h => ?_) (fun h => ?_)
  · refine wa_aload_n C (i := 0) dX9_judge_10 rfl rfl ?_
    refine wa_bipush C (v := (-2)) dX9_judge_11 (by decide) ?_
    refine wa_callVi C lq_67 sh_67 rfl s_X9_192 i_X9_no e_X9_no dX9_judge_13 (ok_X9_no h) rfl rfl (Nat.le_of_ble_eq_true rfl) (by rw [hd]; decide) (fun v9 g5 h => ?_)
    exact wa_iret C hv rfl dX9_judge_16 h
  · refine wa_bipush C (v := (-9)) dX9_judge_17 (by decide) ?_
    refine wa_istore_n C (i := 2) dX9_judge_19 rfl (by rw [hn]; decide) rfl rfl ?_
    refine wa_iconst C (v := 0) dX9_judge_20 (by decide) ?_
    refine wa_istore_n C (i := 3) dX9_judge_21 rfl (by rw [hn]; decide) rfl rfl ?_
    refine wa_iconst C (v := 0) dX9_judge_22 (by decide) ?_
    refine wa_istore C (i := 4) dX9_judge_23 (by rw [hn]; decide) rfl rfl ?_
    refine wa_iconst C (v := 0) dX9_judge_25 (by decide) ?_
    refine wa_istore C (i := 5) dX9_judge_26 (by rw [hn]; decide) rfl rfl ?_
    refine wa_iconst C (v := 0) dX9_judge_28 (by decide) ?_
    refine wa_istore C (i := 6) dX9_judge_29 (by rw [hn]; decide) rfl rfl ?_
    obtain ⟨n31, h⟩ := h
    exact WA.weak (ok_X9_judge_31 C hv hn hd n31 _ _ _ _ _ _ h) ⟨rfl, ⟨rfl, ⟨rfl, ⟨rfl, ⟨rfl, ⟨rfl, ⟨rfl, trivial⟩⟩⟩⟩⟩⟩⟩

set_option maxRecDepth 20000 in
theorem ok_X9_waiting_18 {Z : fp_Z} (C : fp_C Z cX9_waiting RX9 ((Option.some Jvm.ClassFile.FieldType.int))) (hv : fp_V Z false) (hn : Z.2.2.2.2.1 = 4) (hd : Z.2.2.2.2.2.1 = 2) {x1 : Int32} : ∀ (n : Nat) (x2 : Int32) (x3 : Int32) (g : fp_G), w_X9_waiting_18 n x1 x2 x3 g Z.2.2.2.1 → WA Z 18 [some (.ref 67), some (.int x1), some (.int x2), some (.int x3)] [] g := by
  intro n
  induction n with
  | zero => intro x2 x3 g h; exact h.elim
  | succ n ih =>
    intro x2 x3 g h
    rw [w_X9_waiting_18] at h
    refine wa_iload_n C (i := 3) dX9_waiting_18 rfl rfl ?_
    refine wa_aload_n C (i := 0) dX9_waiting_19 rfl rfl ?_
    refine wa_getI C (j := 42) lq_67 sh_67 rfl in_X9 (by decide) rfl f_X9_259 dX9_waiting_20 ?_
    refine wa_icmp_ge C (tgt := 59) dX9_waiting_23 (by decide) h (fun h => ?_) (fun h => ?_)
    · refine wa_iload_n C (i := 2) dX9_waiting_59 rfl rfl ?_
      exact wa_iret C hv rfl dX9_waiting_60 h
    · refine wa_iload_n C (i := 2) dX9_waiting_26 rfl rfl ?_
      refine wa_aload_n C (i := 0) dX9_waiting_27 rfl rfl ?_
      refine wa_getR C (j := 34) lq_67 sh_67 rfl in_X9 (by decide) rfl f_X9_92 dX9_waiting_28 ?_
      refine wa_iload_n C (i := 3) dX9_waiting_31 rfl rfl ?_
      refine wa_iald C lq_95 sh_95 dX9_waiting_32 h (fun v2 h => ?_)
      refine fp_k1 (Q := fun z0j51 => WA Z 51 [some (.ref 67), some (.int x1), none, some (.int x3)] [.int z0j51, .int x2] g) h (fun z0j51 h => ?_) (fun J51 hJ51 h => ?_)
      · refine wa_iadd C dX9_waiting_51 ?_
        refine wa_istore_n C (i := 2) dX9_waiting_52 rfl (by rw [hn]; decide) rfl rfl ?_
        refine wa_iinc C (i := 3) dX9_waiting_53 rfl (fp_inc1 _) (by rw [hn]; decide) rfl rfl ?_
        refine wa_goto C (tgt := 18) dX9_waiting_56 (by decide) ?_
        exact WA.weak (ih _ _ _ h) ⟨rfl, ⟨rfl, ⟨rfl, ⟨rfl, trivial⟩⟩⟩⟩
      refine fp_k0 (Q := WA Z 50 [some (.ref 67), some (.int x1), none, some (.int x3)] [.int x2] g) h (fun  h => ?_) (fun J50 hJ50 h => ?_)
      · refine wa_iconst C (v := 0) dX9_waiting_50 (by decide) ?_
        exact WA.weak (hJ51 _ h) ⟨rfl, ⟨rfl, ⟨rfl, trivial⟩⟩⟩
      refine wa_if_ne C (tgt := 50) dX9_waiting_33 (by decide) h (fun h => ?_) (fun h => ?_)
      · refine wa_aload_n C (i := 0) dX9_waiting_36 rfl rfl ?_
        refine wa_getR C (j := 35) lq_67 sh_67 rfl in_X9 (by decide) rfl f_X9_95 dX9_waiting_37 ?_
        refine wa_iload_n C (i := 3) dX9_waiting_40 rfl rfl ?_
        refine wa_iald C lq_96 sh_96 dX9_waiting_41 h (fun v3 h => ?_)
        refine wa_iload_n C (i := 1) dX9_waiting_42 rfl rfl ?_
        refine wa_icmp_ne C (tgt := 50) dX9_waiting_43 (by decide) h (fun h => ?_) (fun h => ?_)
        · refine wa_iconst C (v := 1) dX9_waiting_46 (by decide) ?_
          refine wa_goto C (tgt := 51) dX9_waiting_47 (by decide) ?_
          exact WA.weak (hJ51 _ h) ⟨rfl, ⟨rfl, ⟨rfl, trivial⟩⟩⟩
        · exact WA.weak (hJ50  h) ⟨rfl, ⟨rfl, ⟨rfl, trivial⟩⟩⟩
      · exact WA.weak (hJ50  h) ⟨rfl, ⟨rfl, ⟨rfl, trivial⟩⟩⟩

set_option maxRecDepth 20000 in
theorem ok_X9_waiting {l : Launch} {E : fp_E} {x1 : Int32} {g : fp_G} {K : Int32 → fp_G → Prop} (h : w_X9_waiting x1 g K) : fp_M l E yX9_waiting cX9_waiting 4 ((Option.some Jvm.ClassFile.FieldType.int)) false 2 [.ref 67, .int x1] g K := by
  unfold w_X9_waiting at h
  refine fp_enter rfl [some (.ref 67), some (.int x1), none, none] (Nat.le_of_ble_eq_true rfl) (fun q hq => hq) (fun Z hE hl hv hK hn hd C => ?_)
  subst hE hl hK
  refine wa_aload_n C (i := 0) dX9_waiting_0 rfl rfl ?_
  refine wa_iload_n C (i := 1) dX9_waiting_1 rfl rfl ?_
  refine wa_callVi C lq_67 sh_67 rfl s_X9_196 i_X9_isOffice e_X9_isOffice dX9_waiting_2 (ok_X9_isOffice h) rfl rfl (Nat.le_of_ble_eq_true rfl) (by rw [hd]; decide) (fun v1 g1 h => ?_)
  refine wa_if_ne C (tgt := 14) dX9_waiting_5 (by decide) h (fun h => ?_) (fun h => ?_)
  · refine wa_aload_n C (i := 0) dX9_waiting_8 rfl rfl ?_
    refine wa_iconst C (v := (-1)) dX9_waiting_9 (by decide) ?_
    refine wa_callVi C lq_67 sh_67 rfl s_X9_192 i_X9_no e_X9_no dX9_waiting_10 (ok_X9_no h) rfl rfl (Nat.le_of_ble_eq_true rfl) (by rw [hd]; decide) (fun v4 g2 h => ?_)
    exact wa_iret C hv rfl dX9_waiting_13 h
  · refine wa_iconst C (v := 0) dX9_waiting_14 (by decide) ?_
    refine wa_istore_n C (i := 2) dX9_waiting_15 rfl (by rw [hn]; decide) rfl rfl ?_
    refine wa_iconst C (v := 0) dX9_waiting_16 (by decide) ?_
    refine wa_istore_n C (i := 3) dX9_waiting_17 rfl (by rw [hn]; decide) rfl rfl ?_
    obtain ⟨n18, h⟩ := h
    exact WA.weak (ok_X9_waiting_18 C hv hn hd n18 _ _ _ h) ⟨rfl, ⟨rfl, ⟨rfl, ⟨rfl, trivial⟩⟩⟩⟩

set_option maxRecDepth 20000 in
theorem ok_X9_count_148 {Z : fp_Z} (C : fp_C Z cX9_count RX9 ((Option.some Jvm.ClassFile.FieldType.int))) (hv : fp_V Z false) (hn : Z.2.2.2.2.1 = 4) (hd : Z.2.2.2.2.2.1 = 2) {x1 : Int32} : ∀ (n : Nat) (x2 : Int32) (x3 : Int32) (g : fp_G), w_X9_count_148 n x1 x2 x3 g Z.2.2.2.1 → WA Z 148 [some (.ref 67), some (.int x1), some (.int x2), some (.int x3)] [] g := by
  intro n
  induction n with
  | zero => intro x2 x3 g h; exact h.elim
  | succ n ih =>
    intro x2 x3 g h
    rw [w_X9_count_148] at h
    refine wa_iload_n C (i := 3) dX9_count_148 rfl rfl ?_
    refine wa_aload_n C (i := 0) dX9_count_149 rfl rfl ?_
    refine wa_getI C (j := 42) lq_67 sh_67 rfl in_X9 (by decide) rfl f_X9_259 dX9_count_150 ?_
    refine wa_icmp_ge C (tgt := 182) dX9_count_153 (by decide) h (fun h => ?_) (fun h => ?_)
    · refine wa_iload_n C (i := 2) dX9_count_182 rfl rfl ?_
      exact wa_iret C hv rfl dX9_count_183 h
    · refine wa_iload_n C (i := 2) dX9_count_156 rfl rfl ?_
      refine wa_aload_n C (i := 0) dX9_count_157 rfl rfl ?_
      refine wa_getR C (j := 34) lq_67 sh_67 rfl in_X9 (by decide) rfl f_X9_92 dX9_count_158 ?_
      refine wa_iload_n C (i := 3) dX9_count_161 rfl rfl ?_
      refine wa_iald C lq_95 sh_95 dX9_count_162 h (fun v2 h => ?_)
      refine wa_iload_n C (i := 1) dX9_count_163 rfl rfl ?_
      refine wa_iconst C (v := 4) dX9_count_164 (by decide) ?_
      refine wa_isub C dX9_count_165 ?_
      refine fp_k1 (Q := fun z0j174 => WA Z 174 [some (.ref 67), some (.int x1), none, some (.int x3)] [.int z0j174, .int x2] g) h (fun z0j174 h => ?_) (fun J174 hJ174 h => ?_)
      · refine wa_iadd C dX9_count_174 ?_
        refine wa_istore_n C (i := 2) dX9_count_175 rfl (by rw [hn]; decide) rfl rfl ?_
        refine wa_iinc C (i := 3) dX9_count_176 rfl (fp_inc1 _) (by rw [hn]; decide) rfl rfl ?_
        refine wa_goto C (tgt := 148) dX9_count_179 (by decide) ?_
        exact WA.weak (ih _ _ _ h) ⟨rfl, ⟨rfl, ⟨rfl, ⟨rfl, trivial⟩⟩⟩⟩
      refine wa_icmp_ne C (tgt := 173) dX9_count_166 (by decide) h (fun h => ?_) (fun h => ?_)
      · refine wa_iconst C (v := 1) dX9_count_169 (by decide) ?_
        refine wa_goto C (tgt := 174) dX9_count_170 (by decide) ?_
        exact WA.weak (hJ174 _ h) ⟨rfl, ⟨rfl, ⟨rfl, trivial⟩⟩⟩
      · refine wa_iconst C (v := 0) dX9_count_173 (by decide) ?_
        exact WA.weak (hJ174 _ h) ⟨rfl, ⟨rfl, ⟨rfl, trivial⟩⟩⟩

set_option maxRecDepth 20000 in
theorem ok_X9_count_186 {Z : fp_Z} (C : fp_C Z cX9_count RX9 ((Option.some Jvm.ClassFile.FieldType.int))) (hv : fp_V Z false) (hn : Z.2.2.2.2.1 = 4) (hd : Z.2.2.2.2.2.1 = 2) : ∀ (n : Nat) (x2 : Int32) (x3 : Int32) (g : fp_G), w_X9_count_186 n x2 x3 g Z.2.2.2.1 → WA Z 186 [some (.ref 67), none, some (.int x2), some (.int x3)] [] g := by
  intro n
  induction n with
  | zero => intro x2 x3 g h; exact h.elim
  | succ n ih =>
    intro x2 x3 g h
    rw [w_X9_count_186] at h
    refine wa_iload_n C (i := 3) dX9_count_186 rfl rfl ?_
    refine wa_aload_n C (i := 0) dX9_count_187 rfl rfl ?_
    refine wa_getI C (j := 42) lq_67 sh_67 rfl in_X9 (by decide) rfl f_X9_259 dX9_count_188 ?_
    refine wa_icmp_ge C (tgt := 217) dX9_count_191 (by decide) h (fun h => ?_) (fun h => ?_)
    · refine wa_iload_n C (i := 2) dX9_count_217 rfl rfl ?_
      exact wa_iret C hv rfl dX9_count_218 h
    · refine wa_iload_n C (i := 2) dX9_count_194 rfl rfl ?_
      refine wa_aload_n C (i := 0) dX9_count_195 rfl rfl ?_
      refine wa_getR C (j := 41) lq_67 sh_67 rfl in_X9 (by decide) rfl f_X9_113 dX9_count_196 ?_
      refine wa_iload_n C (i := 3) dX9_count_199 rfl rfl ?_
      refine wa_zald C lq_102 sh_102 dX9_count_200 h (fun v3 h => ?_)
      refine fp_k1 (Q := fun z0j209 => WA Z 209 [some (.ref 67), none, none, some (.int x3)] [.int z0j209, .int x2] g) h (fun z0j209 h => ?_) (fun J209 hJ209 h => ?_)
      · refine wa_iadd C dX9_count_209 ?_
        refine wa_istore_n C (i := 2) dX9_count_210 rfl (by rw [hn]; decide) rfl rfl ?_
        refine wa_iinc C (i := 3) dX9_count_211 rfl (fp_inc1 _) (by rw [hn]; decide) rfl rfl ?_
        refine wa_goto C (tgt := 186) dX9_count_214 (by decide) ?_
        exact WA.weak (ih _ _ _ h) ⟨rfl, ⟨rfl, ⟨rfl, trivial⟩⟩⟩
      refine wa_if_eq C (tgt := 208) dX9_count_201 (by decide) h (fun h => ?_) (fun h => ?_)
      · refine wa_iconst C (v := 0) dX9_count_208 (by decide) ?_
        exact WA.weak (hJ209 _ h) ⟨rfl, ⟨rfl, trivial⟩⟩
      · refine wa_iconst C (v := 1) dX9_count_204 (by decide) ?_
        refine wa_goto C (tgt := 209) dX9_count_205 (by decide) ?_
        exact WA.weak (hJ209 _ h) ⟨rfl, ⟨rfl, trivial⟩⟩

set_option maxRecDepth 20000 in
theorem ok_X9_count {l : Launch} {E : fp_E} {x1 : Int32} {g : fp_G} {K : Int32 → fp_G → Prop} (h : w_X9_count x1 g K) : fp_M l E yX9_count cX9_count 4 ((Option.some Jvm.ClassFile.FieldType.int)) false 2 [.ref 67, .int x1] g K := by
  unfold w_X9_count at h
  refine fp_enter rfl [some (.ref 67), some (.int x1), none, none] (Nat.le_of_ble_eq_true rfl) (fun q hq => hq) (fun Z hE hl hv hK hn hd C => ?_)
  subst hE hl hK
  refine wa_iload_n C (i := 1) dX9_count_0 rfl rfl ?_
  refine wa_i2l C dX9_count_1 ?_
  refine wa_ldc2 C (v := 11) k_X9_409 dX9_count_2 ?_
  refine wa_ldc2 C (v := 16) k_X9_411 dX9_count_5 ?_
  refine wa_callSi C s_X9_203 t_X9_isIn dX9_count_8 (ok_X9_isIn h) rfl rfl (Nat.le_of_ble_eq_true rfl) (by rw [hd]; decide) (fun v1 g1 h => ?_)
  refine wa_if_eq C (tgt := 24) dX9_count_11 (by decide) h (fun h => ?_) (fun h => ?_)
  · refine wa_iconst C (v := 0) dX9_count_24 (by decide) ?_
    refine wa_istore_n C (i := 2) dX9_count_25 rfl (by rw [hn]; decide) rfl rfl ?_
    refine wa_iload_n C (i := 1) dX9_count_26 rfl rfl ?_
    refine fp_sw h (fun e0 h => ?_) (fun e0 h => ?_)
    · refine wa_tsIn C (tgt := 116) dX9_count_27 e0 (by decide) (by decide) rfl (by decide) ?_
      refine wa_aload_n C (i := 0) dX9_count_116 rfl rfl ?_
      refine wa_getI C (j := 15) lq_67 sh_67 rfl in_X9 (by decide) rfl f_X9_207 dX9_count_117 ?_
      exact wa_iret C hv rfl dX9_count_120 h
    refine fp_sw h (fun e1 h => ?_) (fun e1 h => ?_)
    · refine wa_tsIn C (tgt := 121) dX9_count_27 e1 (by decide) (by decide) rfl (by decide) ?_
      refine wa_aload_n C (i := 0) dX9_count_121 rfl rfl ?_
      refine wa_getI C (j := 12) lq_67 sh_67 rfl in_X9 (by decide) rfl f_X9_183 dX9_count_122 ?_
      exact wa_iret C hv rfl dX9_count_125 h
    refine fp_sw h (fun e2 h => ?_) (fun e2 h => ?_)
    · refine wa_tsIn C (tgt := 126) dX9_count_27 e2 (by decide) (by decide) rfl (by decide) ?_
      refine wa_aload_n C (i := 0) dX9_count_126 rfl rfl ?_
      refine wa_getI C (j := 13) lq_67 sh_67 rfl in_X9 (by decide) rfl f_X9_200 dX9_count_127 ?_
      exact wa_iret C hv rfl dX9_count_130 h
    refine fp_sw h (fun e3 h => ?_) (fun e3 h => ?_)
    · refine wa_tsIn C (tgt := 131) dX9_count_27 e3 (by decide) (by decide) rfl (by decide) ?_
      refine wa_aload_n C (i := 0) dX9_count_131 rfl rfl ?_
      refine wa_getI C (j := 26) lq_67 sh_67 rfl in_X9 (by decide) rfl f_X9_226 dX9_count_132 ?_
      exact wa_iret C hv rfl dX9_count_135 h
    refine fp_sw h (fun e4 h => ?_) (fun e4 h => ?_)
    · refine wa_tsIn C (tgt := 136) dX9_count_27 e4 (by decide) (by decide) rfl (by decide) ?_
      refine wa_aload_n C (i := 0) dX9_count_136 rfl rfl ?_
      refine wa_getI C (j := 27) lq_67 sh_67 rfl in_X9 (by decide) rfl f_X9_220 dX9_count_137 ?_
      exact wa_iret C hv rfl dX9_count_140 h
    refine fp_sw h (fun e5 h => ?_) (fun e5 h => ?_)
    · refine wa_tsIn C (tgt := 141) dX9_count_27 e5 (by decide) (by decide) rfl (by decide) ?_
      refine wa_aload_n C (i := 0) dX9_count_141 rfl rfl ?_
      refine wa_getI C (j := 42) lq_67 sh_67 rfl in_X9 (by decide) rfl f_X9_259 dX9_count_142 ?_
      exact wa_iret C hv rfl dX9_count_145 h
    refine fp_sw h (fun e6 h => ?_) (fun e6 h => ?_)
    · refine wa_tsIn C (tgt := 146) dX9_count_27 e6 (by decide) (by decide) rfl (by decide) ?_
      refine wa_iconst C (v := 0) dX9_count_146 (by decide) ?_
      refine wa_istore_n C (i := 3) dX9_count_147 rfl (by rw [hn]; decide) rfl rfl ?_
      obtain ⟨n148, h⟩ := h
      exact WA.weak (ok_X9_count_148 C hv hn hd n148 _ _ _ h) ⟨rfl, ⟨rfl, ⟨rfl, ⟨rfl, trivial⟩⟩⟩⟩
    refine fp_sw h (fun e7 h => ?_) (fun e7 h => ?_)
    · refine wa_tsIn C (tgt := 146) dX9_count_27 e7 (by decide) (by decide) rfl (by decide) ?_
      refine wa_iconst C (v := 0) dX9_count_146 (by decide) ?_
      refine wa_istore_n C (i := 3) dX9_count_147 rfl (by rw [hn]; decide) rfl rfl ?_
      obtain ⟨n148, h⟩ := h
      exact WA.weak (ok_X9_count_148 C hv hn hd n148 _ _ _ h) ⟨rfl, ⟨rfl, ⟨rfl, ⟨rfl, trivial⟩⟩⟩⟩
    refine fp_sw h (fun e8 h => ?_) (fun e8 h => ?_)
    · refine wa_tsIn C (tgt := 146) dX9_count_27 e8 (by decide) (by decide) rfl (by decide) ?_
      refine wa_iconst C (v := 0) dX9_count_146 (by decide) ?_
      refine wa_istore_n C (i := 3) dX9_count_147 rfl (by rw [hn]; decide) rfl rfl ?_
      obtain ⟨n148, h⟩ := h
      exact WA.weak (ok_X9_count_148 C hv hn hd n148 _ _ _ h) ⟨rfl, ⟨rfl, ⟨rfl, ⟨rfl, trivial⟩⟩⟩⟩
    refine fp_sw h (fun e9 h => ?_) (fun e9 h => ?_)
    · refine wa_tsIn C (tgt := 184) dX9_count_27 e9 (by decide) (by decide) rfl (by decide) ?_
      refine wa_iconst C (v := 0) dX9_count_184 (by decide) ?_
      refine wa_istore_n C (i := 3) dX9_count_185 rfl (by rw [hn]; decide) rfl rfl ?_
      obtain ⟨n186, h⟩ := h
      exact WA.weak (ok_X9_count_186 C hv hn hd n186 _ _ _ h) ⟨rfl, ⟨rfl, ⟨rfl, trivial⟩⟩⟩
    refine fp_sw h (fun e10 h => ?_) (fun e10 h => ?_)
    · refine wa_tsIn C (tgt := 219) dX9_count_27 e10 (by decide) (by decide) rfl (by decide) ?_
      refine wa_aload_n C (i := 0) dX9_count_219 rfl rfl ?_
      refine wa_getI C (j := 51) lq_67 sh_67 rfl in_X9 (by decide) rfl f_X9_270 dX9_count_220 ?_
      exact wa_iret C hv rfl dX9_count_223 h
    refine fp_sw h (fun e11 h => ?_) (fun e11 h => ?_)
    · refine wa_tsIn C (tgt := 234) dX9_count_27 e11 (by decide) (by decide) rfl (by decide) ?_
      refine wa_bipush C (v := (-9)) dX9_count_234 (by decide) ?_
      exact wa_iret C hv rfl dX9_count_236 h
    refine fp_sw h (fun e12 h => ?_) (fun e12 h => ?_)
    · refine wa_tsIn C (tgt := 234) dX9_count_27 e12 (by decide) (by decide) rfl (by decide) ?_
      refine wa_bipush C (v := (-9)) dX9_count_234 (by decide) ?_
      exact wa_iret C hv rfl dX9_count_236 h
    refine fp_sw h (fun e13 h => ?_) (fun e13 h => ?_)
    · refine wa_tsIn C (tgt := 234) dX9_count_27 e13 (by decide) (by decide) rfl (by decide) ?_
      refine wa_bipush C (v := (-9)) dX9_count_234 (by decide) ?_
      exact wa_iret C hv rfl dX9_count_236 h
    refine fp_sw h (fun e14 h => ?_) (fun e14 h => ?_)
    · refine wa_tsIn C (tgt := 234) dX9_count_27 e14 (by decide) (by decide) rfl (by decide) ?_
      refine wa_bipush C (v := (-9)) dX9_count_234 (by decide) ?_
      exact wa_iret C hv rfl dX9_count_236 h
    refine fp_sw h (fun e15 h => ?_) (fun e15 h => ?_)
    · refine wa_tsIn C (tgt := 234) dX9_count_27 e15 (by decide) (by decide) rfl (by decide) ?_
      refine wa_bipush C (v := (-9)) dX9_count_234 (by decide) ?_
      exact wa_iret C hv rfl dX9_count_236 h
    refine fp_sw h (fun e16 h => ?_) (fun e16 h => ?_)
    · refine wa_tsIn C (tgt := 234) dX9_count_27 e16 (by decide) (by decide) rfl (by decide) ?_
      refine wa_bipush C (v := (-9)) dX9_count_234 (by decide) ?_
      exact wa_iret C hv rfl dX9_count_236 h
    refine fp_sw h (fun e17 h => ?_) (fun e17 h => ?_)
    · refine wa_tsIn C (tgt := 224) dX9_count_27 e17 (by decide) (by decide) rfl (by decide) ?_
      refine wa_aload_n C (i := 0) dX9_count_224 rfl rfl ?_
      refine wa_getI C (j := 73) lq_67 sh_67 rfl in_X9 (by decide) rfl f_X9_406 dX9_count_225 ?_
      exact wa_iret C hv rfl dX9_count_228 h
    refine fp_sw h (fun e18 h => ?_) (fun e18 h => ?_)
    · refine wa_tsIn C (tgt := 229) dX9_count_27 e18 (by decide) (by decide) rfl (by decide) ?_
      refine wa_aload_n C (i := 0) dX9_count_229 rfl rfl ?_
      refine wa_getI C (j := 52) lq_67 sh_67 rfl in_X9 (by decide) rfl f_X9_298 dX9_count_230 ?_
      exact wa_iret C hv rfl dX9_count_233 h
    have z0 := fp_ne (k := 0) (by decide) e0
    have z1 := fp_ne (k := 1) (by decide) e1
    have z2 := fp_ne (k := 2) (by decide) e2
    have z3 := fp_ne (k := 3) (by decide) e3
    have z4 := fp_ne (k := 4) (by decide) e4
    have z5 := fp_ne (k := 5) (by decide) e5
    have z6 := fp_ne (k := 6) (by decide) e6
    have z7 := fp_ne (k := 7) (by decide) e7
    have z8 := fp_ne (k := 8) (by decide) e8
    have z9 := fp_ne (k := 9) (by decide) e9
    have z10 := fp_ne (k := 10) (by decide) e10
    have z11 := fp_ne (k := 11) (by decide) e11
    have z12 := fp_ne (k := 12) (by decide) e12
    have z13 := fp_ne (k := 13) (by decide) e13
    have z14 := fp_ne (k := 14) (by decide) e14
    have z15 := fp_ne (k := 15) (by decide) e15
    have z16 := fp_ne (k := 16) (by decide) e16
    have z17 := fp_ne (k := 17) (by decide) e17
    have z18 := fp_ne (k := 18) (by decide) e18
    refine wa_tsOut C (tgt := 234) dX9_count_27 (by omega) (by decide) ?_
    refine wa_bipush C (v := (-9)) dX9_count_234 (by decide) ?_
    exact wa_iret C hv rfl dX9_count_236 h
  · refine wa_aload_n C (i := 0) dX9_count_14 rfl rfl ?_
    refine wa_getR C (j := 0) lq_67 sh_67 rfl in_X9 (by decide) rfl f_X9_7 dX9_count_15 ?_
    refine wa_iload_n C (i := 1) dX9_count_18 rfl rfl ?_
    refine wa_bipush C (v := 10) dX9_count_19 (by decide) ?_
    refine wa_isub C dX9_count_21 ?_
    refine wa_iald C lq_68 sh_68 dX9_count_22 h (fun v4 h => ?_)
    exact wa_iret C hv rfl dX9_count_23 h
