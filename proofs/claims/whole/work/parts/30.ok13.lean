set_option maxRecDepth 20000 in
theorem ok_X9_fro_16 {Z : fp_Z} (C : fp_C Z cX9_fro RX9 ((Option.some Jvm.ClassFile.FieldType.int))) (hv : fp_V Z false) (hn : Z.2.2.2.2.1 = 4) (hd : Z.2.2.2.2.2.1 = 2) {x1 : Int32} : ∀ (n : Nat) (x2 : Int32) (g : fp_G), w_X9_fro_16 n x1 x2 g Z.2.2.2.1 → WA Z 16 [some (.ref 67), some (.int x1), some (.int x2), none] [] g := by
  intro n
  induction n with
  | zero => intro x2 g h; exact h.elim
  | succ n ih =>
    intro x2 g h
    rw [w_X9_fro_16] at h
    refine wa_iload_n C (i := 2) dX9_fro_16 rfl rfl ?_
    refine wa_iconst C (v := 3) dX9_fro_17 (by decide) ?_
    refine wa_iadd C dX9_fro_18 ?_
    refine wa_aload_n C (i := 0) dX9_fro_19 rfl rfl ?_
    refine wa_iload_n C (i := 1) dX9_fro_20 rfl rfl ?_
    refine wa_callVi C lq_67 sh_67 rfl s_X9_363 i_X9_traced e_X9_traced dX9_fro_21 (ok_X9_traced h) rfl rfl (Nat.le_of_ble_eq_true rfl) (by rw [hd]; decide) (fun v2 g2 h => ?_)
    refine wa_icmp_ge C (tgt := 78) dX9_fro_24 (by decide) h (fun h => ?_) (fun h => ?_)
    · refine wa_bipush C (v := (-9)) dX9_fro_78 (by decide) ?_
      exact wa_iret C hv rfl dX9_fro_80 h
    · refine wa_bipush C (v := 40) dX9_fro_27 (by decide) ?_
      refine wa_iload_n C (i := 1) dX9_fro_29 rfl rfl ?_
      refine wa_imul C dX9_fro_30 ?_
      refine wa_iload_n C (i := 2) dX9_fro_31 rfl rfl ?_
      refine wa_iadd C dX9_fro_32 ?_
      refine wa_istore_n C (i := 3) dX9_fro_33 rfl (by rw [hn]; decide) rfl rfl ?_
      refine wa_aload_n C (i := 0) dX9_fro_34 rfl rfl ?_
      refine wa_getR C (j := 39) lq_67 sh_67 rfl in_X9 (by decide) rfl f_X9_107 dX9_fro_35 ?_
      refine wa_iload_n C (i := 3) dX9_fro_38 rfl rfl ?_
      refine wa_iald C lq_100 sh_100 dX9_fro_39 h (fun v3 h => ?_)
      refine wa_aload_n C (i := 0) dX9_fro_40 rfl rfl ?_
      refine wa_getR C (j := 39) lq_67 sh_67 rfl in_X9 (by decide) rfl f_X9_107 dX9_fro_41 ?_
      refine wa_iload_n C (i := 3) dX9_fro_44 rfl rfl ?_
      refine wa_iconst C (v := 2) dX9_fro_45 (by decide) ?_
      refine wa_iadd C dX9_fro_46 ?_
      refine wa_iald C lq_100 sh_100 dX9_fro_47 h (fun v4 h => ?_)
      refine fp_k0 (Q := WA Z 72 [some (.ref 67), some (.int x1), some (.int x2), none] [] g2) h (fun  h => ?_) (fun J72 hJ72 h => ?_)
      · refine wa_iinc C (i := 2) dX9_fro_72 rfl (fp_inc1 _) (by rw [hn]; decide) rfl rfl ?_
        refine wa_goto C (tgt := 16) dX9_fro_75 (by decide) ?_
        exact WA.weak (ih _ _ h) ⟨rfl, ⟨rfl, ⟨rfl, trivial⟩⟩⟩
      refine wa_icmp_ne C (tgt := 72) dX9_fro_48 (by decide) h (fun h => ?_) (fun h => ?_)
      · refine wa_aload_n C (i := 0) dX9_fro_51 rfl rfl ?_
        refine wa_getR C (j := 39) lq_67 sh_67 rfl in_X9 (by decide) rfl f_X9_107 dX9_fro_52 ?_
        refine wa_iload_n C (i := 3) dX9_fro_55 rfl rfl ?_
        refine wa_iconst C (v := 1) dX9_fro_56 (by decide) ?_
        refine wa_iadd C dX9_fro_57 ?_
        refine wa_iald C lq_100 sh_100 dX9_fro_58 h (fun v5 h => ?_)
        refine wa_aload_n C (i := 0) dX9_fro_59 rfl rfl ?_
        refine wa_getR C (j := 39) lq_67 sh_67 rfl in_X9 (by decide) rfl f_X9_107 dX9_fro_60 ?_
        refine wa_iload_n C (i := 3) dX9_fro_63 rfl rfl ?_
        refine wa_iconst C (v := 3) dX9_fro_64 (by decide) ?_
        refine wa_iadd C dX9_fro_65 ?_
        refine wa_iald C lq_100 sh_100 dX9_fro_66 h (fun v6 h => ?_)
        refine wa_icmp_ne C (tgt := 72) dX9_fro_67 (by decide) h (fun h => ?_) (fun h => ?_)
        · refine wa_iload_n C (i := 2) dX9_fro_70 rfl rfl ?_
          exact wa_iret C hv rfl dX9_fro_71 h
        · exact WA.weak (hJ72  h) ⟨rfl, ⟨rfl, ⟨rfl, trivial⟩⟩⟩
      · exact WA.weak (hJ72  h) ⟨rfl, ⟨rfl, ⟨rfl, trivial⟩⟩⟩

set_option maxRecDepth 20000 in
theorem ok_X9_fro {l : Launch} {E : fp_E} {x1 : Int32} {g : fp_G} {K : Int32 → fp_G → Prop} (h : w_X9_fro x1 g K) : fp_M l E yX9_fro cX9_fro 4 ((Option.some Jvm.ClassFile.FieldType.int)) false 2 [.ref 67, .int x1] g K := by
  unfold w_X9_fro at h
  refine fp_enter rfl [some (.ref 67), some (.int x1), none, none] (Nat.le_of_ble_eq_true rfl) (fun q hq => hq) (fun Z hE hl hv hK hn hd C => ?_)
  subst hE hl hK
  refine wa_aload_n C (i := 0) dX9_fro_0 rfl rfl ?_
  refine wa_iload_n C (i := 1) dX9_fro_1 rfl rfl ?_
  refine wa_callVi C lq_67 sh_67 rfl s_X9_329 i_X9_isMail e_X9_isMail dX9_fro_2 (ok_X9_isMail h) rfl rfl (Nat.le_of_ble_eq_true rfl) (by rw [hd]; decide) (fun v1 g1 h => ?_)
  refine wa_if_ne C (tgt := 14) dX9_fro_5 (by decide) h (fun h => ?_) (fun h => ?_)
  · refine wa_aload_n C (i := 0) dX9_fro_8 rfl rfl ?_
    refine wa_iconst C (v := (-1)) dX9_fro_9 (by decide) ?_
    refine wa_callVi C lq_67 sh_67 rfl s_X9_192 i_X9_no e_X9_no dX9_fro_10 (ok_X9_no h) rfl rfl (Nat.le_of_ble_eq_true rfl) (by rw [hd]; decide) (fun v7 g3 h => ?_)
    exact wa_iret C hv rfl dX9_fro_13 h
  · refine wa_iconst C (v := 0) dX9_fro_14 (by decide) ?_
    refine wa_istore_n C (i := 2) dX9_fro_15 rfl (by rw [hn]; decide) rfl rfl ?_
    obtain ⟨n16, h⟩ := h
    exact WA.weak (ok_X9_fro_16 C hv hn hd n16 _ _ h) ⟨rfl, ⟨rfl, ⟨rfl, trivial⟩⟩⟩

set_option maxRecDepth 20000 in
theorem ok_X9_keeps_2 {Z : fp_Z} (C : fp_C Z cX9_keeps RX9 ((Option.none : Option Jvm.ClassFile.FieldType))) (hv : fp_V Z true) (hn : Z.2.2.2.2.1 = 2) (hd : Z.2.2.2.2.2.1 = 1) : ∀ (n : Nat) (x1 : Int32) (g : fp_G), w_X9_keeps_2 n x1 g Z.2.2.2.1 → WA Z 2 [some (.ref 67), some (.int x1)] [] g := by
  intro n
  induction n with
  | zero => intro x1 g h; exact h.elim
  | succ n ih =>
    intro x1 g h
    rw [w_X9_keeps_2] at h
    refine wa_iload_n C (i := 1) dX9_keeps_2 rfl rfl ?_
    refine wa_aload_n C (i := 0) dX9_keeps_3 rfl rfl ?_
    refine wa_getI C (j := 42) lq_67 sh_67 rfl in_X9 (by decide) rfl f_X9_259 dX9_keeps_4 ?_
    refine wa_icmp_ge C (tgt := 100) dX9_keeps_7 (by decide) h (fun h => ?_) (fun h => ?_)
    · exact wa_vret C hv rfl dX9_keeps_100 h
    · refine wa_aload_n C (i := 0) dX9_keeps_10 rfl rfl ?_
      refine wa_getR C (j := 61) lq_67 sh_67 rfl in_X9 (by decide) rfl f_X9_150 dX9_keeps_11 ?_
      refine wa_iload_n C (i := 1) dX9_keeps_14 rfl rfl ?_
      refine wa_aload_n C (i := 0) dX9_keeps_15 rfl rfl ?_
      refine wa_getR C (j := 34) lq_67 sh_67 rfl in_X9 (by decide) rfl f_X9_92 dX9_keeps_16 ?_
      refine wa_iload_n C (i := 1) dX9_keeps_19 rfl rfl ?_
      refine wa_iald C lq_95 sh_95 dX9_keeps_20 h (fun v1 h => ?_)
      refine wa_iast C lq_113 sh_113 dX9_keeps_21 h (fun g1 h => ?_)
      refine wa_aload_n C (i := 0) dX9_keeps_22 rfl rfl ?_
      refine wa_getR C (j := 62) lq_67 sh_67 rfl in_X9 (by decide) rfl f_X9_153 dX9_keeps_23 ?_
      refine wa_iload_n C (i := 1) dX9_keeps_26 rfl rfl ?_
      refine wa_aload_n C (i := 0) dX9_keeps_27 rfl rfl ?_
      refine wa_getR C (j := 35) lq_67 sh_67 rfl in_X9 (by decide) rfl f_X9_95 dX9_keeps_28 ?_
      refine wa_iload_n C (i := 1) dX9_keeps_31 rfl rfl ?_
      refine wa_iald C lq_96 sh_96 dX9_keeps_32 h (fun v2 h => ?_)
      refine wa_iast C lq_114 sh_114 dX9_keeps_33 h (fun g2 h => ?_)
      refine wa_aload_n C (i := 0) dX9_keeps_34 rfl rfl ?_
      refine wa_getR C (j := 63) lq_67 sh_67 rfl in_X9 (by decide) rfl f_X9_156 dX9_keeps_35 ?_
      refine wa_iload_n C (i := 1) dX9_keeps_38 rfl rfl ?_
      refine wa_aload_n C (i := 0) dX9_keeps_39 rfl rfl ?_
      refine wa_getR C (j := 36) lq_67 sh_67 rfl in_X9 (by decide) rfl f_X9_98 dX9_keeps_40 ?_
      refine wa_iload_n C (i := 1) dX9_keeps_43 rfl rfl ?_
      refine wa_iald C lq_97 sh_97 dX9_keeps_44 h (fun v3 h => ?_)
      refine wa_iast C lq_115 sh_115 dX9_keeps_45 h (fun g3 h => ?_)
      refine wa_aload_n C (i := 0) dX9_keeps_46 rfl rfl ?_
      refine wa_getR C (j := 64) lq_67 sh_67 rfl in_X9 (by decide) rfl f_X9_159 dX9_keeps_47 ?_
      refine wa_iload_n C (i := 1) dX9_keeps_50 rfl rfl ?_
      refine wa_aload_n C (i := 0) dX9_keeps_51 rfl rfl ?_
      refine wa_getR C (j := 37) lq_67 sh_67 rfl in_X9 (by decide) rfl f_X9_101 dX9_keeps_52 ?_
      refine wa_iload_n C (i := 1) dX9_keeps_55 rfl rfl ?_
      refine wa_iald C lq_98 sh_98 dX9_keeps_56 h (fun v4 h => ?_)
      refine wa_iast C lq_116 sh_116 dX9_keeps_57 h (fun g4 h => ?_)
      refine wa_aload_n C (i := 0) dX9_keeps_58 rfl rfl ?_
      refine wa_getR C (j := 65) lq_67 sh_67 rfl in_X9 (by decide) rfl f_X9_162 dX9_keeps_59 ?_
      refine wa_iload_n C (i := 1) dX9_keeps_62 rfl rfl ?_
      refine wa_aload_n C (i := 0) dX9_keeps_63 rfl rfl ?_
      refine wa_getR C (j := 38) lq_67 sh_67 rfl in_X9 (by decide) rfl f_X9_104 dX9_keeps_64 ?_
      refine wa_iload_n C (i := 1) dX9_keeps_67 rfl rfl ?_
      refine wa_iald C lq_99 sh_99 dX9_keeps_68 h (fun v5 h => ?_)
      refine wa_iast C lq_117 sh_117 dX9_keeps_69 h (fun g5 h => ?_)
      refine wa_aload_n C (i := 0) dX9_keeps_70 rfl rfl ?_
      refine wa_getR C (j := 66) lq_67 sh_67 rfl in_X9 (by decide) rfl f_X9_165 dX9_keeps_71 ?_
      refine wa_iload_n C (i := 1) dX9_keeps_74 rfl rfl ?_
      refine wa_aload_n C (i := 0) dX9_keeps_75 rfl rfl ?_
      refine wa_getR C (j := 40) lq_67 sh_67 rfl in_X9 (by decide) rfl f_X9_110 dX9_keeps_76 ?_
      refine wa_iload_n C (i := 1) dX9_keeps_79 rfl rfl ?_
      refine wa_zald C lq_101 sh_101 dX9_keeps_80 h (fun v6 h => ?_)
      refine wa_zast C lq_118 sh_118 dX9_keeps_81 h (fun g6 h => ?_)
      refine wa_aload_n C (i := 0) dX9_keeps_82 rfl rfl ?_
      refine wa_getR C (j := 67) lq_67 sh_67 rfl in_X9 (by decide) rfl f_X9_168 dX9_keeps_83 ?_
      refine wa_iload_n C (i := 1) dX9_keeps_86 rfl rfl ?_
      refine wa_aload_n C (i := 0) dX9_keeps_87 rfl rfl ?_
      refine wa_getR C (j := 41) lq_67 sh_67 rfl in_X9 (by decide) rfl f_X9_113 dX9_keeps_88 ?_
      refine wa_iload_n C (i := 1) dX9_keeps_91 rfl rfl ?_
      refine wa_zald C lq_102 sh_102 dX9_keeps_92 h (fun v7 h => ?_)
      refine wa_zast C lq_119 sh_119 dX9_keeps_93 h (fun g7 h => ?_)
      refine wa_iinc C (i := 1) dX9_keeps_94 rfl (fp_inc1 _) (by rw [hn]; decide) rfl rfl ?_
      refine wa_goto C (tgt := 2) dX9_keeps_97 (by decide) ?_
      exact WA.weak (ih _ _ h) ⟨rfl, ⟨rfl, trivial⟩⟩

set_option maxRecDepth 20000 in
theorem ok_X9_keeps {l : Launch} {E : fp_E} {g : fp_G} {K : Int32 → fp_G → Prop} (h : w_X9_keeps  g K) : fp_M l E yX9_keeps cX9_keeps 2 ((Option.none : Option Jvm.ClassFile.FieldType)) true 1 [.ref 67] g K := by
  unfold w_X9_keeps at h
  refine fp_enter rfl [some (.ref 67), none] (Nat.le_of_ble_eq_true rfl) (fun q hq => hq) (fun Z hE hl hv hK hn hd C => ?_)
  subst hE hl hK
  refine wa_iconst C (v := 0) dX9_keeps_0 (by decide) ?_
  refine wa_istore_n C (i := 1) dX9_keeps_1 rfl (by rw [hn]; decide) rfl rfl ?_
  obtain ⟨n2, h⟩ := h
  exact WA.weak (ok_X9_keeps_2 C hv hn hd n2 _ _ h) ⟨rfl, ⟨rfl, trivial⟩⟩

set_option maxRecDepth 20000 in
theorem ok_X9_putsBack_2 {Z : fp_Z} (C : fp_C Z cX9_putsBack RX9 ((Option.none : Option Jvm.ClassFile.FieldType))) (hv : fp_V Z true) (hn : Z.2.2.2.2.1 = 2) (hd : Z.2.2.2.2.2.1 = 1) : ∀ (n : Nat) (x1 : Int32) (g : fp_G), w_X9_putsBack_2 n x1 g Z.2.2.2.1 → WA Z 2 [some (.ref 67), some (.int x1)] [] g := by
  intro n
  induction n with
  | zero => intro x1 g h; exact h.elim
  | succ n ih =>
    intro x1 g h
    rw [w_X9_putsBack_2] at h
    refine wa_iload_n C (i := 1) dX9_putsBack_2 rfl rfl ?_
    refine wa_aload_n C (i := 0) dX9_putsBack_3 rfl rfl ?_
    refine wa_getI C (j := 42) lq_67 sh_67 rfl in_X9 (by decide) rfl f_X9_259 dX9_putsBack_4 ?_
    refine wa_icmp_ge C (tgt := 100) dX9_putsBack_7 (by decide) h (fun h => ?_) (fun h => ?_)
    · exact wa_vret C hv rfl dX9_putsBack_100 h
    · refine wa_aload_n C (i := 0) dX9_putsBack_10 rfl rfl ?_
      refine wa_getR C (j := 34) lq_67 sh_67 rfl in_X9 (by decide) rfl f_X9_92 dX9_putsBack_11 ?_
      refine wa_iload_n C (i := 1) dX9_putsBack_14 rfl rfl ?_
      refine wa_aload_n C (i := 0) dX9_putsBack_15 rfl rfl ?_
      refine wa_getR C (j := 61) lq_67 sh_67 rfl in_X9 (by decide) rfl f_X9_150 dX9_putsBack_16 ?_
      refine wa_iload_n C (i := 1) dX9_putsBack_19 rfl rfl ?_
      refine wa_iald C lq_113 sh_113 dX9_putsBack_20 h (fun v1 h => ?_)
      refine wa_iast C lq_95 sh_95 dX9_putsBack_21 h (fun g1 h => ?_)
      refine wa_aload_n C (i := 0) dX9_putsBack_22 rfl rfl ?_
      refine wa_getR C (j := 35) lq_67 sh_67 rfl in_X9 (by decide) rfl f_X9_95 dX9_putsBack_23 ?_
      refine wa_iload_n C (i := 1) dX9_putsBack_26 rfl rfl ?_
      refine wa_aload_n C (i := 0) dX9_putsBack_27 rfl rfl ?_
      refine wa_getR C (j := 62) lq_67 sh_67 rfl in_X9 (by decide) rfl f_X9_153 dX9_putsBack_28 ?_
      refine wa_iload_n C (i := 1) dX9_putsBack_31 rfl rfl ?_
      refine wa_iald C lq_114 sh_114 dX9_putsBack_32 h (fun v2 h => ?_)
      refine wa_iast C lq_96 sh_96 dX9_putsBack_33 h (fun g2 h => ?_)
      refine wa_aload_n C (i := 0) dX9_putsBack_34 rfl rfl ?_
      refine wa_getR C (j := 36) lq_67 sh_67 rfl in_X9 (by decide) rfl f_X9_98 dX9_putsBack_35 ?_
      refine wa_iload_n C (i := 1) dX9_putsBack_38 rfl rfl ?_
      refine wa_aload_n C (i := 0) dX9_putsBack_39 rfl rfl ?_
      refine wa_getR C (j := 63) lq_67 sh_67 rfl in_X9 (by decide) rfl f_X9_156 dX9_putsBack_40 ?_
      refine wa_iload_n C (i := 1) dX9_putsBack_43 rfl rfl ?_
      refine wa_iald C lq_115 sh_115 dX9_putsBack_44 h (fun v3 h => ?_)
      refine wa_iast C lq_97 sh_97 dX9_putsBack_45 h (fun g3 h => ?_)
      refine wa_aload_n C (i := 0) dX9_putsBack_46 rfl rfl ?_
      refine wa_getR C (j := 37) lq_67 sh_67 rfl in_X9 (by decide) rfl f_X9_101 dX9_putsBack_47 ?_
      refine wa_iload_n C (i := 1) dX9_putsBack_50 rfl rfl ?_
      refine wa_aload_n C (i := 0) dX9_putsBack_51 rfl rfl ?_
      refine wa_getR C (j := 64) lq_67 sh_67 rfl in_X9 (by decide) rfl f_X9_159 dX9_putsBack_52 ?_
      refine wa_iload_n C (i := 1) dX9_putsBack_55 rfl rfl ?_
      refine wa_iald C lq_116 sh_116 dX9_putsBack_56 h (fun v4 h => ?_)
      refine wa_iast C lq_98 sh_98 dX9_putsBack_57 h (fun g4 h => ?_)
      refine wa_aload_n C (i := 0) dX9_putsBack_58 rfl rfl ?_
      refine wa_getR C (j := 38) lq_67 sh_67 rfl in_X9 (by decide) rfl f_X9_104 dX9_putsBack_59 ?_
      refine wa_iload_n C (i := 1) dX9_putsBack_62 rfl rfl ?_
      refine wa_aload_n C (i := 0) dX9_putsBack_63 rfl rfl ?_
      refine wa_getR C (j := 65) lq_67 sh_67 rfl in_X9 (by decide) rfl f_X9_162 dX9_putsBack_64 ?_
      refine wa_iload_n C (i := 1) dX9_putsBack_67 rfl rfl ?_
      refine wa_iald C lq_117 sh_117 dX9_putsBack_68 h (fun v5 h => ?_)
      refine wa_iast C lq_99 sh_99 dX9_putsBack_69 h (fun g5 h => ?_)
      refine wa_aload_n C (i := 0) dX9_putsBack_70 rfl rfl ?_
      refine wa_getR C (j := 40) lq_67 sh_67 rfl in_X9 (by decide) rfl f_X9_110 dX9_putsBack_71 ?_
      refine wa_iload_n C (i := 1) dX9_putsBack_74 rfl rfl ?_
      refine wa_aload_n C (i := 0) dX9_putsBack_75 rfl rfl ?_
      refine wa_getR C (j := 66) lq_67 sh_67 rfl in_X9 (by decide) rfl f_X9_165 dX9_putsBack_76 ?_
      refine wa_iload_n C (i := 1) dX9_putsBack_79 rfl rfl ?_
      refine wa_zald C lq_118 sh_118 dX9_putsBack_80 h (fun v6 h => ?_)
      refine wa_zast C lq_101 sh_101 dX9_putsBack_81 h (fun g6 h => ?_)
      refine wa_aload_n C (i := 0) dX9_putsBack_82 rfl rfl ?_
      refine wa_getR C (j := 41) lq_67 sh_67 rfl in_X9 (by decide) rfl f_X9_113 dX9_putsBack_83 ?_
      refine wa_iload_n C (i := 1) dX9_putsBack_86 rfl rfl ?_
      refine wa_aload_n C (i := 0) dX9_putsBack_87 rfl rfl ?_
      refine wa_getR C (j := 67) lq_67 sh_67 rfl in_X9 (by decide) rfl f_X9_168 dX9_putsBack_88 ?_
      refine wa_iload_n C (i := 1) dX9_putsBack_91 rfl rfl ?_
      refine wa_zald C lq_119 sh_119 dX9_putsBack_92 h (fun v7 h => ?_)
      refine wa_zast C lq_102 sh_102 dX9_putsBack_93 h (fun g7 h => ?_)
      refine wa_iinc C (i := 1) dX9_putsBack_94 rfl (fp_inc1 _) (by rw [hn]; decide) rfl rfl ?_
      refine wa_goto C (tgt := 2) dX9_putsBack_97 (by decide) ?_
      exact WA.weak (ih _ _ h) ⟨rfl, ⟨rfl, trivial⟩⟩

set_option maxRecDepth 20000 in
theorem ok_X9_putsBack {l : Launch} {E : fp_E} {g : fp_G} {K : Int32 → fp_G → Prop} (h : w_X9_putsBack  g K) : fp_M l E yX9_putsBack cX9_putsBack 2 ((Option.none : Option Jvm.ClassFile.FieldType)) true 1 [.ref 67] g K := by
  unfold w_X9_putsBack at h
  refine fp_enter rfl [some (.ref 67), none] (Nat.le_of_ble_eq_true rfl) (fun q hq => hq) (fun Z hE hl hv hK hn hd C => ?_)
  subst hE hl hK
  refine wa_iconst C (v := 0) dX9_putsBack_0 (by decide) ?_
  refine wa_istore_n C (i := 1) dX9_putsBack_1 rfl (by rw [hn]; decide) rfl rfl ?_
  obtain ⟨n2, h⟩ := h
  exact WA.weak (ok_X9_putsBack_2 C hv hn hd n2 _ _ h) ⟨rfl, ⟨rfl, trivial⟩⟩

set_option maxRecDepth 20000 in
theorem ok_X9_after_41 {Z : fp_Z} (C : fp_C Z cX9_after RX9 ((Option.some Jvm.ClassFile.FieldType.int))) (hv : fp_V Z false) (hn : Z.2.2.2.2.1 = 4) (hd : Z.2.2.2.2.2.1 = 8) {x1 : Int32} {x2 : Int32} : ∀ (n : Nat) (x3 : Int32) (g : fp_G), w_X9_after_41 n x1 x2 x3 g Z.2.2.2.1 → WA Z 41 [some (.ref 67), some (.int x1), some (.int x2), some (.int x3)] [] g := by
  intro n
  induction n with
  | zero => intro x3 g h; exact h.elim
  | succ n ih =>
    intro x3 g h
    rw [w_X9_after_41] at h
    refine wa_iload_n C (i := 3) dX9_after_41 rfl rfl ?_
    refine wa_sipush C (v := 300) dX9_after_42 (by decide) ?_
    refine fp_k0 (Q := WA Z 74 [some (.ref 67), some (.int x1), some (.int x2), none] [] g) h (fun  h => ?_) (fun J74 hJ74 h => ?_)
    · refine wa_aload_n C (i := 0) dX9_after_74 rfl rfl ?_
      refine wa_getR C (j := 34) lq_67 sh_67 rfl in_X9 (by decide) rfl f_X9_92 dX9_after_75 ?_
      refine wa_iload_n C (i := 1) dX9_after_78 rfl rfl ?_
      refine wa_iald C lq_95 sh_95 dX9_after_79 h (fun v5 h => ?_)
      refine wa_iconst C (v := 2) dX9_after_80 (by decide) ?_
      refine fp_k1 (Q := fun z0j108 => WA Z 108 [some (.ref 67), none, none, none] [.int z0j108] g) h (fun z0j108 h => ?_) (fun J108 hJ108 h => ?_)
      · refine wa_istore_n C (i := 3) dX9_after_108 rfl (by rw [hn]; decide) rfl rfl ?_
        refine wa_aload_n C (i := 0) dX9_after_109 rfl rfl ?_
        refine wa_callVv C lq_67 sh_67 rfl s_X9_369 i_X9_putsBack e_X9_putsBack dX9_after_110 (ok_X9_putsBack h) rfl rfl (Nat.le_of_ble_eq_true rfl) (by rw [hd]; decide) (fun g5 h => ?_)
        refine wa_iload_n C (i := 3) dX9_after_113 rfl rfl ?_
        exact wa_iret C hv rfl dX9_after_114 h
      refine wa_icmp_ge C (tgt := 89) dX9_after_81 (by decide) h (fun h => ?_) (fun h => ?_)
      · refine wa_iload_n C (i := 2) dX9_after_89 rfl rfl ?_
        refine wa_if_ne C (tgt := 102) dX9_after_90 (by decide) h (fun h => ?_) (fun h => ?_)
        · refine wa_aload_n C (i := 0) dX9_after_93 rfl rfl ?_
          refine wa_getR C (j := 36) lq_67 sh_67 rfl in_X9 (by decide) rfl f_X9_98 dX9_after_94 ?_
          refine wa_iload_n C (i := 1) dX9_after_97 rfl rfl ?_
          refine wa_iald C lq_97 sh_97 dX9_after_98 h (fun v8 h => ?_)
          refine wa_goto C (tgt := 108) dX9_after_99 (by decide) ?_
          exact WA.weak (hJ108 _ h) ⟨rfl, trivial⟩
        · refine wa_aload_n C (i := 0) dX9_after_102 rfl rfl ?_
          refine wa_getR C (j := 34) lq_67 sh_67 rfl in_X9 (by decide) rfl f_X9_92 dX9_after_103 ?_
          refine wa_iload_n C (i := 1) dX9_after_106 rfl rfl ?_
          refine wa_iald C lq_95 sh_95 dX9_after_107 h (fun v7 h => ?_)
          exact WA.weak (hJ108 _ h) ⟨rfl, trivial⟩
      · refine wa_bipush C (v := (-9)) dX9_after_84 (by decide) ?_
        refine wa_goto C (tgt := 108) dX9_after_86 (by decide) ?_
        exact WA.weak (hJ108 _ h) ⟨rfl, trivial⟩
    refine wa_icmp_ge C (tgt := 74) dX9_after_45 (by decide) h (fun h => ?_) (fun h => ?_)
    · exact WA.weak (hJ74  h) ⟨rfl, ⟨rfl, ⟨rfl, trivial⟩⟩⟩
    · refine wa_aload_n C (i := 0) dX9_after_48 rfl rfl ?_
      refine wa_getR C (j := 34) lq_67 sh_67 rfl in_X9 (by decide) rfl f_X9_92 dX9_after_49 ?_
      refine wa_iload_n C (i := 1) dX9_after_52 rfl rfl ?_
      refine wa_iald C lq_95 sh_95 dX9_after_53 h (fun v9 h => ?_)
      refine wa_iconst C (v := 2) dX9_after_54 (by decide) ?_
      refine wa_icmp_ge C (tgt := 74) dX9_after_55 (by decide) h (fun h => ?_) (fun h => ?_)
      · exact WA.weak (hJ74  h) ⟨rfl, ⟨rfl, ⟨rfl, trivial⟩⟩⟩
      · refine wa_aload_n C (i := 0) dX9_after_58 rfl rfl ?_
        refine wa_aload_n C (i := 0) dX9_after_59 rfl rfl ?_
        refine wa_getI C (j := 15) lq_67 sh_67 rfl in_X9 (by decide) rfl f_X9_207 dX9_after_60 ?_
        refine wa_iload_n C (i := 3) dX9_after_63 rfl rfl ?_
        refine wa_iadd C dX9_after_64 ?_
        refine wa_callVv C lq_67 sh_67 rfl s_X9_360 i_X9_passes e_X9_passes dX9_after_65 (ok_X9_passes h) rfl rfl (Nat.le_of_ble_eq_true rfl) (by rw [hd]; decide) (fun g6 h => ?_)
        refine wa_iinc C (i := 3) dX9_after_68 rfl (fp_inc1 _) (by rw [hn]; decide) rfl rfl ?_
        refine wa_goto C (tgt := 41) dX9_after_71 (by decide) ?_
        exact WA.weak (ih _ _ h) ⟨rfl, ⟨rfl, ⟨rfl, ⟨rfl, trivial⟩⟩⟩⟩

set_option maxRecDepth 20000 in
theorem ok_X9_after {l : Launch} {E : fp_E} {x1 : Int32} {x2 : Int32} {g : fp_G} {K : Int32 → fp_G → Prop} (h : w_X9_after x1 x2 g K) : fp_M l E yX9_after cX9_after 4 ((Option.some Jvm.ClassFile.FieldType.int)) false 8 [.ref 67, .int x1, .int x2] g K := by
  unfold w_X9_after at h
  refine fp_enter rfl [some (.ref 67), some (.int x1), some (.int x2), none] (Nat.le_of_ble_eq_true rfl) (fun q hq => hq) (fun Z hE hl hv hK hn hd C => ?_)
  subst hE hl hK
  refine wa_aload_n C (i := 0) dX9_after_0 rfl rfl ?_
  refine wa_iload_n C (i := 1) dX9_after_1 rfl rfl ?_
  refine wa_callVi C lq_67 sh_67 rfl s_X9_329 i_X9_isMail e_X9_isMail dX9_after_2 (ok_X9_isMail h) rfl rfl (Nat.le_of_ble_eq_true rfl) (by rw [hd]; decide) (fun v1 g1 h => ?_)
  refine wa_if_ne C (tgt := 14) dX9_after_5 (by decide) h (fun h => ?_) (fun h => ?_)
  · refine wa_aload_n C (i := 0) dX9_after_8 rfl rfl ?_
    refine wa_iconst C (v := (-1)) dX9_after_9 (by decide) ?_
    refine wa_callVi C lq_67 sh_67 rfl s_X9_192 i_X9_no e_X9_no dX9_after_10 (ok_X9_no h) rfl rfl (Nat.le_of_ble_eq_true rfl) (by rw [hd]; decide) (fun v12 g8 h => ?_)
    exact wa_iret C hv rfl dX9_after_13 h
  · refine wa_iload_n C (i := 2) dX9_after_14 rfl rfl ?_
    refine wa_i2l C dX9_after_15 ?_
    refine wa_lconst C (v := 0) dX9_after_16 (by decide) ?_
    refine wa_lconst C (v := 1) dX9_after_17 (by decide) ?_
    refine wa_callSi C s_X9_203 t_X9_isIn dX9_after_18 (ok_X9_isIn h) rfl rfl (Nat.le_of_ble_eq_true rfl) (by rw [hd]; decide) (fun v2 g2 h => ?_)
    refine wa_if_ne C (tgt := 31) dX9_after_21 (by decide) h (fun h => ?_) (fun h => ?_)
    · refine wa_aload_n C (i := 0) dX9_after_24 rfl rfl ?_
      refine wa_bipush C (v := (-2)) dX9_after_25 (by decide) ?_
      refine wa_callVi C lq_67 sh_67 rfl s_X9_192 i_X9_no e_X9_no dX9_after_27 (ok_X9_no h) rfl rfl (Nat.le_of_ble_eq_true rfl) (by rw [hd]; decide) (fun v11 g7 h => ?_)
      exact wa_iret C hv rfl dX9_after_30 h
    · refine wa_aload_n C (i := 0) dX9_after_31 rfl rfl ?_
      refine wa_callVv C lq_67 sh_67 rfl s_X9_366 i_X9_keeps e_X9_keeps dX9_after_32 (ok_X9_keeps h) rfl rfl (Nat.le_of_ble_eq_true rfl) (by rw [hd]; decide) (fun g3 h => ?_)
      refine wa_aload_n C (i := 0) dX9_after_35 rfl rfl ?_
      refine wa_callVv C lq_67 sh_67 rfl s_X9_214 i_X9_findFar e_X9_findFar dX9_after_36 (ok_X9_findFar h) rfl rfl (Nat.le_of_ble_eq_true rfl) (by rw [hd]; decide) (fun g4 h => ?_)
      refine wa_iconst C (v := 0) dX9_after_39 (by decide) ?_
      refine wa_istore_n C (i := 3) dX9_after_40 rfl (by rw [hn]; decide) rfl rfl ?_
      obtain ⟨n41, h⟩ := h
      exact WA.weak (ok_X9_after_41 C hv hn hd n41 _ _ h) ⟨rfl, ⟨rfl, ⟨rfl, ⟨rfl, trivial⟩⟩⟩⟩

set_option maxRecDepth 20000 in
theorem ok_X9_paid_18 {Z : fp_Z} (C : fp_C Z cX9_paid RX9 ((Option.some Jvm.ClassFile.FieldType.int))) (hv : fp_V Z false) (hn : Z.2.2.2.2.1 = 4) (hd : Z.2.2.2.2.2.1 = 2) {x1 : Int32} : ∀ (n : Nat) (x2 : Int32) (x3 : Int32) (g : fp_G), w_X9_paid_18 n x1 x2 x3 g Z.2.2.2.1 → WA Z 18 [some (.ref 67), some (.int x1), some (.int x2), some (.int x3)] [] g := by
  intro n
  induction n with
  | zero => intro x2 x3 g h; exact h.elim
  | succ n ih =>
    intro x2 x3 g h
    rw [w_X9_paid_18] at h
    refine wa_iload_n C (i := 3) dX9_paid_18 rfl rfl ?_
    refine wa_aload_n C (i := 0) dX9_paid_19 rfl rfl ?_
    refine wa_getI C (j := 42) lq_67 sh_67 rfl in_X9 (by decide) rfl f_X9_259 dX9_paid_20 ?_
    refine wa_icmp_ge C (tgt := 75) dX9_paid_23 (by decide) h (fun h => ?_) (fun h => ?_)
    · refine wa_iload_n C (i := 2) dX9_paid_75 rfl rfl ?_
      exact wa_iret C hv rfl dX9_paid_76 h
    · refine wa_iload_n C (i := 2) dX9_paid_26 rfl rfl ?_
      refine wa_aload_n C (i := 0) dX9_paid_27 rfl rfl ?_
      refine wa_getR C (j := 32) lq_67 sh_67 rfl in_X9 (by decide) rfl f_X9_86 dX9_paid_28 ?_
      refine wa_iload_n C (i := 3) dX9_paid_31 rfl rfl ?_
      refine wa_iald C lq_93 sh_93 dX9_paid_32 h (fun v2 h => ?_)
      refine wa_iload_n C (i := 1) dX9_paid_33 rfl rfl ?_
      refine fp_k1 (Q := fun z0j67 => WA Z 67 [some (.ref 67), some (.int x1), none, some (.int x3)] [.int z0j67, .int x2] g) h (fun z0j67 h => ?_) (fun J67 hJ67 h => ?_)
      · refine wa_iadd C dX9_paid_67 ?_
        refine wa_istore_n C (i := 2) dX9_paid_68 rfl (by rw [hn]; decide) rfl rfl ?_
        refine wa_iinc C (i := 3) dX9_paid_69 rfl (fp_inc1 _) (by rw [hn]; decide) rfl rfl ?_
        refine wa_goto C (tgt := 18) dX9_paid_72 (by decide) ?_
        exact WA.weak (ih _ _ _ h) ⟨rfl, ⟨rfl, ⟨rfl, ⟨rfl, trivial⟩⟩⟩⟩
      refine fp_k0 (Q := WA Z 66 [some (.ref 67), some (.int x1), none, some (.int x3)] [.int x2] g) h (fun  h => ?_) (fun J66 hJ66 h => ?_)
      · refine wa_iconst C (v := 0) dX9_paid_66 (by decide) ?_
        exact WA.weak (hJ67 _ h) ⟨rfl, ⟨rfl, ⟨rfl, trivial⟩⟩⟩
      refine wa_icmp_ne C (tgt := 66) dX9_paid_34 (by decide) h (fun h => ?_) (fun h => ?_)
      · refine wa_aload_n C (i := 0) dX9_paid_37 rfl rfl ?_
        refine wa_getR C (j := 29) lq_67 sh_67 rfl in_X9 (by decide) rfl f_X9_77 dX9_paid_38 ?_
        refine wa_iload_n C (i := 3) dX9_paid_41 rfl rfl ?_
        refine wa_iald C lq_90 sh_90 dX9_paid_42 h (fun v3 h => ?_)
        refine wa_iconst C (v := 2) dX9_paid_43 (by decide) ?_
        refine wa_icmp_ne C (tgt := 66) dX9_paid_44 (by decide) h (fun h => ?_) (fun h => ?_)
        · refine wa_aload_n C (i := 0) dX9_paid_47 rfl rfl ?_
          refine wa_getR C (j := 34) lq_67 sh_67 rfl in_X9 (by decide) rfl f_X9_92 dX9_paid_48 ?_
          refine wa_iload_n C (i := 3) dX9_paid_51 rfl rfl ?_
          refine wa_iald C lq_95 sh_95 dX9_paid_52 h (fun v4 h => ?_)
          refine wa_iconst C (v := 2) dX9_paid_53 (by decide) ?_
          refine wa_icmp_ne C (tgt := 66) dX9_paid_54 (by decide) h (fun h => ?_) (fun h => ?_)
          · refine wa_aload_n C (i := 0) dX9_paid_57 rfl rfl ?_
            refine wa_getR C (j := 33) lq_67 sh_67 rfl in_X9 (by decide) rfl f_X9_89 dX9_paid_58 ?_
            refine wa_iload_n C (i := 3) dX9_paid_61 rfl rfl ?_
            refine wa_iald C lq_94 sh_94 dX9_paid_62 h (fun v5 h => ?_)
            refine wa_goto C (tgt := 67) dX9_paid_63 (by decide) ?_
            exact WA.weak (hJ67 _ h) ⟨rfl, ⟨rfl, ⟨rfl, trivial⟩⟩⟩
          · exact WA.weak (hJ66  h) ⟨rfl, ⟨rfl, ⟨rfl, trivial⟩⟩⟩
        · exact WA.weak (hJ66  h) ⟨rfl, ⟨rfl, ⟨rfl, trivial⟩⟩⟩
      · exact WA.weak (hJ66  h) ⟨rfl, ⟨rfl, ⟨rfl, trivial⟩⟩⟩

set_option maxRecDepth 20000 in
theorem ok_X9_paid {l : Launch} {E : fp_E} {x1 : Int32} {g : fp_G} {K : Int32 → fp_G → Prop} (h : w_X9_paid x1 g K) : fp_M l E yX9_paid cX9_paid 4 ((Option.some Jvm.ClassFile.FieldType.int)) false 2 [.ref 67, .int x1] g K := by
  unfold w_X9_paid at h
  refine fp_enter rfl [some (.ref 67), some (.int x1), none, none] (Nat.le_of_ble_eq_true rfl) (fun q hq => hq) (fun Z hE hl hv hK hn hd C => ?_)
  subst hE hl hK
  refine wa_aload_n C (i := 0) dX9_paid_0 rfl rfl ?_
  refine wa_iload_n C (i := 1) dX9_paid_1 rfl rfl ?_
  refine wa_callVi C lq_67 sh_67 rfl s_X9_241 i_X9_isMan e_X9_isMan dX9_paid_2 (ok_X9_isMan h) rfl rfl (Nat.le_of_ble_eq_true rfl) (by rw [hd]; decide) (fun v1 g1 h => ?_)
  refine wa_if_ne C (tgt := 14) dX9_paid_5 (by decide) h (fun h => ?_) (fun h => ?_)
  · refine wa_aload_n C (i := 0) dX9_paid_8 rfl rfl ?_
    refine wa_iconst C (v := (-1)) dX9_paid_9 (by decide) ?_
    refine wa_callVi C lq_67 sh_67 rfl s_X9_192 i_X9_no e_X9_no dX9_paid_10 (ok_X9_no h) rfl rfl (Nat.le_of_ble_eq_true rfl) (by rw [hd]; decide) (fun v6 g2 h => ?_)
    exact wa_iret C hv rfl dX9_paid_13 h
  · refine wa_iconst C (v := 0) dX9_paid_14 (by decide) ?_
    refine wa_istore_n C (i := 2) dX9_paid_15 rfl (by rw [hn]; decide) rfl rfl ?_
    refine wa_iconst C (v := 0) dX9_paid_16 (by decide) ?_
    refine wa_istore_n C (i := 3) dX9_paid_17 rfl (by rw [hn]; decide) rfl rfl ?_
    obtain ⟨n18, h⟩ := h
    exact WA.weak (ok_X9_paid_18 C hv hn hd n18 _ _ _ h) ⟨rfl, ⟨rfl, ⟨rfl, ⟨rfl, trivial⟩⟩⟩⟩

set_option maxRecDepth 20000 in
theorem ok_X9_fits_30 {Z : fp_Z} (C : fp_C Z cX9_fits RX9 ((Option.some Jvm.ClassFile.FieldType.boolean))) (hv : fp_V Z false) (hn : Z.2.2.2.2.1 = 7) (hd : Z.2.2.2.2.2.1 = 1) : ∀ (n : Nat) (x4 : Int32) (x5 : Int32) (x6 : Int32) (g : fp_G), w_X9_fits_30 n x4 x5 x6 g Z.2.2.2.1 → WA Z 30 [none, none, none, none, some (.int x4), some (.int x5), some (.int x6)] [] g := by
  intro n
  induction n with
  | zero => intro x4 x5 x6 g h; exact h.elim
  | succ n ih =>
    intro x4 x5 x6 g h
    rw [w_X9_fits_30] at h
    refine wa_iload C dX9_fits_30 rfl ?_
    refine wa_iconst C (v := 4) dX9_fits_32 (by decide) ?_
    refine wa_icmp_ge C (tgt := 81) dX9_fits_33 (by decide) h (fun h => ?_) (fun h => ?_)
    · refine wa_iconst C (v := 1) dX9_fits_81 (by decide) ?_
      exact wa_zret C hv rfl rfl dX9_fits_82 h
    · refine wa_iload C dX9_fits_36 rfl ?_
      refine wa_bipush C (v := 11) dX9_fits_38 (by decide) ?_
      refine wa_irem C dX9_fits_40 h (fun h => ?_)
      refine wa_bipush C (v := 10) dX9_fits_41 (by decide) ?_
      refine fp_k0 (Q := WA Z 61 [none, none, none, none, some (.int x4), some (.int x5), some (.int x6)] [] g) h (fun  h => ?_) (fun J61 hJ61 h => ?_)
      · refine wa_iload C dX9_fits_61 rfl ?_
        refine wa_bipush C (v := 11) dX9_fits_63 (by decide) ?_
        refine wa_idiv C dX9_fits_65 h (fun h => ?_)
        refine wa_istore C (i := 4) dX9_fits_66 (by rw [hn]; decide) rfl rfl ?_
        refine wa_iload C dX9_fits_68 rfl ?_
        refine wa_bipush C (v := 10) dX9_fits_70 (by decide) ?_
        refine wa_idiv C dX9_fits_72 h (fun h => ?_)
        refine wa_istore C (i := 5) dX9_fits_73 (by rw [hn]; decide) rfl rfl ?_
        refine wa_iinc C (i := 6) dX9_fits_75 rfl (fp_inc1 _) (by rw [hn]; decide) rfl rfl ?_
        refine wa_goto C (tgt := 30) dX9_fits_78 (by decide) ?_
        exact WA.weak (ih _ _ _ _ h) ⟨rfl, ⟨rfl, ⟨rfl, trivial⟩⟩⟩
      refine wa_icmp_eq C (tgt := 61) dX9_fits_43 (by decide) h (fun h => ?_) (fun h => ?_)
      · exact WA.weak (hJ61  h) ⟨rfl, ⟨rfl, ⟨rfl, trivial⟩⟩⟩
      · refine wa_iload C dX9_fits_46 rfl ?_
        refine wa_bipush C (v := 11) dX9_fits_48 (by decide) ?_
        refine wa_irem C dX9_fits_50 h (fun h => ?_)
        refine wa_iload C dX9_fits_51 rfl ?_
        refine wa_bipush C (v := 10) dX9_fits_53 (by decide) ?_
        refine wa_irem C dX9_fits_55 h (fun h => ?_)
        refine wa_icmp_eq C (tgt := 61) dX9_fits_56 (by decide) h (fun h => ?_) (fun h => ?_)
        · exact WA.weak (hJ61  h) ⟨rfl, ⟨rfl, ⟨rfl, trivial⟩⟩⟩
        · refine wa_iconst C (v := 0) dX9_fits_59 (by decide) ?_
          exact wa_zret C hv rfl rfl dX9_fits_60 h

set_option maxRecDepth 20000 in
theorem ok_X9_fits {l : Launch} {E : fp_E} {x1 : Int32} {x2 : Int32} {x3 : Int32} {g : fp_G} {K : Int32 → fp_G → Prop} (h : w_X9_fits x1 x2 x3 g K) : fp_M l E yX9_fits cX9_fits 7 ((Option.some Jvm.ClassFile.FieldType.boolean)) false 1 [.ref 67, .int x1, .int x2, .int x3] g K := by
  unfold w_X9_fits at h
  refine fp_enter rfl [some (.ref 67), some (.int x1), some (.int x2), some (.int x3), none, none, none] (Nat.le_of_ble_eq_true rfl) (fun q hq => hq) (fun Z hE hl hv hK hn hd C => ?_)
  subst hE hl hK
  refine wa_iload_n C (i := 2) dX9_fits_0 rfl rfl ?_
  refine fp_k0 (Q := WA Z 16 [some (.ref 67), some (.int x1), none, some (.int x3), none, none, none] [] g) h (fun  h => ?_) (fun J16 hJ16 h => ?_)
  · refine wa_iload_n C (i := 3) dX9_fits_16 rfl rfl ?_
    refine wa_istore C (i := 4) dX9_fits_17 (by rw [hn]; decide) rfl rfl ?_
    refine wa_aload_n C (i := 0) dX9_fits_19 rfl rfl ?_
    refine wa_getR C (j := 21) lq_67 sh_67 rfl in_X9 (by decide) rfl f_X9_62 dX9_fits_20 ?_
    refine wa_iload_n C (i := 1) dX9_fits_23 rfl rfl ?_
    refine wa_iald C lq_85 sh_85 dX9_fits_24 h (fun v1 h => ?_)
    refine wa_istore C (i := 5) dX9_fits_25 (by rw [hn]; decide) rfl rfl ?_
    refine wa_iconst C (v := 0) dX9_fits_27 (by decide) ?_
    refine wa_istore C (i := 6) dX9_fits_28 (by rw [hn]; decide) rfl rfl ?_
    obtain ⟨n30, h⟩ := h
    exact WA.weak (ok_X9_fits_30 C hv hn hd n30 _ _ _ _ h) ⟨rfl, ⟨rfl, ⟨rfl, trivial⟩⟩⟩
  refine wa_if_lt C (tgt := 16) dX9_fits_1 (by decide) h (fun h => ?_) (fun h => ?_)
  · exact WA.weak (hJ16  h) ⟨rfl, ⟨rfl, ⟨rfl, trivial⟩⟩⟩
  · refine wa_aload_n C (i := 0) dX9_fits_4 rfl rfl ?_
    refine wa_getR C (j := 20) lq_67 sh_67 rfl in_X9 (by decide) rfl f_X9_59 dX9_fits_5 ?_
    refine wa_iload_n C (i := 1) dX9_fits_8 rfl rfl ?_
    refine wa_iald C lq_84 sh_84 dX9_fits_9 h (fun v2 h => ?_)
    refine wa_iload_n C (i := 2) dX9_fits_10 rfl rfl ?_
    refine wa_icmp_eq C (tgt := 16) dX9_fits_11 (by decide) h (fun h => ?_) (fun h => ?_)
    · exact WA.weak (hJ16  h) ⟨rfl, ⟨rfl, ⟨rfl, trivial⟩⟩⟩
    · refine wa_iconst C (v := 0) dX9_fits_14 (by decide) ?_
      exact wa_zret C hv rfl rfl dX9_fits_15 h

set_option maxRecDepth 20000 in
theorem ok_X9_notCover {l : Launch} {E : fp_E} {x1 : Int32} {x2 : Int32} {g : fp_G} {K : Int32 → fp_G → Prop} (h : w_X9_notCover x1 x2 g K) : fp_M l E yX9_notCover cX9_notCover 3 ((Option.some Jvm.ClassFile.FieldType.int)) false 2 [.ref 67, .int x1, .int x2] g K := by
  unfold w_X9_notCover at h
  refine fp_enter rfl [some (.ref 67), some (.int x1), some (.int x2)] (Nat.le_of_ble_eq_true rfl) (fun q hq => hq) (fun Z hE hl hv hK hn hd C => ?_)
  subst hE hl hK
  refine wa_iload_n C (i := 1) dX9_notCover_0 rfl rfl ?_
  refine wa_i2l C dX9_notCover_1 ?_
  refine wa_ldc2 C (v := (-1)) k_X9_372 dX9_notCover_2 ?_
  refine wa_ldc2 C (v := 15) k_X9_374 dX9_notCover_5 ?_
  refine wa_callSi C s_X9_203 t_X9_isIn dX9_notCover_8 (ok_X9_isIn h) rfl rfl (Nat.le_of_ble_eq_true rfl) (by rw [hd]; decide) (fun v1 g1 h => ?_)
  refine wa_if_ne C (tgt := 18) dX9_notCover_11 (by decide) h (fun h => ?_) (fun h => ?_)
  · refine wa_iconst C (v := (-1)) dX9_notCover_14 (by decide) ?_
    refine wa_goto C (tgt := 27) dX9_notCover_15 (by decide) ?_
    exact wa_iret C hv rfl dX9_notCover_27 h
  · refine wa_iload_n C (i := 2) dX9_notCover_18 rfl rfl ?_
    refine wa_i2l C dX9_notCover_19 ?_
    refine wa_lconst C (v := 0) dX9_notCover_20 (by decide) ?_
    refine wa_ldc2 C (v := 14640) k_X9_376 dX9_notCover_21 ?_
    refine wa_callSi C s_X9_188 t_X9_out dX9_notCover_24 (ok_X9_out h) rfl rfl (Nat.le_of_ble_eq_true rfl) (by rw [hd]; decide) (fun v2 g2 h => ?_)
    exact wa_iret C hv rfl dX9_notCover_27 h

set_option maxRecDepth 20000 in
theorem ok_X9_cover_23 {Z : fp_Z} (C : fp_C Z cX9_cover RX9 ((Option.some Jvm.ClassFile.FieldType.int))) (hv : fp_V Z false) (hn : Z.2.2.2.2.1 = 6) (hd : Z.2.2.2.2.2.1 = 3) {x1 : Int32} {x2 : Int32} : ∀ (n : Nat) (x4 : Int32) (x5 : Int32) (g : fp_G), w_X9_cover_23 n x1 x2 x4 x5 g Z.2.2.2.1 → WA Z 23 [some (.ref 67), some (.int x1), some (.int x2), none, some (.int x4), some (.int x5)] [] g := by
  intro n
  induction n with
  | zero => intro x4 x5 g h; exact h.elim
  | succ n ih =>
    intro x4 x5 g h
    rw [w_X9_cover_23] at h
    refine wa_iload C dX9_cover_23 rfl ?_
    refine wa_aload_n C (i := 0) dX9_cover_25 rfl rfl ?_
    refine wa_getI C (j := 27) lq_67 sh_67 rfl in_X9 (by decide) rfl f_X9_220 dX9_cover_26 ?_
    refine wa_icmp_ge C (tgt := 59) dX9_cover_29 (by decide) h (fun h => ?_) (fun h => ?_)
    · refine wa_iload C dX9_cover_59 rfl ?_
      exact wa_iret C hv rfl dX9_cover_61 h
    · refine wa_iload C dX9_cover_32 rfl ?_
      refine wa_aload_n C (i := 0) dX9_cover_34 rfl rfl ?_
      refine wa_iload C dX9_cover_35 rfl ?_
      refine wa_iload_n C (i := 1) dX9_cover_37 rfl rfl ?_
      refine wa_iload_n C (i := 2) dX9_cover_38 rfl rfl ?_
      refine wa_callVi C lq_67 sh_67 rfl s_X9_381 i_X9_fits e_X9_fits dX9_cover_39 (ok_X9_fits h) rfl rfl (Nat.le_of_ble_eq_true rfl) (by rw [hd]; decide) (fun v2 g2 h => ?_)
      refine fp_k1 (Q := fun z0j50 => WA Z 50 [some (.ref 67), some (.int x1), some (.int x2), none, none, some (.int x5)] [.int z0j50, .int x4] g2) h (fun z0j50 h => ?_) (fun J50 hJ50 h => ?_)
      · refine wa_iadd C dX9_cover_50 ?_
        refine wa_istore C (i := 4) dX9_cover_51 (by rw [hn]; decide) rfl rfl ?_
        refine wa_iinc C (i := 5) dX9_cover_53 rfl (fp_inc1 _) (by rw [hn]; decide) rfl rfl ?_
        refine wa_goto C (tgt := 23) dX9_cover_56 (by decide) ?_
        exact WA.weak (ih _ _ _ h) ⟨rfl, ⟨rfl, ⟨rfl, ⟨rfl, ⟨rfl, trivial⟩⟩⟩⟩⟩
      refine wa_if_eq C (tgt := 49) dX9_cover_42 (by decide) h (fun h => ?_) (fun h => ?_)
      · refine wa_iconst C (v := 0) dX9_cover_49 (by decide) ?_
        exact WA.weak (hJ50 _ h) ⟨rfl, ⟨rfl, ⟨rfl, ⟨rfl, trivial⟩⟩⟩⟩
      · refine wa_iconst C (v := 1) dX9_cover_45 (by decide) ?_
        refine wa_goto C (tgt := 50) dX9_cover_46 (by decide) ?_
        exact WA.weak (hJ50 _ h) ⟨rfl, ⟨rfl, ⟨rfl, ⟨rfl, trivial⟩⟩⟩⟩

set_option maxRecDepth 20000 in
theorem ok_X9_cover {l : Launch} {E : fp_E} {x1 : Int32} {x2 : Int32} {g : fp_G} {K : Int32 → fp_G → Prop} (h : w_X9_cover x1 x2 g K) : fp_M l E yX9_cover cX9_cover 6 ((Option.some Jvm.ClassFile.FieldType.int)) false 3 [.ref 67, .int x1, .int x2] g K := by
  unfold w_X9_cover at h
  refine fp_enter rfl [some (.ref 67), some (.int x1), some (.int x2), none, none, none] (Nat.le_of_ble_eq_true rfl) (fun q hq => hq) (fun Z hE hl hv hK hn hd C => ?_)
  subst hE hl hK
  refine wa_aload_n C (i := 0) dX9_cover_0 rfl rfl ?_
  refine wa_iload_n C (i := 1) dX9_cover_1 rfl rfl ?_
  refine wa_iload_n C (i := 2) dX9_cover_2 rfl rfl ?_
  refine wa_callVi C lq_67 sh_67 rfl s_X9_378 i_X9_notCover e_X9_notCover dX9_cover_3 (ok_X9_notCover h) rfl rfl (Nat.le_of_ble_eq_true rfl) (by rw [hd]; decide) (fun v1 g1 h => ?_)
  refine wa_istore_n C (i := 3) dX9_cover_6 rfl (by rw [hn]; decide) rfl rfl ?_
  refine wa_iload_n C (i := 3) dX9_cover_7 rfl rfl ?_
  refine wa_if_eq C (tgt := 17) dX9_cover_8 (by decide) h (fun h => ?_) (fun h => ?_)
  · refine wa_iconst C (v := 0) dX9_cover_17 (by decide) ?_
    refine wa_istore C (i := 4) dX9_cover_18 (by rw [hn]; decide) rfl rfl ?_
    refine wa_iconst C (v := 0) dX9_cover_20 (by decide) ?_
    refine wa_istore C (i := 5) dX9_cover_21 (by rw [hn]; decide) rfl rfl ?_
    obtain ⟨n23, h⟩ := h
    exact WA.weak (ok_X9_cover_23 C hv hn hd n23 _ _ _ h) ⟨rfl, ⟨rfl, ⟨rfl, ⟨rfl, ⟨rfl, trivial⟩⟩⟩⟩⟩
  · refine wa_aload_n C (i := 0) dX9_cover_11 rfl rfl ?_
    refine wa_iload_n C (i := 3) dX9_cover_12 rfl rfl ?_
    refine wa_callVi C lq_67 sh_67 rfl s_X9_192 i_X9_no e_X9_no dX9_cover_13 (ok_X9_no h) rfl rfl (Nat.le_of_ble_eq_true rfl) (by rw [hd]; decide) (fun v3 g3 h => ?_)
    exact wa_iret C hv rfl dX9_cover_16 h

set_option maxRecDepth 20000 in
theorem ok_X9_sure_24 {Z : fp_Z} (C : fp_C Z cX9_sure RX9 ((Option.some Jvm.ClassFile.FieldType.int))) (hv : fp_V Z false) (hn : Z.2.2.2.2.1 = 6) (hd : Z.2.2.2.2.2.1 = 3) {x1 : Int32} {x2 : Int32} : ∀ (n : Nat) (x4 : Int32) (x5 : Int32) (g : fp_G), w_X9_sure_24 n x1 x2 x4 x5 g Z.2.2.2.1 → WA Z 24 [some (.ref 67), some (.int x1), some (.int x2), none, some (.int x4), some (.int x5)] [] g := by
  intro n
  induction n with
  | zero => intro x4 x5 g h; exact h.elim
  | succ n ih =>
    intro x4 x5 g h
    rw [w_X9_sure_24] at h
    refine wa_iload C dX9_sure_24 rfl ?_
    refine wa_aload_n C (i := 0) dX9_sure_26 rfl rfl ?_
    refine wa_getI C (j := 27) lq_67 sh_67 rfl in_X9 (by decide) rfl f_X9_220 dX9_sure_27 ?_
    refine wa_icmp_ge C (tgt := 65) dX9_sure_30 (by decide) h (fun h => ?_) (fun h => ?_)
    · refine wa_iload C dX9_sure_65 rfl ?_
      exact wa_iret C hv rfl dX9_sure_67 h
    · refine wa_aload_n C (i := 0) dX9_sure_33 rfl rfl ?_
      refine wa_iload C dX9_sure_34 rfl ?_
      refine wa_iload_n C (i := 1) dX9_sure_36 rfl rfl ?_
      refine wa_iload_n C (i := 2) dX9_sure_37 rfl rfl ?_
      refine wa_callVi C lq_67 sh_67 rfl s_X9_381 i_X9_fits e_X9_fits dX9_sure_38 (ok_X9_fits h) rfl rfl (Nat.le_of_ble_eq_true rfl) (by rw [hd]; decide) (fun v2 g2 h => ?_)
      refine fp_k1 (Q := fun x4j59 => WA Z 59 [some (.ref 67), some (.int x1), some (.int x2), none, some (.int x4j59), some (.int x5)] [] g2) h (fun x4j59 h => ?_) (fun J59 hJ59 h => ?_)
      · refine wa_iinc C (i := 5) dX9_sure_59 rfl (fp_inc1 _) (by rw [hn]; decide) rfl rfl ?_
        refine wa_goto C (tgt := 24) dX9_sure_62 (by decide) ?_
        exact WA.weak (ih _ _ _ h) ⟨rfl, ⟨rfl, ⟨rfl, ⟨rfl, ⟨rfl, trivial⟩⟩⟩⟩⟩
      refine wa_if_ne C (tgt := 47) dX9_sure_41 (by decide) h (fun h => ?_) (fun h => ?_)
      · refine wa_goto C (tgt := 59) dX9_sure_44 (by decide) ?_
        exact WA.weak (hJ59 _ h) ⟨rfl, ⟨rfl, ⟨rfl, ⟨rfl, ⟨rfl, trivial⟩⟩⟩⟩⟩
      · refine wa_iload C dX9_sure_47 rfl ?_
        refine wa_if_lt C (tgt := 55) dX9_sure_49 (by decide) h (fun h => ?_) (fun h => ?_)
        · refine wa_iload C dX9_sure_55 rfl ?_
          refine wa_istore C (i := 4) dX9_sure_57 (by rw [hn]; decide) rfl rfl ?_
          exact WA.weak (hJ59 _ h) ⟨rfl, ⟨rfl, ⟨rfl, ⟨rfl, ⟨rfl, trivial⟩⟩⟩⟩⟩
        · refine wa_bipush C (v := (-9)) dX9_sure_52 (by decide) ?_
          exact wa_iret C hv rfl dX9_sure_54 h

set_option maxRecDepth 20000 in
theorem ok_X9_sure {l : Launch} {E : fp_E} {x1 : Int32} {x2 : Int32} {g : fp_G} {K : Int32 → fp_G → Prop} (h : w_X9_sure x1 x2 g K) : fp_M l E yX9_sure cX9_sure 6 ((Option.some Jvm.ClassFile.FieldType.int)) false 3 [.ref 67, .int x1, .int x2] g K := by
  unfold w_X9_sure at h
  refine fp_enter rfl [some (.ref 67), some (.int x1), some (.int x2), none, none, none] (Nat.le_of_ble_eq_true rfl) (fun q hq => hq) (fun Z hE hl hv hK hn hd C => ?_)
  subst hE hl hK
  refine wa_aload_n C (i := 0) dX9_sure_0 rfl rfl ?_
  refine wa_iload_n C (i := 1) dX9_sure_1 rfl rfl ?_
  refine wa_iload_n C (i := 2) dX9_sure_2 rfl rfl ?_
  refine wa_callVi C lq_67 sh_67 rfl s_X9_378 i_X9_notCover e_X9_notCover dX9_sure_3 (ok_X9_notCover h) rfl rfl (Nat.le_of_ble_eq_true rfl) (by rw [hd]; decide) (fun v1 g1 h => ?_)
  refine wa_istore_n C (i := 3) dX9_sure_6 rfl (by rw [hn]; decide) rfl rfl ?_
  refine wa_iload_n C (i := 3) dX9_sure_7 rfl rfl ?_
  refine wa_if_eq C (tgt := 17) dX9_sure_8 (by decide) h (fun h => ?_) (fun h => ?_)
  · refine wa_bipush C (v := (-9)) dX9_sure_17 (by decide) ?_
    refine wa_istore C (i := 4) dX9_sure_19 (by rw [hn]; decide) rfl rfl ?_
    refine wa_iconst C (v := 0) dX9_sure_21 (by decide) ?_
    refine wa_istore C (i := 5) dX9_sure_22 (by rw [hn]; decide) rfl rfl ?_
    obtain ⟨n24, h⟩ := h
    exact WA.weak (ok_X9_sure_24 C hv hn hd n24 _ _ _ h) ⟨rfl, ⟨rfl, ⟨rfl, ⟨rfl, ⟨rfl, trivial⟩⟩⟩⟩⟩
  · refine wa_aload_n C (i := 0) dX9_sure_11 rfl rfl ?_
    refine wa_iload_n C (i := 3) dX9_sure_12 rfl rfl ?_
    refine wa_callVi C lq_67 sh_67 rfl s_X9_192 i_X9_no e_X9_no dX9_sure_13 (ok_X9_no h) rfl rfl (Nat.le_of_ble_eq_true rfl) (by rw [hd]; decide) (fun v3 g3 h => ?_)
    exact wa_iret C hv rfl dX9_sure_16 h

set_option maxRecDepth 20000 in
theorem ok_X9_sack {l : Launch} {E : fp_E} {x1 : Int32} {x2 : Int32} {x3 : Int32} {g : fp_G} {K : Int32 → fp_G → Prop} (h : w_X9_sack x1 x2 x3 g K) : fp_M l E yX9_sack cX9_sack 5 ((Option.some Jvm.ClassFile.FieldType.int)) false 2 [.ref 67, .int x1, .int x2, .int x3] g K := by
  unfold w_X9_sack at h
  refine fp_enter rfl [some (.ref 67), some (.int x1), some (.int x2), some (.int x3), none] (Nat.le_of_ble_eq_true rfl) (fun q hq => hq) (fun Z hE hl hv hK hn hd C => ?_)
  subst hE hl hK
  refine wa_iload_n C (i := 1) dX9_sack_0 rfl rfl ?_
  refine wa_iconst C (v := 1) dX9_sack_1 (by decide) ?_
  refine fp_k1 (Q := fun z0j54 => WA Z 54 [some (.ref 67), some (.int x1), some (.int x2), some (.int x3), none] [.int z0j54] g) h (fun z0j54 h => ?_) (fun J54 hJ54 h => ?_)
  · refine wa_istore C (i := 4) dX9_sack_54 (by rw [hn]; decide) rfl rfl ?_
    refine wa_iload C dX9_sack_56 rfl ?_
    refine wa_if_eq C (tgt := 68) dX9_sack_58 (by decide) h (fun h => ?_) (fun h => ?_)
    · refine wa_aload_n C (i := 0) dX9_sack_68 rfl rfl ?_
      refine wa_getR C (j := 68) lq_67 sh_67 rfl in_X9 (by decide) rfl f_X9_171 dX9_sack_69 ?_
      refine wa_aload_n C (i := 0) dX9_sack_72 rfl rfl ?_
      refine wa_getI C (j := 72) lq_67 sh_67 rfl in_X9 (by decide) rfl f_X9_384 dX9_sack_73 ?_
      refine wa_iload_n C (i := 1) dX9_sack_76 rfl rfl ?_
      refine wa_iast C lq_120 sh_120 dX9_sack_77 h (fun g1 h => ?_)
      refine wa_aload_n C (i := 0) dX9_sack_78 rfl rfl ?_
      refine wa_getR C (j := 69) lq_67 sh_67 rfl in_X9 (by decide) rfl f_X9_174 dX9_sack_79 ?_
      refine wa_aload_n C (i := 0) dX9_sack_82 rfl rfl ?_
      refine wa_getI C (j := 72) lq_67 sh_67 rfl in_X9 (by decide) rfl f_X9_384 dX9_sack_83 ?_
      refine wa_iload_n C (i := 2) dX9_sack_86 rfl rfl ?_
      refine wa_iast C lq_121 sh_121 dX9_sack_87 h (fun g2 h => ?_)
      refine wa_aload_n C (i := 0) dX9_sack_88 rfl rfl ?_
      refine wa_getR C (j := 70) lq_67 sh_67 rfl in_X9 (by decide) rfl f_X9_177 dX9_sack_89 ?_
      refine wa_aload_n C (i := 0) dX9_sack_92 rfl rfl ?_
      refine wa_getI C (j := 72) lq_67 sh_67 rfl in_X9 (by decide) rfl f_X9_384 dX9_sack_93 ?_
      refine wa_iload_n C (i := 3) dX9_sack_96 rfl rfl ?_
      refine wa_iast C lq_122 sh_122 dX9_sack_97 h (fun g3 h => ?_)
      refine wa_aload_n C (i := 0) dX9_sack_98 rfl rfl ?_
      refine wa_dup C dX9_sack_99 rfl ?_
      refine wa_getI C (j := 72) lq_67 sh_67 rfl in_X9 (by decide) rfl f_X9_384 dX9_sack_100 ?_
      refine wa_iconst C (v := 1) dX9_sack_103 (by decide) ?_
      refine wa_iadd C dX9_sack_104 ?_
      refine wa_putI C (j := 72) lq_67 sh_67 rfl in_X9 (by decide) tyX9 tyX9_ok nmX9 rfl rfl rfl f_X9_384 dX9_sack_105 h (fun g4 h => ?_)
      refine wa_aload_n C (i := 0) dX9_sack_108 rfl rfl ?_
      refine wa_getI C (j := 72) lq_67 sh_67 rfl in_X9 (by decide) rfl f_X9_384 dX9_sack_109 ?_
      refine wa_iconst C (v := 1) dX9_sack_112 (by decide) ?_
      refine wa_isub C dX9_sack_113 ?_
      exact wa_iret C hv rfl dX9_sack_114 h
    · refine wa_aload_n C (i := 0) dX9_sack_61 rfl rfl ?_
      refine wa_iload C dX9_sack_62 rfl ?_
      refine wa_callVi C lq_67 sh_67 rfl s_X9_192 i_X9_no e_X9_no dX9_sack_64 (ok_X9_no h) rfl rfl (Nat.le_of_ble_eq_true rfl) (by rw [hd]; decide) (fun v1 g5 h => ?_)
      exact wa_iret C hv rfl dX9_sack_67 h
  refine fp_k0 (Q := WA Z 14 [some (.ref 67), some (.int x1), some (.int x2), some (.int x3), none] [] g) h (fun  h => ?_) (fun J14 hJ14 h => ?_)
  · refine wa_bipush C (v := (-4)) dX9_sack_14 (by decide) ?_
    refine wa_goto C (tgt := 54) dX9_sack_16 (by decide) ?_
    exact WA.weak (hJ54 _ h) ⟨rfl, ⟨rfl, ⟨rfl, ⟨rfl, trivial⟩⟩⟩⟩
  refine wa_icmp_lt C (tgt := 14) dX9_sack_2 (by decide) h (fun h => ?_) (fun h => ?_)
  · exact WA.weak (hJ14  h) ⟨rfl, ⟨rfl, ⟨rfl, ⟨rfl, trivial⟩⟩⟩⟩
  · refine wa_iload_n C (i := 2) dX9_sack_5 rfl rfl ?_
    refine wa_iconst C (v := 1) dX9_sack_6 (by decide) ?_
    refine wa_icmp_lt C (tgt := 14) dX9_sack_7 (by decide) h (fun h => ?_) (fun h => ?_)
    · exact WA.weak (hJ14  h) ⟨rfl, ⟨rfl, ⟨rfl, ⟨rfl, trivial⟩⟩⟩⟩
    · refine wa_iload_n C (i := 3) dX9_sack_10 rfl rfl ?_
      refine wa_if_ge C (tgt := 19) dX9_sack_11 (by decide) h (fun h => ?_) (fun h => ?_)
      · refine wa_iload_n C (i := 1) dX9_sack_19 rfl rfl ?_
        refine wa_bipush C (v := 99) dX9_sack_20 (by decide) ?_
        refine fp_k0 (Q := WA Z 48 [some (.ref 67), some (.int x1), some (.int x2), some (.int x3), none] [] g) h (fun  h => ?_) (fun J48 hJ48 h => ?_)
        · refine wa_bipush C (v := (-6)) dX9_sack_48 (by decide) ?_
          refine wa_goto C (tgt := 54) dX9_sack_50 (by decide) ?_
          exact WA.weak (hJ54 _ h) ⟨rfl, ⟨rfl, ⟨rfl, ⟨rfl, trivial⟩⟩⟩⟩
        refine wa_icmp_gt C (tgt := 48) dX9_sack_22 (by decide) h (fun h => ?_) (fun h => ?_)
        · exact WA.weak (hJ48  h) ⟨rfl, ⟨rfl, ⟨rfl, ⟨rfl, trivial⟩⟩⟩⟩
        · refine wa_iload_n C (i := 2) dX9_sack_25 rfl rfl ?_
          refine wa_sipush C (v := 999) dX9_sack_26 (by decide) ?_
          refine wa_icmp_gt C (tgt := 48) dX9_sack_29 (by decide) h (fun h => ?_) (fun h => ?_)
          · exact WA.weak (hJ48  h) ⟨rfl, ⟨rfl, ⟨rfl, ⟨rfl, trivial⟩⟩⟩⟩
          · refine wa_iload_n C (i := 3) dX9_sack_32 rfl rfl ?_
            refine wa_sipush C (v := 9999) dX9_sack_33 (by decide) ?_
            refine wa_icmp_gt C (tgt := 48) dX9_sack_36 (by decide) h (fun h => ?_) (fun h => ?_)
            · exact WA.weak (hJ48  h) ⟨rfl, ⟨rfl, ⟨rfl, ⟨rfl, trivial⟩⟩⟩⟩
            · refine wa_aload_n C (i := 0) dX9_sack_39 rfl rfl ?_
              refine wa_getI C (j := 72) lq_67 sh_67 rfl in_X9 (by decide) rfl f_X9_384 dX9_sack_40 ?_
              refine wa_bipush C (v := 7) dX9_sack_43 (by decide) ?_
              refine wa_icmp_ne C (tgt := 53) dX9_sack_45 (by decide) h (fun h => ?_) (fun h => ?_)
              · exact WA.weak (hJ48  h) ⟨rfl, ⟨rfl, ⟨rfl, ⟨rfl, trivial⟩⟩⟩⟩
              · refine wa_iconst C (v := 0) dX9_sack_53 (by decide) ?_
                exact WA.weak (hJ54 _ h) ⟨rfl, ⟨rfl, ⟨rfl, ⟨rfl, trivial⟩⟩⟩⟩
      · exact WA.weak (hJ14  h) ⟨rfl, ⟨rfl, ⟨rfl, ⟨rfl, trivial⟩⟩⟩⟩

set_option maxRecDepth 20000 in
theorem ok_X9_canBe_15 {Z : fp_Z} (C : fp_C Z cX9_canBe RX9 ((Option.some Jvm.ClassFile.FieldType.boolean))) (hv : fp_V Z false) (hn : Z.2.2.2.2.1 = 6) (hd : Z.2.2.2.2.2.1 = 1) {x1 : Int32} {x2 : Int32} {E104 : Int32 → fp_G → Prop} (hE104 : ∀ y3 g, E104 y3 g → WA Z 104 [some (.ref 67), some (.int x1), some (.int x2), some (.int y3), none, none] [] g) : ∀ (n : Nat) (x3 : Int32) (x4 : Int32) (g : fp_G), w_X9_canBe_15 n x1 x2 x3 x4 g Z.2.2.2.1 E104 → WA Z 15 [some (.ref 67), some (.int x1), some (.int x2), some (.int x3), some (.int x4), none] [] g := by
  intro n
  induction n with
  | zero => intro x3 x4 g h; exact h.elim
  | succ n ih =>
    intro x3 x4 g h
    rw [w_X9_canBe_15] at h
    refine wa_iload C dX9_canBe_15 rfl ?_
    refine wa_aload_n C (i := 0) dX9_canBe_17 rfl rfl ?_
    refine wa_getI C (j := 72) lq_67 sh_67 rfl in_X9 (by decide) rfl f_X9_384 dX9_canBe_18 ?_
    refine wa_icmp_ge C (tgt := 104) dX9_canBe_21 (by decide) h (fun h => ?_) (fun h => ?_)
    · exact WA.weak (hE104 _ _ h) ⟨rfl, ⟨rfl, ⟨rfl, ⟨rfl, trivial⟩⟩⟩⟩
    · refine wa_aload_n C (i := 0) dX9_canBe_24 rfl rfl ?_
      refine wa_getR C (j := 69) lq_67 sh_67 rfl in_X9 (by decide) rfl f_X9_174 dX9_canBe_25 ?_
      refine wa_iload C dX9_canBe_28 rfl ?_
      refine wa_iald C lq_121 sh_121 dX9_canBe_30 h (fun v1 h => ?_)
      refine wa_aload_n C (i := 0) dX9_canBe_31 rfl rfl ?_
      refine wa_getR C (j := 69) lq_67 sh_67 rfl in_X9 (by decide) rfl f_X9_174 dX9_canBe_32 ?_
      refine wa_iload_n C (i := 2) dX9_canBe_35 rfl rfl ?_
      refine wa_iald C lq_121 sh_121 dX9_canBe_36 h (fun v2 h => ?_)
      refine fp_k1 (Q := fun z0j67 => WA Z 67 [some (.ref 67), some (.int x1), some (.int x2), some (.int x3), some (.int x4), none] [.int z0j67] g) h (fun z0j67 h => ?_) (fun J67 hJ67 h => ?_)
      · refine wa_istore C (i := 5) dX9_canBe_67 (by rw [hn]; decide) rfl rfl ?_
        refine wa_iload_n C (i := 3) dX9_canBe_69 rfl rfl ?_
        refine wa_iload_n C (i := 1) dX9_canBe_70 rfl rfl ?_
        refine wa_iload C dX9_canBe_71 rfl ?_
        refine wa_ishr C dX9_canBe_73 ?_
        refine wa_iconst C (v := 1) dX9_canBe_74 (by decide) ?_
        refine wa_iand C dX9_canBe_75 ?_
        refine wa_iconst C (v := 1) dX9_canBe_76 (by decide) ?_
        refine fp_k1 (Q := fun z0j96 => WA Z 96 [some (.ref 67), some (.int x1), some (.int x2), none, some (.int x4), none] [.int z0j96, .int x3] g) h (fun z0j96 h => ?_) (fun J96 hJ96 h => ?_)
        · refine wa_iadd C dX9_canBe_96 ?_
          refine wa_istore_n C (i := 3) dX9_canBe_97 rfl (by rw [hn]; decide) rfl rfl ?_
          refine wa_iinc C (i := 4) dX9_canBe_98 rfl (fp_inc1 _) (by rw [hn]; decide) rfl rfl ?_
          refine wa_goto C (tgt := 15) dX9_canBe_101 (by decide) ?_
          exact WA.weak (ih _ _ _ h) ⟨rfl, ⟨rfl, ⟨rfl, ⟨rfl, ⟨rfl, trivial⟩⟩⟩⟩⟩
        refine fp_k0 (Q := WA Z 95 [some (.ref 67), some (.int x1), some (.int x2), none, some (.int x4), none] [.int x3] g) h (fun  h => ?_) (fun J95 hJ95 h => ?_)
        · refine wa_iconst C (v := 0) dX9_canBe_95 (by decide) ?_
          exact WA.weak (hJ96 _ h) ⟨rfl, ⟨rfl, ⟨rfl, ⟨rfl, trivial⟩⟩⟩⟩
        refine wa_icmp_ne C (tgt := 95) dX9_canBe_77 (by decide) h (fun h => ?_) (fun h => ?_)
        · refine wa_iload C dX9_canBe_80 rfl ?_
          refine wa_if_eq C (tgt := 95) dX9_canBe_82 (by decide) h (fun h => ?_) (fun h => ?_)
          · exact WA.weak (hJ95  h) ⟨rfl, ⟨rfl, ⟨rfl, ⟨rfl, trivial⟩⟩⟩⟩
          · refine wa_aload_n C (i := 0) dX9_canBe_85 rfl rfl ?_
            refine wa_getR C (j := 68) lq_67 sh_67 rfl in_X9 (by decide) rfl f_X9_171 dX9_canBe_86 ?_
            refine wa_iload C dX9_canBe_89 rfl ?_
            refine wa_iald C lq_120 sh_120 dX9_canBe_91 h (fun v3 h => ?_)
            refine wa_goto C (tgt := 96) dX9_canBe_92 (by decide) ?_
            exact WA.weak (hJ96 _ h) ⟨rfl, ⟨rfl, ⟨rfl, ⟨rfl, trivial⟩⟩⟩⟩
        · exact WA.weak (hJ95  h) ⟨rfl, ⟨rfl, ⟨rfl, ⟨rfl, trivial⟩⟩⟩⟩
      refine fp_k0 (Q := WA Z 62 [some (.ref 67), some (.int x1), some (.int x2), some (.int x3), some (.int x4), none] [] g) h (fun  h => ?_) (fun J62 hJ62 h => ?_)
      · refine wa_iconst C (v := 1) dX9_canBe_62 (by decide) ?_
        refine wa_goto C (tgt := 67) dX9_canBe_63 (by decide) ?_
        exact WA.weak (hJ67 _ h) ⟨rfl, ⟨rfl, ⟨rfl, ⟨rfl, ⟨rfl, trivial⟩⟩⟩⟩⟩
      refine wa_icmp_lt C (tgt := 62) dX9_canBe_37 (by decide) h (fun h => ?_) (fun h => ?_)
      · exact WA.weak (hJ62  h) ⟨rfl, ⟨rfl, ⟨rfl, ⟨rfl, ⟨rfl, trivial⟩⟩⟩⟩⟩
      · refine wa_aload_n C (i := 0) dX9_canBe_40 rfl rfl ?_
        refine wa_getR C (j := 69) lq_67 sh_67 rfl in_X9 (by decide) rfl f_X9_174 dX9_canBe_41 ?_
        refine wa_iload C dX9_canBe_44 rfl ?_
        refine wa_iald C lq_121 sh_121 dX9_canBe_46 h (fun v4 h => ?_)
        refine wa_aload_n C (i := 0) dX9_canBe_47 rfl rfl ?_
        refine wa_getR C (j := 69) lq_67 sh_67 rfl in_X9 (by decide) rfl f_X9_174 dX9_canBe_48 ?_
        refine wa_iload_n C (i := 2) dX9_canBe_51 rfl rfl ?_
        refine wa_iald C lq_121 sh_121 dX9_canBe_52 h (fun v5 h => ?_)
        refine fp_k0 (Q := WA Z 66 [some (.ref 67), some (.int x1), some (.int x2), some (.int x3), some (.int x4), none] [] g) h (fun  h => ?_) (fun J66 hJ66 h => ?_)
        · refine wa_iconst C (v := 0) dX9_canBe_66 (by decide) ?_
          exact WA.weak (hJ67 _ h) ⟨rfl, ⟨rfl, ⟨rfl, ⟨rfl, ⟨rfl, trivial⟩⟩⟩⟩⟩
        refine wa_icmp_ne C (tgt := 66) dX9_canBe_53 (by decide) h (fun h => ?_) (fun h => ?_)
        · refine wa_iload C dX9_canBe_56 rfl ?_
          refine wa_iload_n C (i := 2) dX9_canBe_58 rfl rfl ?_
          refine wa_icmp_gt C (tgt := 66) dX9_canBe_59 (by decide) h (fun h => ?_) (fun h => ?_)
          · exact WA.weak (hJ66  h) ⟨rfl, ⟨rfl, ⟨rfl, ⟨rfl, ⟨rfl, trivial⟩⟩⟩⟩⟩
          · exact WA.weak (hJ62  h) ⟨rfl, ⟨rfl, ⟨rfl, ⟨rfl, ⟨rfl, trivial⟩⟩⟩⟩⟩
        · exact WA.weak (hJ66  h) ⟨rfl, ⟨rfl, ⟨rfl, ⟨rfl, ⟨rfl, trivial⟩⟩⟩⟩⟩

set_option maxRecDepth 20000 in
theorem ok_X9_canBe_2 {Z : fp_Z} (C : fp_C Z cX9_canBe RX9 ((Option.some Jvm.ClassFile.FieldType.boolean))) (hv : fp_V Z false) (hn : Z.2.2.2.2.1 = 6) (hd : Z.2.2.2.2.2.1 = 1) {x1 : Int32} : ∀ (n : Nat) (x2 : Int32) (g : fp_G), w_X9_canBe_2 n x1 x2 g Z.2.2.2.1 → WA Z 2 [some (.ref 67), some (.int x1), some (.int x2), none, none, none] [] g := by
  intro n
  induction n with
  | zero => intro x2 g h; exact h.elim
  | succ n ih =>
    intro x2 g h
    rw [w_X9_canBe_2] at h
    refine wa_iload_n C (i := 2) dX9_canBe_2 rfl rfl ?_
    refine wa_aload_n C (i := 0) dX9_canBe_3 rfl rfl ?_
    refine wa_getI C (j := 72) lq_67 sh_67 rfl in_X9 (by decide) rfl f_X9_384 dX9_canBe_4 ?_
    refine wa_icmp_ge C (tgt := 131) dX9_canBe_7 (by decide) h (fun h => ?_) (fun h => ?_)
    · refine wa_iconst C (v := 1) dX9_canBe_131 (by decide) ?_
      exact wa_zret C hv rfl rfl dX9_canBe_132 h
    · refine wa_iconst C (v := 0) dX9_canBe_10 (by decide) ?_
      refine wa_istore_n C (i := 3) dX9_canBe_11 rfl (by rw [hn]; decide) rfl rfl ?_
      refine wa_iconst C (v := 0) dX9_canBe_12 (by decide) ?_
      refine wa_istore C (i := 4) dX9_canBe_13 (by rw [hn]; decide) rfl rfl ?_
      obtain ⟨n15, h⟩ := h
      refine WA.weak (ok_X9_canBe_15 C hv hn hd (fun v6 g1 h => ?_) n15 _ _ _ h) ⟨rfl, ⟨rfl, ⟨rfl, ⟨rfl, ⟨rfl, trivial⟩⟩⟩⟩⟩
      · refine wa_iload_n C (i := 1) dX9_canBe_104 rfl rfl ?_
        refine wa_iload_n C (i := 2) dX9_canBe_105 rfl rfl ?_
        refine wa_ishr C dX9_canBe_106 ?_
        refine wa_iconst C (v := 1) dX9_canBe_107 (by decide) ?_
        refine wa_iand C dX9_canBe_108 ?_
        refine wa_iconst C (v := 1) dX9_canBe_109 (by decide) ?_
        refine fp_k0 (Q := WA Z 125 [some (.ref 67), some (.int x1), some (.int x2), none, none, none] [] g1) h (fun  h => ?_) (fun J125 hJ125 h => ?_)
        · refine wa_iinc C (i := 2) dX9_canBe_125 rfl (fp_inc1 _) (by rw [hn]; decide) rfl rfl ?_
          refine wa_goto C (tgt := 2) dX9_canBe_128 (by decide) ?_
          exact WA.weak (ih _ _ h) ⟨rfl, ⟨rfl, ⟨rfl, trivial⟩⟩⟩
        refine wa_icmp_ne C (tgt := 125) dX9_canBe_110 (by decide) h (fun h => ?_) (fun h => ?_)
        · refine wa_iload_n C (i := 3) dX9_canBe_113 rfl rfl ?_
          refine wa_aload_n C (i := 0) dX9_canBe_114 rfl rfl ?_
          refine wa_getR C (j := 69) lq_67 sh_67 rfl in_X9 (by decide) rfl f_X9_174 dX9_canBe_115 ?_
          refine wa_iload_n C (i := 2) dX9_canBe_118 rfl rfl ?_
          refine wa_iald C lq_121 sh_121 dX9_canBe_119 h (fun v7 h => ?_)
          refine wa_icmp_le C (tgt := 125) dX9_canBe_120 (by decide) h (fun h => ?_) (fun h => ?_)
          · exact WA.weak (hJ125  h) ⟨rfl, ⟨rfl, ⟨rfl, trivial⟩⟩⟩
          · refine wa_iconst C (v := 0) dX9_canBe_123 (by decide) ?_
            exact wa_zret C hv rfl rfl dX9_canBe_124 h
        · exact WA.weak (hJ125  h) ⟨rfl, ⟨rfl, ⟨rfl, trivial⟩⟩⟩

set_option maxRecDepth 20000 in
theorem ok_X9_canBe {l : Launch} {E : fp_E} {x1 : Int32} {g : fp_G} {K : Int32 → fp_G → Prop} (h : w_X9_canBe x1 g K) : fp_M l E yX9_canBe cX9_canBe 6 ((Option.some Jvm.ClassFile.FieldType.boolean)) false 1 [.ref 67, .int x1] g K := by
  unfold w_X9_canBe at h
  refine fp_enter rfl [some (.ref 67), some (.int x1), none, none, none, none] (Nat.le_of_ble_eq_true rfl) (fun q hq => hq) (fun Z hE hl hv hK hn hd C => ?_)
  subst hE hl hK
  refine wa_iconst C (v := 0) dX9_canBe_0 (by decide) ?_
  refine wa_istore_n C (i := 2) dX9_canBe_1 rfl (by rw [hn]; decide) rfl rfl ?_
  obtain ⟨n2, h⟩ := h
  exact WA.weak (ok_X9_canBe_2 C hv hn hd n2 _ _ h) ⟨rfl, ⟨rfl, ⟨rfl, trivial⟩⟩⟩
