set_option maxRecDepth 20000 in
theorem ok_X9_works_0 {Z : fp_Z} (C : fp_C Z cX9_works RX9 ((Option.none : Option Jvm.ClassFile.FieldType))) (hv : fp_V Z true) (hn : Z.2.2.2.2.1 = 3) (hd : Z.2.2.2.2.2.1 = 1) {x1 : Int32} : ∀ (n : Nat) (g : fp_G), w_X9_works_0 n x1 g Z.2.2.2.1 → WA Z 0 [some (.ref 67), some (.int x1), none] [] g := by
  intro n
  induction n with
  | zero => intro g h; exact h.elim
  | succ n ih =>
    intro g h
    rw [w_X9_works_0] at h
    refine wa_aload_n C (i := 0) dX9_works_0 rfl rfl ?_
    refine wa_getI C (j := 58) lq_67 sh_67 rfl in_X9 (by decide) rfl f_X9_310 dX9_works_1 ?_
    refine wa_if_le C (tgt := 147) dX9_works_4 (by decide) h (fun h => ?_) (fun h => ?_)
    · exact wa_vret C hv rfl dX9_works_147 h
    · refine wa_aload_n C (i := 0) dX9_works_7 rfl rfl ?_
      refine wa_getR C (j := 55) lq_67 sh_67 rfl in_X9 (by decide) rfl f_X9_141 dX9_works_8 ?_
      refine wa_aload_n C (i := 0) dX9_works_11 rfl rfl ?_
      refine wa_getI C (j := 58) lq_67 sh_67 rfl in_X9 (by decide) rfl f_X9_310 dX9_works_12 ?_
      refine wa_iconst C (v := 1) dX9_works_15 (by decide) ?_
      refine wa_isub C dX9_works_16 ?_
      refine wa_iald C lq_110 sh_110 dX9_works_17 h (fun v1 h => ?_)
      refine wa_iload_n C (i := 1) dX9_works_18 rfl rfl ?_
      refine wa_icmp_gt C (tgt := 147) dX9_works_19 (by decide) h (fun h => ?_) (fun h => ?_)
      · exact wa_vret C hv rfl dX9_works_147 h
      · refine wa_aload_n C (i := 0) dX9_works_22 rfl rfl ?_
        refine wa_dup C dX9_works_23 rfl ?_
        refine wa_getI C (j := 58) lq_67 sh_67 rfl in_X9 (by decide) rfl f_X9_310 dX9_works_24 ?_
        refine wa_iconst C (v := 1) dX9_works_27 (by decide) ?_
        refine wa_isub C dX9_works_28 ?_
        refine wa_putI C (j := 58) lq_67 sh_67 rfl in_X9 (by decide) tyX9 tyX9_ok nmX9 rfl rfl rfl f_X9_310 dX9_works_29 h (fun g1 h => ?_)
        refine wa_aload_n C (i := 0) dX9_works_32 rfl rfl ?_
        refine wa_getR C (j := 55) lq_67 sh_67 rfl in_X9 (by decide) rfl f_X9_141 dX9_works_33 ?_
        refine wa_aload_n C (i := 0) dX9_works_36 rfl rfl ?_
        refine wa_getI C (j := 58) lq_67 sh_67 rfl in_X9 (by decide) rfl f_X9_310 dX9_works_37 ?_
        refine wa_iald C lq_110 sh_110 dX9_works_40 h (fun v2 h => ?_)
        refine wa_istore_n C (i := 2) dX9_works_41 rfl (by rw [hn]; decide) rfl rfl ?_
        refine wa_iload_n C (i := 2) dX9_works_42 rfl rfl ?_
        refine fp_j0 (Q := fun g2 => WA Z 144 [some (.ref 67), some (.int x1), none] [] g2) h (fun g2 h => ?_) (fun J144 hJ144 h => ?_)
        · refine wa_goto C (tgt := 0) dX9_works_144 (by decide) ?_
          exact WA.weak (ih _ h) ⟨rfl, ⟨rfl, trivial⟩⟩
        refine wa_if_ne C (tgt := 73) dX9_works_43 (by decide) h (fun h => ?_) (fun h => ?_)
        · refine wa_aload_n C (i := 0) dX9_works_46 rfl rfl ?_
          refine wa_getR C (j := 56) lq_67 sh_67 rfl in_X9 (by decide) rfl f_X9_144 dX9_works_47 ?_
          refine wa_aload_n C (i := 0) dX9_works_50 rfl rfl ?_
          refine wa_getI C (j := 59) lq_67 sh_67 rfl in_X9 (by decide) rfl f_X9_313 dX9_works_51 ?_
          refine wa_iconst C (v := 1) dX9_works_54 (by decide) ?_
          refine wa_isub C dX9_works_55 ?_
          refine wa_iconst C (v := 1) dX9_works_56 (by decide) ?_
          refine wa_aload_n C (i := 0) dX9_works_57 rfl rfl ?_
          refine wa_getR C (j := 56) lq_67 sh_67 rfl in_X9 (by decide) rfl f_X9_144 dX9_works_58 ?_
          refine wa_aload_n C (i := 0) dX9_works_61 rfl rfl ?_
          refine wa_getI C (j := 59) lq_67 sh_67 rfl in_X9 (by decide) rfl f_X9_313 dX9_works_62 ?_
          refine wa_iconst C (v := 1) dX9_works_65 (by decide) ?_
          refine wa_isub C dX9_works_66 ?_
          refine wa_iald C lq_111 sh_111 dX9_works_67 h (fun v7 h => ?_)
          refine wa_isub C dX9_works_68 ?_
          refine wa_iast C lq_111 sh_111 dX9_works_69 h (fun g5 h => ?_)
          refine wa_goto C (tgt := 144) dX9_works_70 (by decide) ?_
          exact WA.weak (hJ144 _ h) ⟨rfl, ⟨rfl, trivial⟩⟩
        · refine wa_aload_n C (i := 0) dX9_works_73 rfl rfl ?_
          refine wa_dup C dX9_works_74 rfl ?_
          refine wa_getI C (j := 59) lq_67 sh_67 rfl in_X9 (by decide) rfl f_X9_313 dX9_works_75 ?_
          refine wa_iconst C (v := 1) dX9_works_78 (by decide) ?_
          refine wa_isub C dX9_works_79 ?_
          refine wa_putI C (j := 59) lq_67 sh_67 rfl in_X9 (by decide) tyX9 tyX9_ok nmX9 rfl rfl rfl f_X9_313 dX9_works_80 h (fun g3 h => ?_)
          refine wa_aload_n C (i := 0) dX9_works_83 rfl rfl ?_
          refine wa_getR C (j := 56) lq_67 sh_67 rfl in_X9 (by decide) rfl f_X9_144 dX9_works_84 ?_
          refine wa_aload_n C (i := 0) dX9_works_87 rfl rfl ?_
          refine wa_getI C (j := 59) lq_67 sh_67 rfl in_X9 (by decide) rfl f_X9_313 dX9_works_88 ?_
          refine wa_iconst C (v := 1) dX9_works_91 (by decide) ?_
          refine wa_isub C dX9_works_92 ?_
          refine wa_iload_n C (i := 2) dX9_works_93 rfl rfl ?_
          refine wa_iconst C (v := 1) dX9_works_94 (by decide) ?_
          refine fp_k1 (Q := fun z0j143 => WA Z 143 [some (.ref 67), some (.int x1), none] [.int z0j143, .int ((g3 67 59) - 1), .ref 111] g3) h (fun z0j143 h => ?_) (fun J143 hJ143 h => ?_)
          · refine wa_iast C lq_111 sh_111 dX9_works_143 h (fun g4 h => ?_)
            exact WA.weak (hJ144 _ h) ⟨rfl, ⟨rfl, trivial⟩⟩
          refine wa_icmp_ne C (tgt := 122) dX9_works_95 (by decide) h (fun h => ?_) (fun h => ?_)
          · refine wa_aload_n C (i := 0) dX9_works_98 rfl rfl ?_
            refine wa_getR C (j := 56) lq_67 sh_67 rfl in_X9 (by decide) rfl f_X9_144 dX9_works_99 ?_
            refine wa_aload_n C (i := 0) dX9_works_102 rfl rfl ?_
            refine wa_getI C (j := 59) lq_67 sh_67 rfl in_X9 (by decide) rfl f_X9_313 dX9_works_103 ?_
            refine wa_iconst C (v := 1) dX9_works_106 (by decide) ?_
            refine wa_isub C dX9_works_107 ?_
            refine wa_iald C lq_111 sh_111 dX9_works_108 h (fun v5 h => ?_)
            refine wa_aload_n C (i := 0) dX9_works_109 rfl rfl ?_
            refine wa_getR C (j := 56) lq_67 sh_67 rfl in_X9 (by decide) rfl f_X9_144 dX9_works_110 ?_
            refine wa_aload_n C (i := 0) dX9_works_113 rfl rfl ?_
            refine wa_getI C (j := 59) lq_67 sh_67 rfl in_X9 (by decide) rfl f_X9_313 dX9_works_114 ?_
            refine wa_iald C lq_111 sh_111 dX9_works_117 h (fun v6 h => ?_)
            refine wa_iand C dX9_works_118 ?_
            refine wa_goto C (tgt := 143) dX9_works_119 (by decide) ?_
            exact WA.weak (hJ143 _ h) ⟨rfl, ⟨rfl, trivial⟩⟩
          · refine wa_aload_n C (i := 0) dX9_works_122 rfl rfl ?_
            refine wa_getR C (j := 56) lq_67 sh_67 rfl in_X9 (by decide) rfl f_X9_144 dX9_works_123 ?_
            refine wa_aload_n C (i := 0) dX9_works_126 rfl rfl ?_
            refine wa_getI C (j := 59) lq_67 sh_67 rfl in_X9 (by decide) rfl f_X9_313 dX9_works_127 ?_
            refine wa_iconst C (v := 1) dX9_works_130 (by decide) ?_
            refine wa_isub C dX9_works_131 ?_
            refine wa_iald C lq_111 sh_111 dX9_works_132 h (fun v3 h => ?_)
            refine wa_aload_n C (i := 0) dX9_works_133 rfl rfl ?_
            refine wa_getR C (j := 56) lq_67 sh_67 rfl in_X9 (by decide) rfl f_X9_144 dX9_works_134 ?_
            refine wa_aload_n C (i := 0) dX9_works_137 rfl rfl ?_
            refine wa_getI C (j := 59) lq_67 sh_67 rfl in_X9 (by decide) rfl f_X9_313 dX9_works_138 ?_
            refine wa_iald C lq_111 sh_111 dX9_works_141 h (fun v4 h => ?_)
            refine wa_ior C dX9_works_142 ?_
            exact WA.weak (hJ143 _ h) ⟨rfl, ⟨rfl, trivial⟩⟩

set_option maxRecDepth 20000 in
theorem ok_X9_works {l : Launch} {E : fp_E} {x1 : Int32} {g : fp_G} {K : Int32 → fp_G → Prop} (h : w_X9_works x1 g K) : fp_M l E yX9_works cX9_works 3 ((Option.none : Option Jvm.ClassFile.FieldType)) true 1 [.ref 67, .int x1] g K := by
  unfold w_X9_works at h
  refine fp_enter rfl [some (.ref 67), some (.int x1), none] (Nat.le_of_ble_eq_true rfl) (fun q hq => hq) (fun Z hE hl hv hK hn hd C => ?_)
  subst hE hl hK
  obtain ⟨n0, h⟩ := h
  exact WA.weak (ok_X9_works_0 C hv hn hd n0 _ h) ⟨rfl, ⟨rfl, trivial⟩⟩

set_option maxRecDepth 20000 in
theorem ok_X9_waitsFor {l : Launch} {E : fp_E} {x1 : Int32} {g : fp_G} {K : Int32 → fp_G → Prop} (h : w_X9_waitsFor x1 g K) : fp_M l E yX9_waitsFor cX9_waitsFor 2 ((Option.none : Option Jvm.ClassFile.FieldType)) true 1 [.ref 67, .int x1] g K := by
  unfold w_X9_waitsFor at h
  refine fp_enter rfl [some (.ref 67), some (.int x1)] (Nat.le_of_ble_eq_true rfl) (fun q hq => hq) (fun Z hE hl hv hK hn hd C => ?_)
  subst hE hl hK
  refine wa_aload_n C (i := 0) dX9_waitsFor_0 rfl rfl ?_
  refine wa_getR C (j := 55) lq_67 sh_67 rfl in_X9 (by decide) rfl f_X9_141 dX9_waitsFor_1 ?_
  refine wa_aload_n C (i := 0) dX9_waitsFor_4 rfl rfl ?_
  refine wa_getI C (j := 58) lq_67 sh_67 rfl in_X9 (by decide) rfl f_X9_310 dX9_waitsFor_5 ?_
  refine wa_iload_n C (i := 1) dX9_waitsFor_8 rfl rfl ?_
  refine wa_iast C lq_110 sh_110 dX9_waitsFor_9 h (fun g1 h => ?_)
  refine wa_aload_n C (i := 0) dX9_waitsFor_10 rfl rfl ?_
  refine wa_dup C dX9_waitsFor_11 rfl ?_
  refine wa_getI C (j := 58) lq_67 sh_67 rfl in_X9 (by decide) rfl f_X9_310 dX9_waitsFor_12 ?_
  refine wa_iconst C (v := 1) dX9_waitsFor_15 (by decide) ?_
  refine wa_iadd C dX9_waitsFor_16 ?_
  refine wa_putI C (j := 58) lq_67 sh_67 rfl in_X9 (by decide) tyX9 tyX9_ok nmX9 rfl rfl rfl f_X9_310 dX9_waitsFor_17 h (fun g2 h => ?_)
  exact wa_vret C hv rfl dX9_waitsFor_20 h

set_option maxRecDepth 20000 in
theorem ok_X9_holdsText_28 {Z : fp_Z} (C : fp_C Z cX9_holdsText RX9 ((Option.some Jvm.ClassFile.FieldType.boolean))) (hv : fp_V Z false) (hn : Z.2.2.2.2.1 = 5) (hd : Z.2.2.2.2.2.1 = 3) {x1 : Int32} {E81 : fp_G → Prop} (hE81 : ∀ g, E81 g → WA Z 81 [some (.ref 67), some (.int x1), none, none, none] [] g) : ∀ (n : Nat) (g : fp_G), w_X9_holdsText_28 n x1 g Z.2.2.2.1 E81 → WA Z 28 [some (.ref 67), some (.int x1), none, none, none] [] g := by
  intro n
  induction n with
  | zero => intro g h; exact h.elim
  | succ n ih =>
    intro g h
    rw [w_X9_holdsText_28] at h
    refine wa_aload_n C (i := 0) dX9_holdsText_28 rfl rfl ?_
    refine wa_iload_n C (i := 1) dX9_holdsText_29 rfl rfl ?_
    refine wa_callVi C lq_67 sh_67 rfl s_X9_307 i_X9_signOf e_X9_signOf dX9_holdsText_30 (ok_X9_signOf h) rfl rfl (Nat.le_of_ble_eq_true rfl) (by rw [hd]; decide) (fun v4 g5 h => ?_)
    refine wa_bipush C (v := 33) dX9_holdsText_33 (by decide) ?_
    refine fp_j0 (Q := fun g6 => WA Z 48 [some (.ref 67), some (.int x1), none, none, none] [] g6) h (fun g6 h => ?_) (fun J48 hJ48 h => ?_)
    · refine wa_aload_n C (i := 0) dX9_holdsText_48 rfl rfl ?_
      refine wa_aload_n C (i := 0) dX9_holdsText_49 rfl rfl ?_
      refine wa_iload_n C (i := 1) dX9_holdsText_50 rfl rfl ?_
      refine wa_callVi C lq_67 sh_67 rfl s_X9_307 i_X9_signOf e_X9_signOf dX9_holdsText_51 (ok_X9_signOf h) rfl rfl (Nat.le_of_ble_eq_true rfl) (by rw [hd]; decide) (fun v5 g7 h => ?_)
      refine wa_bipush C (v := 33) dX9_holdsText_54 (by decide) ?_
      refine fp_k1 (Q := fun z0j65 => WA Z 65 [some (.ref 67), some (.int x1), none, none, none] [.int z0j65, .ref 67] g7) h (fun z0j65 h => ?_) (fun J65 hJ65 h => ?_)
      · refine wa_callVv C lq_67 sh_67 rfl s_X9_316 i_X9_waitsFor e_X9_waitsFor dX9_holdsText_65 (ok_X9_waitsFor h) rfl rfl (Nat.le_of_ble_eq_true rfl) (by rw [hd]; decide) (fun g8 h => ?_)
        refine wa_aload_n C (i := 0) dX9_holdsText_68 rfl rfl ?_
        refine wa_dup C dX9_holdsText_69 rfl ?_
        refine wa_getI C (j := 57) lq_67 sh_67 rfl in_X9 (by decide) rfl f_X9_304 dX9_holdsText_70 ?_
        refine wa_iconst C (v := 1) dX9_holdsText_73 (by decide) ?_
        refine wa_iadd C dX9_holdsText_74 ?_
        refine wa_putI C (j := 57) lq_67 sh_67 rfl in_X9 (by decide) tyX9 tyX9_ok nmX9 rfl rfl rfl f_X9_304 dX9_holdsText_75 h (fun g9 h => ?_)
        refine wa_goto C (tgt := 28) dX9_holdsText_78 (by decide) ?_
        exact WA.weak (ih _ h) ⟨rfl, ⟨rfl, trivial⟩⟩
      refine wa_icmp_ne C (tgt := 63) dX9_holdsText_56 (by decide) h (fun h => ?_) (fun h => ?_)
      · refine wa_iconst C (v := 0) dX9_holdsText_59 (by decide) ?_
        refine wa_goto C (tgt := 65) dX9_holdsText_60 (by decide) ?_
        exact WA.weak (hJ65 _ h) ⟨rfl, ⟨rfl, trivial⟩⟩
      · refine wa_bipush C (v := 9) dX9_holdsText_63 (by decide) ?_
        exact WA.weak (hJ65 _ h) ⟨rfl, ⟨rfl, trivial⟩⟩
    refine wa_icmp_eq C (tgt := 48) dX9_holdsText_35 (by decide) h (fun h => ?_) (fun h => ?_)
    · exact WA.weak (hJ48 _ h) ⟨rfl, ⟨rfl, trivial⟩⟩
    · refine wa_aload_n C (i := 0) dX9_holdsText_38 rfl rfl ?_
      refine wa_iload_n C (i := 1) dX9_holdsText_39 rfl rfl ?_
      refine wa_callVi C lq_67 sh_67 rfl s_X9_307 i_X9_signOf e_X9_signOf dX9_holdsText_40 (ok_X9_signOf h) rfl rfl (Nat.le_of_ble_eq_true rfl) (by rw [hd]; decide) (fun v7 g10 h => ?_)
      refine wa_bipush C (v := 40) dX9_holdsText_43 (by decide) ?_
      refine wa_icmp_ne C (tgt := 81) dX9_holdsText_45 (by decide) h (fun h => ?_) (fun h => ?_)
      · exact WA.weak (hJ48 _ h) ⟨rfl, ⟨rfl, trivial⟩⟩
      · exact WA.weak (hE81 _ h) ⟨rfl, ⟨rfl, trivial⟩⟩

set_option maxRecDepth 20000 in
theorem ok_X9_holdsText_175 {Z : fp_Z} (C : fp_C Z cX9_holdsText RX9 ((Option.some Jvm.ClassFile.FieldType.boolean))) (hv : fp_V Z false) (hn : Z.2.2.2.2.1 = 5) (hd : Z.2.2.2.2.2.1 = 3) {x1 : Int32} {E218 : fp_G → Prop} (hE218 : ∀ g, E218 g → WA Z 218 [some (.ref 67), some (.int x1), none, none, none] [] g) : ∀ (n : Nat) (g : fp_G), w_X9_holdsText_175 n x1 g Z.2.2.2.1 E218 → WA Z 175 [some (.ref 67), some (.int x1), none, none, none] [] g := by
  intro n
  induction n with
  | zero => intro g h; exact h.elim
  | succ n ih =>
    intro g h
    rw [w_X9_holdsText_175] at h
    refine wa_aload_n C (i := 0) dX9_holdsText_175 rfl rfl ?_
    refine wa_iload_n C (i := 1) dX9_holdsText_176 rfl rfl ?_
    refine wa_callVi C lq_67 sh_67 rfl s_X9_307 i_X9_signOf e_X9_signOf dX9_holdsText_177 (ok_X9_signOf h) rfl rfl (Nat.le_of_ble_eq_true rfl) (by rw [hd]; decide) (fun v12 g19 h => ?_)
    refine wa_bipush C (v := 41) dX9_holdsText_180 (by decide) ?_
    refine wa_icmp_ne C (tgt := 218) dX9_holdsText_182 (by decide) h (fun h => ?_) (fun h => ?_)
    · refine wa_aload_n C (i := 0) dX9_holdsText_185 rfl rfl ?_
      refine wa_iconst C (v := 2) dX9_holdsText_186 (by decide) ?_
      refine wa_callVv C lq_67 sh_67 rfl s_X9_323 i_X9_works e_X9_works dX9_holdsText_187 (ok_X9_works h) rfl rfl (Nat.le_of_ble_eq_true rfl) (by rw [hd]; decide) (fun g20 h => ?_)
      refine wa_aload_n C (i := 0) dX9_holdsText_190 rfl rfl ?_
      refine wa_dup C dX9_holdsText_191 rfl ?_
      refine wa_getI C (j := 58) lq_67 sh_67 rfl in_X9 (by decide) rfl f_X9_310 dX9_holdsText_192 ?_
      refine wa_iconst C (v := 1) dX9_holdsText_195 (by decide) ?_
      refine wa_isub C dX9_holdsText_196 ?_
      refine wa_putI C (j := 58) lq_67 sh_67 rfl in_X9 (by decide) tyX9 tyX9_ok nmX9 rfl rfl rfl f_X9_310 dX9_holdsText_197 h (fun g21 h => ?_)
      refine wa_aload_n C (i := 0) dX9_holdsText_200 rfl rfl ?_
      refine wa_dup C dX9_holdsText_201 rfl ?_
      refine wa_getI C (j := 57) lq_67 sh_67 rfl in_X9 (by decide) rfl f_X9_304 dX9_holdsText_202 ?_
      refine wa_iconst C (v := 1) dX9_holdsText_205 (by decide) ?_
      refine wa_iadd C dX9_holdsText_206 ?_
      refine wa_putI C (j := 57) lq_67 sh_67 rfl in_X9 (by decide) tyX9 tyX9_ok nmX9 rfl rfl rfl f_X9_304 dX9_holdsText_207 h (fun g22 h => ?_)
      refine wa_aload_n C (i := 0) dX9_holdsText_210 rfl rfl ?_
      refine wa_iconst C (v := 0) dX9_holdsText_211 (by decide) ?_
      refine wa_callVv C lq_67 sh_67 rfl s_X9_323 i_X9_works e_X9_works dX9_holdsText_212 (ok_X9_works h) rfl rfl (Nat.le_of_ble_eq_true rfl) (by rw [hd]; decide) (fun g23 h => ?_)
      refine wa_goto C (tgt := 175) dX9_holdsText_215 (by decide) ?_
      exact WA.weak (ih _ h) ⟨rfl, ⟨rfl, trivial⟩⟩
    · exact WA.weak (hE218 _ h) ⟨rfl, ⟨rfl, trivial⟩⟩

set_option maxRecDepth 20000 in
theorem ok_X9_holdsText_15 {Z : fp_Z} (C : fp_C Z cX9_holdsText RX9 ((Option.some Jvm.ClassFile.FieldType.boolean))) (hv : fp_V Z false) (hn : Z.2.2.2.2.1 = 5) (hd : Z.2.2.2.2.2.1 = 3) {x1 : Int32} : ∀ (n : Nat) (g : fp_G), w_X9_holdsText_15 n x1 g Z.2.2.2.1 → WA Z 15 [some (.ref 67), some (.int x1), none, none, none] [] g := by
  intro n
  induction n with
  | zero => intro g h; exact h.elim
  | succ n ih =>
    intro g h
    rw [w_X9_holdsText_15] at h
    refine wa_aload_n C (i := 0) dX9_holdsText_15 rfl rfl ?_
    refine wa_getI C (j := 57) lq_67 sh_67 rfl in_X9 (by decide) rfl f_X9_304 dX9_holdsText_16 ?_
    refine wa_aload_n C (i := 0) dX9_holdsText_19 rfl rfl ?_
    refine wa_getR C (j := 46) lq_67 sh_67 rfl in_X9 (by decide) rfl f_X9_126 dX9_holdsText_20 ?_
    refine wa_iload_n C (i := 1) dX9_holdsText_23 rfl rfl ?_
    refine wa_iald C lq_105 sh_105 dX9_holdsText_24 h (fun v1 h => ?_)
    refine wa_icmp_ge C (tgt := 271) dX9_holdsText_25 (by decide) h (fun h => ?_) (fun h => ?_)
    · refine wa_aload_n C (i := 0) dX9_holdsText_271 rfl rfl ?_
      refine wa_iconst C (v := 2) dX9_holdsText_272 (by decide) ?_
      refine wa_callVv C lq_67 sh_67 rfl s_X9_323 i_X9_works e_X9_works dX9_holdsText_273 (ok_X9_works h) rfl rfl (Nat.le_of_ble_eq_true rfl) (by rw [hd]; decide) (fun g4 h => ?_)
      refine wa_aload_n C (i := 0) dX9_holdsText_276 rfl rfl ?_
      refine wa_getR C (j := 56) lq_67 sh_67 rfl in_X9 (by decide) rfl f_X9_144 dX9_holdsText_277 ?_
      refine wa_iconst C (v := 0) dX9_holdsText_280 (by decide) ?_
      refine wa_iald C lq_111 sh_111 dX9_holdsText_281 h (fun v3 h => ?_)
      refine wa_iconst C (v := 1) dX9_holdsText_282 (by decide) ?_
      refine wa_icmp_ne C (tgt := 290) dX9_holdsText_283 (by decide) h (fun h => ?_) (fun h => ?_)
      · refine wa_iconst C (v := 1) dX9_holdsText_286 (by decide) ?_
        refine wa_goto C (tgt := 291) dX9_holdsText_287 (by decide) ?_
        exact wa_zret C hv rfl rfl dX9_holdsText_291 h
      · refine wa_iconst C (v := 0) dX9_holdsText_290 (by decide) ?_
        exact wa_zret C hv rfl rfl dX9_holdsText_291 h
    · obtain ⟨n28, h⟩ := h
      refine WA.weak (ok_X9_holdsText_28 C hv hn hd (fun g11 h => ?_) n28 _ h) ⟨rfl, ⟨rfl, trivial⟩⟩
      · refine wa_aload_n C (i := 0) dX9_holdsText_81 rfl rfl ?_
        refine wa_iload_n C (i := 1) dX9_holdsText_82 rfl rfl ?_
        refine wa_callVi C lq_67 sh_67 rfl s_X9_320 i_X9_unitOf e_X9_unitOf dX9_holdsText_83 (ok_X9_unitOf h) rfl rfl (Nat.le_of_ble_eq_true rfl) (by rw [hd]; decide) (fun v8 g12 h => ?_)
        refine wa_istore_n C (i := 2) dX9_holdsText_86 rfl (by rw [hn]; decide) rfl rfl ?_
        refine wa_aload_n C (i := 0) dX9_holdsText_87 rfl rfl ?_
        refine wa_iload_n C (i := 1) dX9_holdsText_88 rfl rfl ?_
        refine wa_callVi C lq_67 sh_67 rfl s_X9_307 i_X9_signOf e_X9_signOf dX9_holdsText_89 (ok_X9_signOf h) rfl rfl (Nat.le_of_ble_eq_true rfl) (by rw [hd]; decide) (fun v9 g13 h => ?_)
        refine wa_istore_n C (i := 3) dX9_holdsText_92 rfl (by rw [hn]; decide) rfl rfl ?_
        refine wa_aload_n C (i := 0) dX9_holdsText_93 rfl rfl ?_
        refine wa_dup C dX9_holdsText_94 rfl ?_
        refine wa_getI C (j := 57) lq_67 sh_67 rfl in_X9 (by decide) rfl f_X9_304 dX9_holdsText_95 ?_
        refine wa_iconst C (v := 1) dX9_holdsText_98 (by decide) ?_
        refine wa_iadd C dX9_holdsText_99 ?_
        refine wa_putI C (j := 57) lq_67 sh_67 rfl in_X9 (by decide) tyX9 tyX9_ok nmX9 rfl rfl rfl f_X9_304 dX9_holdsText_100 h (fun g14 h => ?_)
        refine wa_aload_n C (i := 0) dX9_holdsText_103 rfl rfl ?_
        refine wa_iload_n C (i := 1) dX9_holdsText_104 rfl rfl ?_
        refine wa_callVi C lq_67 sh_67 rfl s_X9_320 i_X9_unitOf e_X9_unitOf dX9_holdsText_105 (ok_X9_unitOf h) rfl rfl (Nat.le_of_ble_eq_true rfl) (by rw [hd]; decide) (fun v10 g15 h => ?_)
        refine wa_istore C (i := 4) dX9_holdsText_108 (by rw [hn]; decide) rfl rfl ?_
        refine wa_aload_n C (i := 0) dX9_holdsText_110 rfl rfl ?_
        refine wa_getR C (j := 56) lq_67 sh_67 rfl in_X9 (by decide) rfl f_X9_144 dX9_holdsText_111 ?_
        refine wa_aload_n C (i := 0) dX9_holdsText_114 rfl rfl ?_
        refine wa_getI C (j := 59) lq_67 sh_67 rfl in_X9 (by decide) rfl f_X9_313 dX9_holdsText_115 ?_
        refine wa_iload_n C (i := 3) dX9_holdsText_118 rfl rfl ?_
        refine wa_bipush C (v := 60) dX9_holdsText_119 (by decide) ?_
        refine fp_k1 (Q := fun z0j159 => WA Z 159 [some (.ref 67), some (.int x1), none, none, none] [.int z0j159, .int (g15 67 59), .ref 111] g15) h (fun z0j159 h => ?_) (fun J159 hJ159 h => ?_)
        · refine wa_iast C lq_111 sh_111 dX9_holdsText_159 h (fun g16 h => ?_)
          refine wa_aload_n C (i := 0) dX9_holdsText_160 rfl rfl ?_
          refine wa_dup C dX9_holdsText_161 rfl ?_
          refine wa_getI C (j := 59) lq_67 sh_67 rfl in_X9 (by decide) rfl f_X9_313 dX9_holdsText_162 ?_
          refine wa_iconst C (v := 1) dX9_holdsText_165 (by decide) ?_
          refine wa_iadd C dX9_holdsText_166 ?_
          refine wa_putI C (j := 59) lq_67 sh_67 rfl in_X9 (by decide) tyX9 tyX9_ok nmX9 rfl rfl rfl f_X9_313 dX9_holdsText_167 h (fun g17 h => ?_)
          refine wa_aload_n C (i := 0) dX9_holdsText_170 rfl rfl ?_
          refine wa_iconst C (v := 0) dX9_holdsText_171 (by decide) ?_
          refine wa_callVv C lq_67 sh_67 rfl s_X9_323 i_X9_works e_X9_works dX9_holdsText_172 (ok_X9_works h) rfl rfl (Nat.le_of_ble_eq_true rfl) (by rw [hd]; decide) (fun g18 h => ?_)
          obtain ⟨n175, h⟩ := h
          refine WA.weak (ok_X9_holdsText_175 C hv hn hd (fun g24 h => ?_) n175 _ h) ⟨rfl, ⟨rfl, trivial⟩⟩
          · refine wa_aload_n C (i := 0) dX9_holdsText_218 rfl rfl ?_
            refine wa_iload_n C (i := 1) dX9_holdsText_219 rfl rfl ?_
            refine wa_callVi C lq_67 sh_67 rfl s_X9_307 i_X9_signOf e_X9_signOf dX9_holdsText_220 (ok_X9_signOf h) rfl rfl (Nat.le_of_ble_eq_true rfl) (by rw [hd]; decide) (fun v15 g25 h => ?_)
            refine wa_bipush C (v := 38) dX9_holdsText_223 (by decide) ?_
            refine fp_j0 (Q := fun g26 => WA Z 238 [some (.ref 67), some (.int x1), none, none, none] [] g26) h (fun g26 h => ?_) (fun J238 hJ238 h => ?_)
            · refine wa_aload_n C (i := 0) dX9_holdsText_238 rfl rfl ?_
              refine wa_iload_n C (i := 1) dX9_holdsText_239 rfl rfl ?_
              refine wa_callVi C lq_67 sh_67 rfl s_X9_307 i_X9_signOf e_X9_signOf dX9_holdsText_240 (ok_X9_signOf h) rfl rfl (Nat.le_of_ble_eq_true rfl) (by rw [hd]; decide) (fun v16 g27 h => ?_)
              refine wa_bipush C (v := 124) dX9_holdsText_243 (by decide) ?_
              refine fp_j0 (Q := fun g28 => WA Z 258 [some (.ref 67), some (.int x1), none, none, none] [] g28) h (fun g28 h => ?_) (fun J258 hJ258 h => ?_)
              · refine wa_aload_n C (i := 0) dX9_holdsText_258 rfl rfl ?_
                refine wa_dup C dX9_holdsText_259 rfl ?_
                refine wa_getI C (j := 57) lq_67 sh_67 rfl in_X9 (by decide) rfl f_X9_304 dX9_holdsText_260 ?_
                refine wa_iconst C (v := 1) dX9_holdsText_263 (by decide) ?_
                refine wa_iadd C dX9_holdsText_264 ?_
                refine wa_putI C (j := 57) lq_67 sh_67 rfl in_X9 (by decide) tyX9 tyX9_ok nmX9 rfl rfl rfl f_X9_304 dX9_holdsText_265 h (fun g29 h => ?_)
                refine wa_goto C (tgt := 15) dX9_holdsText_268 (by decide) ?_
                exact WA.weak (ih _ h) ⟨rfl, ⟨rfl, trivial⟩⟩
              refine wa_icmp_ne C (tgt := 258) dX9_holdsText_245 (by decide) h (fun h => ?_) (fun h => ?_)
              · refine wa_aload_n C (i := 0) dX9_holdsText_248 rfl rfl ?_
                refine wa_iconst C (v := 2) dX9_holdsText_249 (by decide) ?_
                refine wa_callVv C lq_67 sh_67 rfl s_X9_323 i_X9_works e_X9_works dX9_holdsText_250 (ok_X9_works h) rfl rfl (Nat.le_of_ble_eq_true rfl) (by rw [hd]; decide) (fun g30 h => ?_)
                refine wa_aload_n C (i := 0) dX9_holdsText_253 rfl rfl ?_
                refine wa_iconst C (v := 2) dX9_holdsText_254 (by decide) ?_
                refine wa_callVv C lq_67 sh_67 rfl s_X9_316 i_X9_waitsFor e_X9_waitsFor dX9_holdsText_255 (ok_X9_waitsFor h) rfl rfl (Nat.le_of_ble_eq_true rfl) (by rw [hd]; decide) (fun g31 h => ?_)
                exact WA.weak (hJ258 _ h) ⟨rfl, ⟨rfl, trivial⟩⟩
              · exact WA.weak (hJ258 _ h) ⟨rfl, ⟨rfl, trivial⟩⟩
            refine wa_icmp_ne C (tgt := 238) dX9_holdsText_225 (by decide) h (fun h => ?_) (fun h => ?_)
            · refine wa_aload_n C (i := 0) dX9_holdsText_228 rfl rfl ?_
              refine wa_iconst C (v := 1) dX9_holdsText_229 (by decide) ?_
              refine wa_callVv C lq_67 sh_67 rfl s_X9_323 i_X9_works e_X9_works dX9_holdsText_230 (ok_X9_works h) rfl rfl (Nat.le_of_ble_eq_true rfl) (by rw [hd]; decide) (fun g32 h => ?_)
              refine wa_aload_n C (i := 0) dX9_holdsText_233 rfl rfl ?_
              refine wa_iconst C (v := 1) dX9_holdsText_234 (by decide) ?_
              refine wa_callVv C lq_67 sh_67 rfl s_X9_316 i_X9_waitsFor e_X9_waitsFor dX9_holdsText_235 (ok_X9_waitsFor h) rfl rfl (Nat.le_of_ble_eq_true rfl) (by rw [hd]; decide) (fun g33 h => ?_)
              exact WA.weak (hJ238 _ h) ⟨rfl, ⟨rfl, trivial⟩⟩
            · exact WA.weak (hJ238 _ h) ⟨rfl, ⟨rfl, trivial⟩⟩
        refine fp_k0 (Q := WA Z 154 [some (.ref 67), some (.int x1), none, none, none] [.int (g15 67 59), .ref 111] g15) h (fun  h => ?_) (fun J154 hJ154 h => ?_)
        · refine wa_iconst C (v := 1) dX9_holdsText_154 (by decide) ?_
          refine wa_goto C (tgt := 159) dX9_holdsText_155 (by decide) ?_
          exact WA.weak (hJ159 _ h) ⟨rfl, ⟨rfl, trivial⟩⟩
        refine fp_k0 (Q := WA Z 158 [some (.ref 67), some (.int x1), none, none, none] [.int (g15 67 59), .ref 111] g15) h (fun  h => ?_) (fun J158 hJ158 h => ?_)
        · refine wa_iconst C (v := 0) dX9_holdsText_158 (by decide) ?_
          exact WA.weak (hJ159 _ h) ⟨rfl, ⟨rfl, trivial⟩⟩
        refine wa_icmp_ne C (tgt := 133) dX9_holdsText_121 (by decide) h (fun h => ?_) (fun h => ?_)
        · refine wa_iload_n C (i := 2) dX9_holdsText_124 rfl rfl ?_
          refine wa_iload C dX9_holdsText_125 rfl ?_
          refine wa_icmp_ge C (tgt := 158) dX9_holdsText_127 (by decide) h (fun h => ?_) (fun h => ?_)
          · exact WA.weak (hJ158  h) ⟨rfl, ⟨rfl, trivial⟩⟩
          · refine wa_goto C (tgt := 154) dX9_holdsText_130 (by decide) ?_
            exact WA.weak (hJ154  h) ⟨rfl, ⟨rfl, trivial⟩⟩
        · refine wa_iload_n C (i := 3) dX9_holdsText_133 rfl rfl ?_
          refine wa_bipush C (v := 62) dX9_holdsText_134 (by decide) ?_
          refine wa_icmp_ne C (tgt := 148) dX9_holdsText_136 (by decide) h (fun h => ?_) (fun h => ?_)
          · refine wa_iload_n C (i := 2) dX9_holdsText_139 rfl rfl ?_
            refine wa_iload C dX9_holdsText_140 rfl ?_
            refine wa_icmp_le C (tgt := 158) dX9_holdsText_142 (by decide) h (fun h => ?_) (fun h => ?_)
            · exact WA.weak (hJ158  h) ⟨rfl, ⟨rfl, trivial⟩⟩
            · refine wa_goto C (tgt := 154) dX9_holdsText_145 (by decide) ?_
              exact WA.weak (hJ154  h) ⟨rfl, ⟨rfl, trivial⟩⟩
          · refine wa_iload_n C (i := 2) dX9_holdsText_148 rfl rfl ?_
            refine wa_iload C dX9_holdsText_149 rfl ?_
            refine wa_icmp_ne C (tgt := 158) dX9_holdsText_151 (by decide) h (fun h => ?_) (fun h => ?_)
            · exact WA.weak (hJ154  h) ⟨rfl, ⟨rfl, trivial⟩⟩
            · exact WA.weak (hJ158  h) ⟨rfl, ⟨rfl, trivial⟩⟩

set_option maxRecDepth 20000 in
theorem ok_X9_holdsText {l : Launch} {E : fp_E} {x1 : Int32} {g : fp_G} {K : Int32 → fp_G → Prop} (h : w_X9_holdsText x1 g K) : fp_M l E yX9_holdsText cX9_holdsText 5 ((Option.some Jvm.ClassFile.FieldType.boolean)) false 3 [.ref 67, .int x1] g K := by
  unfold w_X9_holdsText at h
  refine fp_enter rfl [some (.ref 67), some (.int x1), none, none, none] (Nat.le_of_ble_eq_true rfl) (fun q hq => hq) (fun Z hE hl hv hK hn hd C => ?_)
  subst hE hl hK
  refine wa_aload_n C (i := 0) dX9_holdsText_0 rfl rfl ?_
  refine wa_iconst C (v := 0) dX9_holdsText_1 (by decide) ?_
  refine wa_putI C (j := 57) lq_67 sh_67 rfl in_X9 (by decide) tyX9 tyX9_ok nmX9 rfl rfl rfl f_X9_304 dX9_holdsText_2 h (fun g1 h => ?_)
  refine wa_aload_n C (i := 0) dX9_holdsText_5 rfl rfl ?_
  refine wa_iconst C (v := 0) dX9_holdsText_6 (by decide) ?_
  refine wa_putI C (j := 58) lq_67 sh_67 rfl in_X9 (by decide) tyX9 tyX9_ok nmX9 rfl rfl rfl f_X9_310 dX9_holdsText_7 h (fun g2 h => ?_)
  refine wa_aload_n C (i := 0) dX9_holdsText_10 rfl rfl ?_
  refine wa_iconst C (v := 0) dX9_holdsText_11 (by decide) ?_
  refine wa_putI C (j := 59) lq_67 sh_67 rfl in_X9 (by decide) tyX9 tyX9_ok nmX9 rfl rfl rfl f_X9_313 dX9_holdsText_12 h (fun g3 h => ?_)
  obtain ⟨n15, h⟩ := h
  exact WA.weak (ok_X9_holdsText_15 C hv hn hd n15 _ h) ⟨rfl, ⟨rfl, trivial⟩⟩

set_option maxRecDepth 20000 in
theorem ok_X9_holdsFor_15 {Z : fp_Z} (C : fp_C Z cX9_holdsFor RX9 ((Option.some Jvm.ClassFile.FieldType.boolean))) (hv : fp_V Z false) (hn : Z.2.2.2.2.1 = 7) (hd : Z.2.2.2.2.2.1 = 5) {x1 : Int32} {x2 : Int32} {x3 : Int32} {x4 : Int32} : ∀ (n : Nat) (x5 : Int32) (x6 : Int32) (g : fp_G), w_X9_holdsFor_15 n x1 x2 x3 x4 x5 x6 g Z.2.2.2.1 → WA Z 15 [some (.ref 67), some (.int x1), some (.int x2), some (.int x3), some (.int x4), some (.int x5), some (.int x6)] [] g := by
  intro n
  induction n with
  | zero => intro x5 x6 g h; exact h.elim
  | succ n ih =>
    intro x5 x6 g h
    rw [w_X9_holdsFor_15] at h
    refine wa_iload C dX9_holdsFor_15 rfl ?_
    refine wa_aload_n C (i := 0) dX9_holdsFor_17 rfl rfl ?_
    refine wa_getI C (j := 52) lq_67 sh_67 rfl in_X9 (by decide) rfl f_X9_298 dX9_holdsFor_18 ?_
    refine wa_icmp_ge C (tgt := 67) dX9_holdsFor_21 (by decide) h (fun h => ?_) (fun h => ?_)
    · refine wa_iload C dX9_holdsFor_67 rfl ?_
      refine wa_if_ge C (tgt := 74) dX9_holdsFor_69 (by decide) h (fun h => ?_) (fun h => ?_)
      · refine wa_aload_n C (i := 0) dX9_holdsFor_74 rfl rfl ?_
        refine wa_getR C (j := 50) lq_67 sh_67 rfl in_X9 (by decide) rfl f_X9_138 dX9_holdsFor_75 ?_
        refine wa_bipush C (v := 107) dX9_holdsFor_78 (by decide) ?_
        refine wa_aload_n C (i := 0) dX9_holdsFor_80 rfl rfl ?_
        refine wa_getR C (j := 29) lq_67 sh_67 rfl in_X9 (by decide) rfl f_X9_77 dX9_holdsFor_81 ?_
        refine wa_iload_n C (i := 2) dX9_holdsFor_84 rfl rfl ?_
        refine wa_iald C lq_90 sh_90 dX9_holdsFor_85 h (fun v2 h => ?_)
        refine wa_iast C lq_109 sh_109 dX9_holdsFor_86 h (fun g1 h => ?_)
        refine wa_aload_n C (i := 0) dX9_holdsFor_87 rfl rfl ?_
        refine wa_getR C (j := 50) lq_67 sh_67 rfl in_X9 (by decide) rfl f_X9_138 dX9_holdsFor_88 ?_
        refine wa_bipush C (v := 119) dX9_holdsFor_91 (by decide) ?_
        refine wa_aload_n C (i := 0) dX9_holdsFor_93 rfl rfl ?_
        refine wa_getR C (j := 33) lq_67 sh_67 rfl in_X9 (by decide) rfl f_X9_89 dX9_holdsFor_94 ?_
        refine wa_iload_n C (i := 2) dX9_holdsFor_97 rfl rfl ?_
        refine wa_iald C lq_94 sh_94 dX9_holdsFor_98 h (fun v3 h => ?_)
        refine wa_iast C lq_109 sh_109 dX9_holdsFor_99 h (fun g2 h => ?_)
        refine wa_aload_n C (i := 0) dX9_holdsFor_100 rfl rfl ?_
        refine wa_getR C (j := 50) lq_67 sh_67 rfl in_X9 (by decide) rfl f_X9_138 dX9_holdsFor_101 ?_
        refine wa_bipush C (v := 97) dX9_holdsFor_104 (by decide) ?_
        refine wa_iload_n C (i := 3) dX9_holdsFor_106 rfl rfl ?_
        refine wa_aload_n C (i := 0) dX9_holdsFor_107 rfl rfl ?_
        refine wa_getR C (j := 31) lq_67 sh_67 rfl in_X9 (by decide) rfl f_X9_83 dX9_holdsFor_108 ?_
        refine wa_iload_n C (i := 2) dX9_holdsFor_111 rfl rfl ?_
        refine wa_iald C lq_92 sh_92 dX9_holdsFor_112 h (fun v4 h => ?_)
        refine wa_isub C dX9_holdsFor_113 ?_
        refine wa_iast C lq_109 sh_109 dX9_holdsFor_114 h (fun g3 h => ?_)
        refine wa_aload_n C (i := 0) dX9_holdsFor_115 rfl rfl ?_
        refine wa_getR C (j := 50) lq_67 sh_67 rfl in_X9 (by decide) rfl f_X9_138 dX9_holdsFor_116 ?_
        refine wa_bipush C (v := 104) dX9_holdsFor_119 (by decide) ?_
        refine wa_iload_n C (i := 3) dX9_holdsFor_121 rfl rfl ?_
        refine wa_aload_n C (i := 0) dX9_holdsFor_122 rfl rfl ?_
        refine wa_getR C (j := 36) lq_67 sh_67 rfl in_X9 (by decide) rfl f_X9_98 dX9_holdsFor_123 ?_
        refine wa_iload_n C (i := 2) dX9_holdsFor_126 rfl rfl ?_
        refine wa_iald C lq_97 sh_97 dX9_holdsFor_127 h (fun v5 h => ?_)
        refine wa_isub C dX9_holdsFor_128 ?_
        refine wa_iast C lq_109 sh_109 dX9_holdsFor_129 h (fun g4 h => ?_)
        refine wa_aload_n C (i := 0) dX9_holdsFor_130 rfl rfl ?_
        refine wa_getR C (j := 50) lq_67 sh_67 rfl in_X9 (by decide) rfl f_X9_138 dX9_holdsFor_131 ?_
        refine wa_bipush C (v := 115) dX9_holdsFor_134 (by decide) ?_
        refine wa_aload_n C (i := 0) dX9_holdsFor_136 rfl rfl ?_
        refine wa_aload_n C (i := 0) dX9_holdsFor_137 rfl rfl ?_
        refine wa_getR C (j := 32) lq_67 sh_67 rfl in_X9 (by decide) rfl f_X9_86 dX9_holdsFor_138 ?_
        refine wa_iload_n C (i := 2) dX9_holdsFor_141 rfl rfl ?_
        refine wa_iald C lq_93 sh_93 dX9_holdsFor_142 h (fun v6 h => ?_)
        refine wa_iload_n C (i := 3) dX9_holdsFor_143 rfl rfl ?_
        refine wa_iload C dX9_holdsFor_144 rfl ?_
        refine wa_callVi C lq_67 sh_67 rfl s_X9_252 i_X9_stateAt e_X9_stateAt dX9_holdsFor_146 (ok_X9_stateAt h) rfl rfl (Nat.le_of_ble_eq_true rfl) (by rw [hd]; decide) (fun v7 g5 h => ?_)
        refine wa_iast C lq_109 sh_109 dX9_holdsFor_149 h (fun g6 h => ?_)
        refine wa_aload_n C (i := 0) dX9_holdsFor_150 rfl rfl ?_
        refine wa_getR C (j := 50) lq_67 sh_67 rfl in_X9 (by decide) rfl f_X9_138 dX9_holdsFor_151 ?_
        refine wa_bipush C (v := 117) dX9_holdsFor_154 (by decide) ?_
        refine wa_aload_n C (i := 0) dX9_holdsFor_156 rfl rfl ?_
        refine wa_getR C (j := 20) lq_67 sh_67 rfl in_X9 (by decide) rfl f_X9_59 dX9_holdsFor_157 ?_
        refine wa_aload_n C (i := 0) dX9_holdsFor_160 rfl rfl ?_
        refine wa_getR C (j := 32) lq_67 sh_67 rfl in_X9 (by decide) rfl f_X9_86 dX9_holdsFor_161 ?_
        refine wa_iload_n C (i := 2) dX9_holdsFor_164 rfl rfl ?_
        refine wa_iald C lq_93 sh_93 dX9_holdsFor_165 h (fun v8 h => ?_)
        refine wa_iald C lq_84 sh_84 dX9_holdsFor_166 h (fun v9 h => ?_)
        refine wa_iast C lq_109 sh_109 dX9_holdsFor_167 h (fun g7 h => ?_)
        refine wa_aload_n C (i := 0) dX9_holdsFor_168 rfl rfl ?_
        refine wa_getR C (j := 50) lq_67 sh_67 rfl in_X9 (by decide) rfl f_X9_138 dX9_holdsFor_169 ?_
        refine wa_bipush C (v := 111) dX9_holdsFor_172 (by decide) ?_
        refine wa_iload C dX9_holdsFor_174 rfl ?_
        refine wa_iast C lq_109 sh_109 dX9_holdsFor_176 h (fun g8 h => ?_)
        refine wa_aload_n C (i := 0) dX9_holdsFor_177 rfl rfl ?_
        refine wa_getR C (j := 50) lq_67 sh_67 rfl in_X9 (by decide) rfl f_X9_138 dX9_holdsFor_178 ?_
        refine wa_bipush C (v := 98) dX9_holdsFor_181 (by decide) ?_
        refine wa_aload_n C (i := 0) dX9_holdsFor_183 rfl rfl ?_
        refine wa_getR C (j := 40) lq_67 sh_67 rfl in_X9 (by decide) rfl f_X9_110 dX9_holdsFor_184 ?_
        refine wa_iload_n C (i := 2) dX9_holdsFor_187 rfl rfl ?_
        refine wa_zald C lq_101 sh_101 dX9_holdsFor_188 h (fun v10 h => ?_)
        refine fp_k1 (Q := fun z0j197 => WA Z 197 [some (.ref 67), none, some (.int x2), none, none, some (.int x5), none] [.int z0j197, .int 98, .ref 109] g8) h (fun z0j197 h => ?_) (fun J197 hJ197 h => ?_)
        · refine wa_iast C lq_109 sh_109 dX9_holdsFor_197 h (fun g9 h => ?_)
          refine wa_aload_n C (i := 0) dX9_holdsFor_198 rfl rfl ?_
          refine wa_getR C (j := 50) lq_67 sh_67 rfl in_X9 (by decide) rfl f_X9_138 dX9_holdsFor_199 ?_
          refine wa_bipush C (v := 99) dX9_holdsFor_202 (by decide) ?_
          refine wa_aload_n C (i := 0) dX9_holdsFor_204 rfl rfl ?_
          refine wa_getR C (j := 38) lq_67 sh_67 rfl in_X9 (by decide) rfl f_X9_104 dX9_holdsFor_205 ?_
          refine wa_iload_n C (i := 2) dX9_holdsFor_208 rfl rfl ?_
          refine wa_iald C lq_99 sh_99 dX9_holdsFor_209 h (fun v11 h => ?_)
          refine wa_iast C lq_109 sh_109 dX9_holdsFor_210 h (fun g10 h => ?_)
          refine wa_aload_n C (i := 0) dX9_holdsFor_211 rfl rfl ?_
          refine wa_iload C dX9_holdsFor_212 rfl ?_
          refine wa_callVi C lq_67 sh_67 rfl s_X9_326 i_X9_holdsText e_X9_holdsText dX9_holdsFor_214 (ok_X9_holdsText h) rfl rfl (Nat.le_of_ble_eq_true rfl) (by rw [hd]; decide) (fun v12 g11 h => ?_)
          exact wa_zret C hv rfl h.1 dX9_holdsFor_217 h.2
        refine wa_if_eq C (tgt := 196) dX9_holdsFor_189 (by decide) h (fun h => ?_) (fun h => ?_)
        · refine wa_iconst C (v := 0) dX9_holdsFor_196 (by decide) ?_
          exact WA.weak (hJ197 _ h) ⟨rfl, ⟨rfl, ⟨rfl, trivial⟩⟩⟩
        · refine wa_iconst C (v := 1) dX9_holdsFor_192 (by decide) ?_
          refine wa_goto C (tgt := 197) dX9_holdsFor_193 (by decide) ?_
          exact WA.weak (hJ197 _ h) ⟨rfl, ⟨rfl, ⟨rfl, trivial⟩⟩⟩
      · refine wa_iconst C (v := 0) dX9_holdsFor_72 (by decide) ?_
        exact wa_zret C hv rfl rfl dX9_holdsFor_73 h
    · refine wa_aload_n C (i := 0) dX9_holdsFor_24 rfl rfl ?_
      refine wa_getR C (j := 47) lq_67 sh_67 rfl in_X9 (by decide) rfl f_X9_129 dX9_holdsFor_25 ?_
      refine wa_iload C dX9_holdsFor_28 rfl ?_
      refine wa_iald C lq_106 sh_106 dX9_holdsFor_30 h (fun v13 h => ?_)
      refine wa_iload_n C (i := 1) dX9_holdsFor_31 rfl rfl ?_
      refine fp_j1 (Q := fun z0j59 g12 => WA Z 59 [some (.ref 67), some (.int x1), some (.int x2), some (.int x3), some (.int x4), none, some (.int x6)] [.int z0j59] g12) h (fun z0j59 g12 h => ?_) (fun J59 hJ59 h => ?_)
      · refine wa_istore C (i := 5) dX9_holdsFor_59 (by rw [hn]; decide) rfl rfl ?_
        refine wa_iinc C (i := 6) dX9_holdsFor_61 rfl (fp_inc1 _) (by rw [hn]; decide) rfl rfl ?_
        refine wa_goto C (tgt := 15) dX9_holdsFor_64 (by decide) ?_
        exact WA.weak (ih _ _ _ h) ⟨rfl, ⟨rfl, ⟨rfl, ⟨rfl, ⟨rfl, ⟨rfl, ⟨rfl, trivial⟩⟩⟩⟩⟩⟩⟩
      refine fp_j0 (Q := fun g13 => WA Z 57 [some (.ref 67), some (.int x1), some (.int x2), some (.int x3), some (.int x4), some (.int x5), some (.int x6)] [] g13) h (fun g13 h => ?_) (fun J57 hJ57 h => ?_)
      · refine wa_iload C dX9_holdsFor_57 rfl ?_
        exact WA.weak (hJ59 _ _ h) ⟨rfl, ⟨rfl, ⟨rfl, ⟨rfl, ⟨rfl, ⟨rfl, trivial⟩⟩⟩⟩⟩⟩
      refine wa_icmp_ne C (tgt := 57) dX9_holdsFor_32 (by decide) h (fun h => ?_) (fun h => ?_)
      · refine wa_aload_n C (i := 0) dX9_holdsFor_35 rfl rfl ?_
        refine wa_aload_n C (i := 0) dX9_holdsFor_36 rfl rfl ?_
        refine wa_getR C (j := 48) lq_67 sh_67 rfl in_X9 (by decide) rfl f_X9_132 dX9_holdsFor_37 ?_
        refine wa_iload C dX9_holdsFor_40 rfl ?_
        refine wa_iald C lq_107 sh_107 dX9_holdsFor_42 h (fun v14 h => ?_)
        refine wa_iload C dX9_holdsFor_43 rfl ?_
        refine wa_iload_n C (i := 3) dX9_holdsFor_45 rfl rfl ?_
        refine wa_callVi C lq_67 sh_67 rfl s_X9_229 i_X9_isHeard e_X9_isHeard dX9_holdsFor_46 (ok_X9_isHeard h) rfl rfl (Nat.le_of_ble_eq_true rfl) (by rw [hd]; decide) (fun v15 g14 h => ?_)
        refine wa_if_eq C (tgt := 57) dX9_holdsFor_49 (by decide) h (fun h => ?_) (fun h => ?_)
        · exact WA.weak (hJ57 _ h) ⟨rfl, ⟨rfl, ⟨rfl, ⟨rfl, ⟨rfl, ⟨rfl, ⟨rfl, trivial⟩⟩⟩⟩⟩⟩⟩
        · refine wa_iload C dX9_holdsFor_52 rfl ?_
          refine wa_goto C (tgt := 59) dX9_holdsFor_54 (by decide) ?_
          exact WA.weak (hJ59 _ _ h) ⟨rfl, ⟨rfl, ⟨rfl, ⟨rfl, ⟨rfl, ⟨rfl, trivial⟩⟩⟩⟩⟩⟩
      · exact WA.weak (hJ57 _ h) ⟨rfl, ⟨rfl, ⟨rfl, ⟨rfl, ⟨rfl, ⟨rfl, ⟨rfl, trivial⟩⟩⟩⟩⟩⟩⟩

set_option maxRecDepth 20000 in
theorem ok_X9_holdsFor {l : Launch} {E : fp_E} {x1 : Int32} {x2 : Int32} {x3 : Int32} {g : fp_G} {K : Int32 → fp_G → Prop} (h : w_X9_holdsFor x1 x2 x3 g K) : fp_M l E yX9_holdsFor cX9_holdsFor 7 ((Option.some Jvm.ClassFile.FieldType.boolean)) false 5 [.ref 67, .int x1, .int x2, .int x3] g K := by
  unfold w_X9_holdsFor at h
  refine fp_enter rfl [some (.ref 67), some (.int x1), some (.int x2), some (.int x3), none, none, none] (Nat.le_of_ble_eq_true rfl) (fun q hq => hq) (fun Z hE hl hv hK hn hd C => ?_)
  subst hE hl hK
  refine wa_aload_n C (i := 0) dX9_holdsFor_0 rfl rfl ?_
  refine wa_getR C (j := 35) lq_67 sh_67 rfl in_X9 (by decide) rfl f_X9_95 dX9_holdsFor_1 ?_
  refine wa_iload_n C (i := 2) dX9_holdsFor_4 rfl rfl ?_
  refine wa_iald C lq_96 sh_96 dX9_holdsFor_5 h (fun v1 h => ?_)
  refine wa_istore C (i := 4) dX9_holdsFor_6 (by rw [hn]; decide) rfl rfl ?_
  refine wa_bipush C (v := (-9)) dX9_holdsFor_8 (by decide) ?_
  refine wa_istore C (i := 5) dX9_holdsFor_10 (by rw [hn]; decide) rfl rfl ?_
  refine wa_iconst C (v := 0) dX9_holdsFor_12 (by decide) ?_
  refine wa_istore C (i := 6) dX9_holdsFor_13 (by rw [hn]; decide) rfl rfl ?_
  obtain ⟨n15, h⟩ := h
  exact WA.weak (ok_X9_holdsFor_15 C hv hn hd n15 _ _ _ h) ⟨rfl, ⟨rfl, ⟨rfl, ⟨rfl, ⟨rfl, ⟨rfl, ⟨rfl, trivial⟩⟩⟩⟩⟩⟩⟩

set_option maxRecDepth 20000 in
theorem ok_X9_holds {l : Launch} {E : fp_E} {x1 : Int32} {x2 : Int32} {g : fp_G} {K : Int32 → fp_G → Prop} (h : w_X9_holds x1 x2 g K) : fp_M l E yX9_holds cX9_holds 3 ((Option.some Jvm.ClassFile.FieldType.int)) false 6 [.ref 67, .int x1, .int x2] g K := by
  unfold w_X9_holds at h
  refine fp_enter rfl [some (.ref 67), some (.int x1), some (.int x2)] (Nat.le_of_ble_eq_true rfl) (fun q hq => hq) (fun Z hE hl hv hK hn hd C => ?_)
  subst hE hl hK
  refine wa_iload_n C (i := 1) dX9_holds_0 rfl rfl ?_
  refine wa_i2l C dX9_holds_1 ?_
  refine wa_lconst C (v := 0) dX9_holds_2 (by decide) ?_
  refine wa_ldc2 C (v := 2) k_X9_262 dX9_holds_3 ?_
  refine wa_callSi C s_X9_203 t_X9_isIn dX9_holds_6 (ok_X9_isIn h) rfl rfl (Nat.le_of_ble_eq_true rfl) (by rw [hd]; decide) (fun v1 g1 h => ?_)
  refine wa_if_ne C (tgt := 19) dX9_holds_9 (by decide) h (fun h => ?_) (fun h => ?_)
  · refine wa_aload_n C (i := 0) dX9_holds_12 rfl rfl ?_
    refine wa_bipush C (v := (-2)) dX9_holds_13 (by decide) ?_
    refine wa_callVi C lq_67 sh_67 rfl s_X9_192 i_X9_no e_X9_no dX9_holds_15 (ok_X9_no h) rfl rfl (Nat.le_of_ble_eq_true rfl) (by rw [hd]; decide) (fun v8 g7 h => ?_)
    exact wa_iret C hv rfl dX9_holds_18 h
  · refine wa_aload_n C (i := 0) dX9_holds_19 rfl rfl ?_
    refine wa_iload_n C (i := 2) dX9_holds_20 rfl rfl ?_
    refine wa_callVi C lq_67 sh_67 rfl s_X9_329 i_X9_isMail e_X9_isMail dX9_holds_21 (ok_X9_isMail h) rfl rfl (Nat.le_of_ble_eq_true rfl) (by rw [hd]; decide) (fun v2 g2 h => ?_)
    refine wa_if_ne C (tgt := 33) dX9_holds_24 (by decide) h (fun h => ?_) (fun h => ?_)
    · refine wa_aload_n C (i := 0) dX9_holds_27 rfl rfl ?_
      refine wa_iconst C (v := (-1)) dX9_holds_28 (by decide) ?_
      refine wa_callVi C lq_67 sh_67 rfl s_X9_192 i_X9_no e_X9_no dX9_holds_29 (ok_X9_no h) rfl rfl (Nat.le_of_ble_eq_true rfl) (by rw [hd]; decide) (fun v7 g6 h => ?_)
      exact wa_iret C hv rfl dX9_holds_32 h
    · refine wa_aload_n C (i := 0) dX9_holds_33 rfl rfl ?_
      refine wa_getR C (j := 34) lq_67 sh_67 rfl in_X9 (by decide) rfl f_X9_92 dX9_holds_34 ?_
      refine wa_iload_n C (i := 2) dX9_holds_37 rfl rfl ?_
      refine wa_iald C lq_95 sh_95 dX9_holds_38 h (fun v3 h => ?_)
      refine wa_if_eq C (tgt := 49) dX9_holds_39 (by decide) h (fun h => ?_) (fun h => ?_)
      · refine wa_aload_n C (i := 0) dX9_holds_49 rfl rfl ?_
        refine wa_callVv C lq_67 sh_67 rfl s_X9_214 i_X9_findFar e_X9_findFar dX9_holds_50 (ok_X9_findFar h) rfl rfl (Nat.le_of_ble_eq_true rfl) (by rw [hd]; decide) (fun g3 h => ?_)
        refine wa_aload_n C (i := 0) dX9_holds_53 rfl rfl ?_
        refine wa_iload_n C (i := 1) dX9_holds_54 rfl rfl ?_
        refine wa_iload_n C (i := 2) dX9_holds_55 rfl rfl ?_
        refine wa_aload_n C (i := 0) dX9_holds_56 rfl rfl ?_
        refine wa_getI C (j := 15) lq_67 sh_67 rfl in_X9 (by decide) rfl f_X9_207 dX9_holds_57 ?_
        refine wa_callVi C lq_67 sh_67 rfl s_X9_332 i_X9_holdsFor e_X9_holdsFor dX9_holds_60 (ok_X9_holdsFor h) rfl rfl (Nat.le_of_ble_eq_true rfl) (by rw [hd]; decide) (fun v5 g4 h => ?_)
        refine wa_if_eq C (tgt := 70) dX9_holds_63 (by decide) h (fun h => ?_) (fun h => ?_)
        · refine wa_iconst C (v := 0) dX9_holds_70 (by decide) ?_
          exact wa_iret C hv rfl dX9_holds_71 h
        · refine wa_iconst C (v := 1) dX9_holds_66 (by decide) ?_
          refine wa_goto C (tgt := 71) dX9_holds_67 (by decide) ?_
          exact wa_iret C hv rfl dX9_holds_71 h
      · refine wa_aload_n C (i := 0) dX9_holds_42 rfl rfl ?_
        refine wa_bipush C (v := (-3)) dX9_holds_43 (by decide) ?_
        refine wa_callVi C lq_67 sh_67 rfl s_X9_192 i_X9_no e_X9_no dX9_holds_45 (ok_X9_no h) rfl rfl (Nat.le_of_ble_eq_true rfl) (by rw [hd]; decide) (fun v6 g5 h => ?_)
        exact wa_iret C hv rfl dX9_holds_48 h

set_option maxRecDepth 20000 in
theorem ok_X9_keep {l : Launch} {E : fp_E} {x1 : Int32} {g : fp_G} {K : Int32 → fp_G → Prop} (h : w_X9_keep x1 g K) : fp_M l E yX9_keep cX9_keep 4 ((Option.some Jvm.ClassFile.FieldType.int)) false 2 [.ref 67, .int x1] g K := by
  unfold w_X9_keep at h
  refine fp_enter rfl [some (.ref 67), some (.int x1), none, none] (Nat.le_of_ble_eq_true rfl) (fun q hq => hq) (fun Z hE hl hv hK hn hd C => ?_)
  subst hE hl hK
  refine wa_iload_n C (i := 1) dX9_keep_0 rfl rfl ?_
  refine wa_i2l C dX9_keep_1 ?_
  refine wa_lconst C (v := 1) dX9_keep_2 (by decide) ?_
  refine wa_ldc2 C (v := 999) k_X9_335 dX9_keep_3 ?_
  refine wa_callSi C s_X9_188 t_X9_out dX9_keep_6 (ok_X9_out h) rfl rfl (Nat.le_of_ble_eq_true rfl) (by rw [hd]; decide) (fun v1 g1 h => ?_)
  refine wa_istore_n C (i := 2) dX9_keep_9 rfl (by rw [hn]; decide) rfl rfl ?_
  refine wa_iload_n C (i := 2) dX9_keep_10 rfl rfl ?_
  refine wa_if_eq C (tgt := 20) dX9_keep_11 (by decide) h (fun h => ?_) (fun h => ?_)
  · refine wa_aload_n C (i := 0) dX9_keep_20 rfl rfl ?_
    refine wa_getI C (j := 43) lq_67 sh_67 rfl in_X9 (by decide) rfl f_X9_116 dX9_keep_21 ?_
    refine wa_istore_n C (i := 3) dX9_keep_24 rfl (by rw [hn]; decide) rfl rfl ?_
    refine wa_aload_n C (i := 0) dX9_keep_25 rfl rfl ?_
    refine wa_iload_n C (i := 1) dX9_keep_26 rfl rfl ?_
    refine wa_putI C (j := 43) lq_67 sh_67 rfl in_X9 (by decide) tyX9 tyX9_ok nmX9 rfl rfl rfl f_X9_116 dX9_keep_27 h (fun g2 h => ?_)
    refine wa_iload_n C (i := 3) dX9_keep_30 rfl rfl ?_
    exact wa_iret C hv rfl dX9_keep_31 h
  · refine wa_aload_n C (i := 0) dX9_keep_14 rfl rfl ?_
    refine wa_iload_n C (i := 2) dX9_keep_15 rfl rfl ?_
    refine wa_callVi C lq_67 sh_67 rfl s_X9_192 i_X9_no e_X9_no dX9_keep_16 (ok_X9_no h) rfl rfl (Nat.le_of_ble_eq_true rfl) (by rw [hd]; decide) (fun v2 g3 h => ?_)
    exact wa_iret C hv rfl dX9_keep_19 h

set_option maxRecDepth 20000 in
theorem ok_X9_goalOf {l : Launch} {E : fp_E} {x1 : Int32} {x2 : Int32} {g : fp_G} {K : Int32 → fp_G → Prop} (h : w_X9_goalOf x1 x2 g K) : fp_M l E yX9_goalOf cX9_goalOf 4 ((Option.some Jvm.ClassFile.FieldType.int)) false 4 [.ref 67, .int x1, .int x2] g K := by
  unfold w_X9_goalOf at h
  refine fp_enter rfl [some (.ref 67), some (.int x1), some (.int x2), none] (Nat.le_of_ble_eq_true rfl) (fun q hq => hq) (fun Z hE hl hv hK hn hd C => ?_)
  subst hE hl hK
  refine wa_aload_n C (i := 0) dX9_goalOf_0 rfl rfl ?_
  refine wa_getR C (j := 40) lq_67 sh_67 rfl in_X9 (by decide) rfl f_X9_110 dX9_goalOf_1 ?_
  refine wa_iload_n C (i := 1) dX9_goalOf_4 rfl rfl ?_
  refine wa_zald C lq_101 sh_101 dX9_goalOf_5 h (fun v1 h => ?_)
  refine wa_if_eq C (tgt := 16) dX9_goalOf_6 (by decide) h (fun h => ?_) (fun h => ?_)
  · refine wa_aload_n C (i := 0) dX9_goalOf_16 rfl rfl ?_
    refine wa_aload_n C (i := 0) dX9_goalOf_17 rfl rfl ?_
    refine wa_getR C (j := 32) lq_67 sh_67 rfl in_X9 (by decide) rfl f_X9_86 dX9_goalOf_18 ?_
    refine wa_iload_n C (i := 1) dX9_goalOf_21 rfl rfl ?_
    refine wa_iald C lq_93 sh_93 dX9_goalOf_22 h (fun v2 h => ?_)
    refine wa_iload_n C (i := 2) dX9_goalOf_23 rfl rfl ?_
    refine wa_aload_n C (i := 0) dX9_goalOf_24 rfl rfl ?_
    refine wa_getR C (j := 35) lq_67 sh_67 rfl in_X9 (by decide) rfl f_X9_95 dX9_goalOf_25 ?_
    refine wa_iload_n C (i := 1) dX9_goalOf_28 rfl rfl ?_
    refine wa_iald C lq_96 sh_96 dX9_goalOf_29 h (fun v3 h => ?_)
    refine wa_callVi C lq_67 sh_67 rfl s_X9_249 i_X9_latest e_X9_latest dX9_goalOf_30 (ok_X9_latest h) rfl rfl (Nat.le_of_ble_eq_true rfl) (by rw [hd]; decide) (fun v4 g1 h => ?_)
    refine wa_istore_n C (i := 3) dX9_goalOf_33 rfl (by rw [hn]; decide) rfl rfl ?_
    refine wa_iload_n C (i := 3) dX9_goalOf_34 rfl rfl ?_
    refine fp_k0 (Q := WA Z 55 [some (.ref 67), some (.int x1), some (.int x2), none] [] g1) h (fun  h => ?_) (fun J55 hJ55 h => ?_)
    · refine wa_aload_n C (i := 0) dX9_goalOf_55 rfl rfl ?_
      refine wa_aload_n C (i := 0) dX9_goalOf_56 rfl rfl ?_
      refine wa_getR C (j := 20) lq_67 sh_67 rfl in_X9 (by decide) rfl f_X9_59 dX9_goalOf_57 ?_
      refine wa_aload_n C (i := 0) dX9_goalOf_60 rfl rfl ?_
      refine wa_getR C (j := 32) lq_67 sh_67 rfl in_X9 (by decide) rfl f_X9_86 dX9_goalOf_61 ?_
      refine wa_iload_n C (i := 1) dX9_goalOf_64 rfl rfl ?_
      refine wa_iald C lq_93 sh_93 dX9_goalOf_65 h (fun v5 h => ?_)
      refine wa_iald C lq_84 sh_84 dX9_goalOf_66 h (fun v6 h => ?_)
      refine wa_iload_n C (i := 2) dX9_goalOf_67 rfl rfl ?_
      refine wa_aload_n C (i := 0) dX9_goalOf_68 rfl rfl ?_
      refine wa_getR C (j := 35) lq_67 sh_67 rfl in_X9 (by decide) rfl f_X9_95 dX9_goalOf_69 ?_
      refine wa_iload_n C (i := 1) dX9_goalOf_72 rfl rfl ?_
      refine wa_iald C lq_96 sh_96 dX9_goalOf_73 h (fun v7 h => ?_)
      refine wa_callVi C lq_67 sh_67 rfl s_X9_235 i_X9_unitAt e_X9_unitAt dX9_goalOf_74 (ok_X9_unitAt h) rfl rfl (Nat.le_of_ble_eq_true rfl) (by rw [hd]; decide) (fun v8 g2 h => ?_)
      exact wa_iret C hv rfl dX9_goalOf_77 h
    refine wa_if_lt C (tgt := 55) dX9_goalOf_35 (by decide) h (fun h => ?_) (fun h => ?_)
    · exact WA.weak (hJ55  h) ⟨rfl, ⟨rfl, ⟨rfl, trivial⟩⟩⟩
    · refine wa_aload_n C (i := 0) dX9_goalOf_38 rfl rfl ?_
      refine wa_getR C (j := 23) lq_67 sh_67 rfl in_X9 (by decide) rfl f_X9_68 dX9_goalOf_39 ?_
      refine wa_iload_n C (i := 3) dX9_goalOf_42 rfl rfl ?_
      refine wa_iald C lq_87 sh_87 dX9_goalOf_43 h (fun v9 h => ?_)
      refine wa_iconst C (v := 1) dX9_goalOf_44 (by decide) ?_
      refine wa_icmp_ne C (tgt := 55) dX9_goalOf_45 (by decide) h (fun h => ?_) (fun h => ?_)
      · refine wa_aload_n C (i := 0) dX9_goalOf_48 rfl rfl ?_
        refine wa_getR C (j := 24) lq_67 sh_67 rfl in_X9 (by decide) rfl f_X9_71 dX9_goalOf_49 ?_
        refine wa_iload_n C (i := 3) dX9_goalOf_52 rfl rfl ?_
        refine wa_iald C lq_88 sh_88 dX9_goalOf_53 h (fun v10 h => ?_)
        exact wa_iret C hv rfl dX9_goalOf_54 h
      · exact WA.weak (hJ55  h) ⟨rfl, ⟨rfl, ⟨rfl, trivial⟩⟩⟩
  · refine wa_aload_n C (i := 0) dX9_goalOf_9 rfl rfl ?_
    refine wa_getR C (j := 30) lq_67 sh_67 rfl in_X9 (by decide) rfl f_X9_80 dX9_goalOf_10 ?_
    refine wa_iload_n C (i := 1) dX9_goalOf_13 rfl rfl ?_
    refine wa_iald C lq_91 sh_91 dX9_goalOf_14 h (fun v11 h => ?_)
    exact wa_iret C hv rfl dX9_goalOf_15 h

set_option maxRecDepth 20000 in
theorem ok_X9_wayOn_2 {Z : fp_Z} (C : fp_C Z cX9_wayOn RX9 ((Option.some Jvm.ClassFile.FieldType.int))) (hv : fp_V Z false) (hn : Z.2.2.2.2.1 = 5) (hd : Z.2.2.2.2.2.1 = 1) {x1 : Int32} {x2 : Int32} : ∀ (n : Nat) (x3 : Int32) (g : fp_G), w_X9_wayOn_2 n x1 x2 x3 g Z.2.2.2.1 → WA Z 2 [some (.ref 67), some (.int x1), some (.int x2), some (.int x3), none] [] g := by
  intro n
  induction n with
  | zero => intro x3 g h; exact h.elim
  | succ n ih =>
    intro x3 g h
    rw [w_X9_wayOn_2] at h
    refine wa_iload_n C (i := 3) dX9_wayOn_2 rfl rfl ?_
    refine wa_aload_n C (i := 0) dX9_wayOn_3 rfl rfl ?_
    refine wa_getI C (j := 13) lq_67 sh_67 rfl in_X9 (by decide) rfl f_X9_200 dX9_wayOn_4 ?_
    refine wa_icmp_ge C (tgt := 126) dX9_wayOn_7 (by decide) h (fun h => ?_) (fun h => ?_)
    · refine wa_bipush C (v := (-9)) dX9_wayOn_126 (by decide) ?_
      exact wa_iret C hv rfl dX9_wayOn_128 h
    · refine wa_iload_n C (i := 2) dX9_wayOn_10 rfl rfl ?_
      refine wa_if_lt C (tgt := 126) dX9_wayOn_11 (by decide) h (fun h => ?_) (fun h => ?_)
      · refine wa_bipush C (v := (-9)) dX9_wayOn_126 (by decide) ?_
        exact wa_iret C hv rfl dX9_wayOn_128 h
      · refine wa_iload_n C (i := 2) dX9_wayOn_14 rfl rfl ?_
        refine wa_iload_n C (i := 1) dX9_wayOn_15 rfl rfl ?_
        refine wa_icmp_eq C (tgt := 126) dX9_wayOn_16 (by decide) h (fun h => ?_) (fun h => ?_)
        · refine wa_bipush C (v := (-9)) dX9_wayOn_126 (by decide) ?_
          exact wa_iret C hv rfl dX9_wayOn_128 h
        · refine wa_aload_n C (i := 0) dX9_wayOn_19 rfl rfl ?_
          refine wa_getR C (j := 2) lq_67 sh_67 rfl in_X9 (by decide) rfl f_X9_16 dX9_wayOn_20 ?_
          refine wa_iload_n C (i := 3) dX9_wayOn_23 rfl rfl ?_
          refine wa_iald C lq_70 sh_70 dX9_wayOn_24 h (fun v1 h => ?_)
          refine wa_iload_n C (i := 1) dX9_wayOn_25 rfl rfl ?_
          refine fp_k0 (Q := WA Z 120 [some (.ref 67), some (.int x1), some (.int x2), some (.int x3), none] [] g) h (fun  h => ?_) (fun J120 hJ120 h => ?_)
          · refine wa_iinc C (i := 3) dX9_wayOn_120 rfl (fp_inc1 _) (by rw [hn]; decide) rfl rfl ?_
            refine wa_goto C (tgt := 2) dX9_wayOn_123 (by decide) ?_
            exact WA.weak (ih _ _ h) ⟨rfl, ⟨rfl, ⟨rfl, ⟨rfl, trivial⟩⟩⟩⟩
          refine fp_k0 (Q := WA Z 42 [some (.ref 67), some (.int x1), some (.int x2), some (.int x3), none] [] g) h (fun  h => ?_) (fun J42 hJ42 h => ?_)
          · refine wa_aload_n C (i := 0) dX9_wayOn_42 rfl rfl ?_
            refine wa_getR C (j := 2) lq_67 sh_67 rfl in_X9 (by decide) rfl f_X9_16 dX9_wayOn_43 ?_
            refine wa_iload_n C (i := 3) dX9_wayOn_46 rfl rfl ?_
            refine wa_iald C lq_70 sh_70 dX9_wayOn_47 h (fun v2 h => ?_)
            refine wa_iload_n C (i := 1) dX9_wayOn_48 rfl rfl ?_
            refine fp_k1 (Q := fun z0j67 => WA Z 67 [some (.ref 67), some (.int x1), some (.int x2), some (.int x3), none] [.int z0j67] g) h (fun z0j67 h => ?_) (fun J67 hJ67 h => ?_)
            · refine wa_istore C (i := 4) dX9_wayOn_67 (by rw [hn]; decide) rfl rfl ?_
              refine wa_aload_n C (i := 0) dX9_wayOn_69 rfl rfl ?_
              refine wa_getR C (j := 10) lq_67 sh_67 rfl in_X9 (by decide) rfl f_X9_40 dX9_wayOn_70 ?_
              refine wa_bipush C (v := 12) dX9_wayOn_73 (by decide) ?_
              refine wa_iload_n C (i := 1) dX9_wayOn_75 rfl rfl ?_
              refine wa_imul C dX9_wayOn_76 ?_
              refine wa_iload_n C (i := 2) dX9_wayOn_77 rfl rfl ?_
              refine wa_iadd C dX9_wayOn_78 ?_
              refine wa_iald C lq_78 sh_78 dX9_wayOn_79 h (fun v3 h => ?_)
              refine wa_ldc C (v := 1000000) k_X9_213 dX9_wayOn_80 ?_
              refine wa_icmp_ge C (tgt := 120) dX9_wayOn_82 (by decide) h (fun h => ?_) (fun h => ?_)
              · exact WA.weak (hJ120  h) ⟨rfl, ⟨rfl, ⟨rfl, ⟨rfl, trivial⟩⟩⟩⟩
              · refine wa_aload_n C (i := 0) dX9_wayOn_85 rfl rfl ?_
                refine wa_getR C (j := 4) lq_67 sh_67 rfl in_X9 (by decide) rfl f_X9_22 dX9_wayOn_86 ?_
                refine wa_iload_n C (i := 3) dX9_wayOn_89 rfl rfl ?_
                refine wa_iald C lq_72 sh_72 dX9_wayOn_90 h (fun v4 h => ?_)
                refine wa_aload_n C (i := 0) dX9_wayOn_91 rfl rfl ?_
                refine wa_getR C (j := 10) lq_67 sh_67 rfl in_X9 (by decide) rfl f_X9_40 dX9_wayOn_92 ?_
                refine wa_bipush C (v := 12) dX9_wayOn_95 (by decide) ?_
                refine wa_iload C dX9_wayOn_97 rfl ?_
                refine wa_imul C dX9_wayOn_99 ?_
                refine wa_iload_n C (i := 2) dX9_wayOn_100 rfl rfl ?_
                refine wa_iadd C dX9_wayOn_101 ?_
                refine wa_iald C lq_78 sh_78 dX9_wayOn_102 h (fun v5 h => ?_)
                refine wa_iadd C dX9_wayOn_103 ?_
                refine wa_aload_n C (i := 0) dX9_wayOn_104 rfl rfl ?_
                refine wa_getR C (j := 10) lq_67 sh_67 rfl in_X9 (by decide) rfl f_X9_40 dX9_wayOn_105 ?_
                refine wa_bipush C (v := 12) dX9_wayOn_108 (by decide) ?_
                refine wa_iload_n C (i := 1) dX9_wayOn_110 rfl rfl ?_
                refine wa_imul C dX9_wayOn_111 ?_
                refine wa_iload_n C (i := 2) dX9_wayOn_112 rfl rfl ?_
                refine wa_iadd C dX9_wayOn_113 ?_
                refine wa_iald C lq_78 sh_78 dX9_wayOn_114 h (fun v6 h => ?_)
                refine wa_icmp_ne C (tgt := 120) dX9_wayOn_115 (by decide) h (fun h => ?_) (fun h => ?_)
                · refine wa_iload_n C (i := 3) dX9_wayOn_118 rfl rfl ?_
                  exact wa_iret C hv rfl dX9_wayOn_119 h
                · exact WA.weak (hJ120  h) ⟨rfl, ⟨rfl, ⟨rfl, ⟨rfl, trivial⟩⟩⟩⟩
            refine wa_icmp_ne C (tgt := 61) dX9_wayOn_49 (by decide) h (fun h => ?_) (fun h => ?_)
            · refine wa_aload_n C (i := 0) dX9_wayOn_52 rfl rfl ?_
              refine wa_getR C (j := 3) lq_67 sh_67 rfl in_X9 (by decide) rfl f_X9_19 dX9_wayOn_53 ?_
              refine wa_iload_n C (i := 3) dX9_wayOn_56 rfl rfl ?_
              refine wa_iald C lq_71 sh_71 dX9_wayOn_57 h (fun v8 h => ?_)
              refine wa_goto C (tgt := 67) dX9_wayOn_58 (by decide) ?_
              exact WA.weak (hJ67 _ h) ⟨rfl, ⟨rfl, ⟨rfl, ⟨rfl, trivial⟩⟩⟩⟩
            · refine wa_aload_n C (i := 0) dX9_wayOn_61 rfl rfl ?_
              refine wa_getR C (j := 2) lq_67 sh_67 rfl in_X9 (by decide) rfl f_X9_16 dX9_wayOn_62 ?_
              refine wa_iload_n C (i := 3) dX9_wayOn_65 rfl rfl ?_
              refine wa_iald C lq_70 sh_70 dX9_wayOn_66 h (fun v7 h => ?_)
              exact WA.weak (hJ67 _ h) ⟨rfl, ⟨rfl, ⟨rfl, ⟨rfl, trivial⟩⟩⟩⟩
          refine wa_icmp_eq C (tgt := 42) dX9_wayOn_26 (by decide) h (fun h => ?_) (fun h => ?_)
          · exact WA.weak (hJ42  h) ⟨rfl, ⟨rfl, ⟨rfl, ⟨rfl, trivial⟩⟩⟩⟩
          · refine wa_aload_n C (i := 0) dX9_wayOn_29 rfl rfl ?_
            refine wa_getR C (j := 3) lq_67 sh_67 rfl in_X9 (by decide) rfl f_X9_19 dX9_wayOn_30 ?_
            refine wa_iload_n C (i := 3) dX9_wayOn_33 rfl rfl ?_
            refine wa_iald C lq_71 sh_71 dX9_wayOn_34 h (fun v9 h => ?_)
            refine wa_iload_n C (i := 1) dX9_wayOn_35 rfl rfl ?_
            refine wa_icmp_eq C (tgt := 42) dX9_wayOn_36 (by decide) h (fun h => ?_) (fun h => ?_)
            · exact WA.weak (hJ42  h) ⟨rfl, ⟨rfl, ⟨rfl, ⟨rfl, trivial⟩⟩⟩⟩
            · refine wa_goto C (tgt := 120) dX9_wayOn_39 (by decide) ?_
              exact WA.weak (hJ120  h) ⟨rfl, ⟨rfl, ⟨rfl, ⟨rfl, trivial⟩⟩⟩⟩

set_option maxRecDepth 20000 in
theorem ok_X9_wayOn {l : Launch} {E : fp_E} {x1 : Int32} {x2 : Int32} {g : fp_G} {K : Int32 → fp_G → Prop} (h : w_X9_wayOn x1 x2 g K) : fp_M l E yX9_wayOn cX9_wayOn 5 ((Option.some Jvm.ClassFile.FieldType.int)) false 1 [.ref 67, .int x1, .int x2] g K := by
  unfold w_X9_wayOn at h
  refine fp_enter rfl [some (.ref 67), some (.int x1), some (.int x2), none, none] (Nat.le_of_ble_eq_true rfl) (fun q hq => hq) (fun Z hE hl hv hK hn hd C => ?_)
  subst hE hl hK
  refine wa_iconst C (v := 0) dX9_wayOn_0 (by decide) ?_
  refine wa_istore_n C (i := 3) dX9_wayOn_1 rfl (by rw [hn]; decide) rfl rfl ?_
  obtain ⟨n2, h⟩ := h
  exact WA.weak (ok_X9_wayOn_2 C hv hn hd n2 _ _ h) ⟨rfl, ⟨rfl, ⟨rfl, ⟨rfl, trivial⟩⟩⟩⟩
