set_option maxRecDepth 20000 in
theorem ok_X9_mail {l : Launch} {E : fp_E} {x1 : Int32} {x2 : Int32} {x3 : Int32} {x4 : Int32} {g : fp_G} {K : Int32 → fp_G → Prop} (h : w_X9_mail x1 x2 x3 x4 g K) : fp_M l E yX9_mail cX9_mail 7 ((Option.some Jvm.ClassFile.FieldType.int)) false 2 [.ref 67, .int x1, .int x2, .int x3, .int x4] g K := by
  unfold w_X9_mail at h
  refine fp_enter rfl [some (.ref 67), some (.int x1), some (.int x2), some (.int x3), some (.int x4), none, none] (Nat.le_of_ble_eq_true rfl) (fun q hq => hq) (fun Z hE hl hv hK hn hd C => ?_)
  subst hE hl hK
  refine wa_iload_n C (i := 1) dX9_mail_0 rfl rfl ?_
  refine wa_i2l C dX9_mail_1 ?_
  refine wa_lconst C (v := 0) dX9_mail_2 (by decide) ?_
  refine wa_ldc2 C (v := 2) k_X9_262 dX9_mail_3 ?_
  refine wa_callSi C s_X9_203 t_X9_isIn dX9_mail_6 (ok_X9_isIn h) rfl rfl (Nat.le_of_ble_eq_true rfl) (by rw [hd]; decide) (fun v1 g1 h => ?_)
  refine wa_if_ne C (tgt := 19) dX9_mail_9 (by decide) h (fun h => ?_) (fun h => ?_)
  · refine wa_aload_n C (i := 0) dX9_mail_12 rfl rfl ?_
    refine wa_bipush C (v := (-2)) dX9_mail_13 (by decide) ?_
    refine wa_callVi C lq_67 sh_67 rfl s_X9_192 i_X9_no e_X9_no dX9_mail_15 (ok_X9_no h) rfl rfl (Nat.le_of_ble_eq_true rfl) (by rw [hd]; decide) (fun v7 g14 h => ?_)
    exact wa_iret C hv rfl dX9_mail_18 h
  · refine wa_aload_n C (i := 0) dX9_mail_19 rfl rfl ?_
    refine wa_iload_n C (i := 2) dX9_mail_20 rfl rfl ?_
    refine wa_callVi C lq_67 sh_67 rfl s_X9_196 i_X9_isOffice e_X9_isOffice dX9_mail_21 (ok_X9_isOffice h) rfl rfl (Nat.le_of_ble_eq_true rfl) (by rw [hd]; decide) (fun v2 g2 h => ?_)
    refine fp_j0 (Q := fun g3 => WA Z 35 [some (.ref 67), none, none, none, none, none, none] [] g3) h (fun g3 h => ?_) (fun J35 hJ35 h => ?_)
    · refine wa_aload_n C (i := 0) dX9_mail_35 rfl rfl ?_
      refine wa_iconst C (v := (-1)) dX9_mail_36 (by decide) ?_
      refine wa_callVi C lq_67 sh_67 rfl s_X9_192 i_X9_no e_X9_no dX9_mail_37 (ok_X9_no h) rfl rfl (Nat.le_of_ble_eq_true rfl) (by rw [hd]; decide) (fun v3 g4 h => ?_)
      exact wa_iret C hv rfl dX9_mail_40 h
    refine wa_if_eq C (tgt := 35) dX9_mail_24 (by decide) h (fun h => ?_) (fun h => ?_)
    · exact WA.weak (hJ35 _ h) ⟨rfl, trivial⟩
    · refine wa_aload_n C (i := 0) dX9_mail_27 rfl rfl ?_
      refine wa_iload_n C (i := 3) dX9_mail_28 rfl rfl ?_
      refine wa_callVi C lq_67 sh_67 rfl s_X9_241 i_X9_isMan e_X9_isMan dX9_mail_29 (ok_X9_isMan h) rfl rfl (Nat.le_of_ble_eq_true rfl) (by rw [hd]; decide) (fun v4 g5 h => ?_)
      refine wa_if_ne C (tgt := 41) dX9_mail_32 (by decide) h (fun h => ?_) (fun h => ?_)
      · exact WA.weak (hJ35 _ h) ⟨rfl, trivial⟩
      · refine wa_iload C dX9_mail_41 rfl ?_
        refine wa_iload_n C (i := 1) dX9_mail_43 rfl rfl ?_
        refine wa_iconst C (v := 1) dX9_mail_44 (by decide) ?_
        refine fp_k1 (Q := fun z0j53 => WA Z 53 [some (.ref 67), some (.int x1), some (.int x2), some (.int x3), some (.int x4), none, none] [.int z0j53, .int x4] g5) h (fun z0j53 h => ?_) (fun J53 hJ53 h => ?_)
        · refine fp_k1 (Q := fun z0j104 => WA Z 104 [some (.ref 67), some (.int x1), some (.int x2), some (.int x3), some (.int x4), none, none] [.int z0j104] g5) h (fun z0j104 h => ?_) (fun J104 hJ104 h => ?_)
          · refine wa_istore C (i := 5) dX9_mail_104 (by rw [hn]; decide) rfl rfl ?_
            refine wa_iload C dX9_mail_106 rfl ?_
            refine wa_if_eq C (tgt := 118) dX9_mail_108 (by decide) h (fun h => ?_) (fun h => ?_)
            · refine wa_aload_n C (i := 0) dX9_mail_118 rfl rfl ?_
              refine wa_getI C (j := 42) lq_67 sh_67 rfl in_X9 (by decide) rfl f_X9_259 dX9_mail_119 ?_
              refine wa_istore C (i := 6) dX9_mail_122 (by rw [hn]; decide) rfl rfl ?_
              refine wa_aload_n C (i := 0) dX9_mail_124 rfl rfl ?_
              refine wa_getR C (j := 29) lq_67 sh_67 rfl in_X9 (by decide) rfl f_X9_77 dX9_mail_125 ?_
              refine wa_iload C dX9_mail_128 rfl ?_
              refine wa_iload_n C (i := 1) dX9_mail_130 rfl rfl ?_
              refine wa_iast C lq_90 sh_90 dX9_mail_131 h (fun g6 h => ?_)
              refine wa_aload_n C (i := 0) dX9_mail_132 rfl rfl ?_
              refine wa_getR C (j := 31) lq_67 sh_67 rfl in_X9 (by decide) rfl f_X9_83 dX9_mail_133 ?_
              refine wa_iload C dX9_mail_136 rfl ?_
              refine wa_aload_n C (i := 0) dX9_mail_138 rfl rfl ?_
              refine wa_getI C (j := 15) lq_67 sh_67 rfl in_X9 (by decide) rfl f_X9_207 dX9_mail_139 ?_
              refine wa_iast C lq_92 sh_92 dX9_mail_142 h (fun g7 h => ?_)
              refine wa_aload_n C (i := 0) dX9_mail_143 rfl rfl ?_
              refine wa_getR C (j := 30) lq_67 sh_67 rfl in_X9 (by decide) rfl f_X9_80 dX9_mail_144 ?_
              refine wa_iload C dX9_mail_147 rfl ?_
              refine wa_iload_n C (i := 2) dX9_mail_149 rfl rfl ?_
              refine wa_iast C lq_91 sh_91 dX9_mail_150 h (fun g8 h => ?_)
              refine wa_aload_n C (i := 0) dX9_mail_151 rfl rfl ?_
              refine wa_getR C (j := 32) lq_67 sh_67 rfl in_X9 (by decide) rfl f_X9_86 dX9_mail_152 ?_
              refine wa_iload C dX9_mail_155 rfl ?_
              refine wa_iload_n C (i := 3) dX9_mail_157 rfl rfl ?_
              refine wa_iast C lq_93 sh_93 dX9_mail_158 h (fun g9 h => ?_)
              refine wa_aload_n C (i := 0) dX9_mail_159 rfl rfl ?_
              refine wa_getR C (j := 33) lq_67 sh_67 rfl in_X9 (by decide) rfl f_X9_89 dX9_mail_160 ?_
              refine wa_iload C dX9_mail_163 rfl ?_
              refine wa_iload C dX9_mail_165 rfl ?_
              refine wa_iast C lq_94 sh_94 dX9_mail_167 h (fun g10 h => ?_)
              refine wa_aload_n C (i := 0) dX9_mail_168 rfl rfl ?_
              refine wa_dup C dX9_mail_169 rfl ?_
              refine wa_getI C (j := 42) lq_67 sh_67 rfl in_X9 (by decide) rfl f_X9_259 dX9_mail_170 ?_
              refine wa_iconst C (v := 1) dX9_mail_173 (by decide) ?_
              refine wa_iadd C dX9_mail_174 ?_
              refine wa_putI C (j := 42) lq_67 sh_67 rfl in_X9 (by decide) tyX9 tyX9_ok nmX9 rfl rfl rfl f_X9_259 dX9_mail_175 h (fun g11 h => ?_)
              refine wa_aload_n C (i := 0) dX9_mail_178 rfl rfl ?_
              refine wa_iload C dX9_mail_179 rfl ?_
              refine wa_iload_n C (i := 2) dX9_mail_181 rfl rfl ?_
              refine wa_aload_n C (i := 0) dX9_mail_182 rfl rfl ?_
              refine wa_getI C (j := 15) lq_67 sh_67 rfl in_X9 (by decide) rfl f_X9_207 dX9_mail_183 ?_
              refine wa_callVv C lq_67 sh_67 rfl s_X9_264 i_X9_comes e_X9_comes dX9_mail_186 (ok_X9_comes h) rfl rfl (Nat.le_of_ble_eq_true rfl) (by rw [hd]; decide) (fun g12 h => ?_)
              refine wa_iload C dX9_mail_189 rfl ?_
              exact wa_iret C hv rfl dX9_mail_191 h
            · refine wa_aload_n C (i := 0) dX9_mail_111 rfl rfl ?_
              refine wa_iload C dX9_mail_112 rfl ?_
              refine wa_callVi C lq_67 sh_67 rfl s_X9_192 i_X9_no e_X9_no dX9_mail_114 (ok_X9_no h) rfl rfl (Nat.le_of_ble_eq_true rfl) (by rw [hd]; decide) (fun v6 g13 h => ?_)
              exact wa_iret C hv rfl dX9_mail_117 h
          refine wa_icmp_ge C (tgt := 61) dX9_mail_53 (by decide) h (fun h => ?_) (fun h => ?_)
          · refine wa_iload C dX9_mail_61 rfl ?_
            refine wa_iload_n C (i := 1) dX9_mail_63 rfl rfl ?_
            refine fp_k1 (Q := fun z0j86 => WA Z 86 [some (.ref 67), some (.int x1), some (.int x2), some (.int x3), some (.int x4), none, none] [.int z0j86, .int x4] g5) h (fun z0j86 h => ?_) (fun J86 hJ86 h => ?_)
            · refine fp_k0 (Q := WA Z 98 [some (.ref 67), some (.int x1), some (.int x2), some (.int x3), some (.int x4), none, none] [] g5) h (fun  h => ?_) (fun J98 hJ98 h => ?_)
              · refine wa_bipush C (v := (-6)) dX9_mail_98 (by decide) ?_
                refine wa_goto C (tgt := 104) dX9_mail_100 (by decide) ?_
                exact WA.weak (hJ104 _ h) ⟨rfl, ⟨rfl, ⟨rfl, ⟨rfl, ⟨rfl, trivial⟩⟩⟩⟩⟩
              refine wa_icmp_gt C (tgt := 98) dX9_mail_86 (by decide) h (fun h => ?_) (fun h => ?_)
              · exact WA.weak (hJ98  h) ⟨rfl, ⟨rfl, ⟨rfl, ⟨rfl, ⟨rfl, trivial⟩⟩⟩⟩⟩
              · refine wa_aload_n C (i := 0) dX9_mail_89 rfl rfl ?_
                refine wa_getI C (j := 42) lq_67 sh_67 rfl in_X9 (by decide) rfl f_X9_259 dX9_mail_90 ?_
                refine wa_bipush C (v := 60) dX9_mail_93 (by decide) ?_
                refine wa_icmp_ne C (tgt := 103) dX9_mail_95 (by decide) h (fun h => ?_) (fun h => ?_)
                · exact WA.weak (hJ98  h) ⟨rfl, ⟨rfl, ⟨rfl, ⟨rfl, ⟨rfl, trivial⟩⟩⟩⟩⟩
                · refine wa_iconst C (v := 0) dX9_mail_103 (by decide) ?_
                  exact WA.weak (hJ104 _ h) ⟨rfl, ⟨rfl, ⟨rfl, ⟨rfl, ⟨rfl, trivial⟩⟩⟩⟩⟩
            refine wa_if_ne C (tgt := 72) dX9_mail_64 (by decide) h (fun h => ?_) (fun h => ?_)
            · refine wa_bipush C (v := 99) dX9_mail_67 (by decide) ?_
              refine wa_goto C (tgt := 86) dX9_mail_69 (by decide) ?_
              exact WA.weak (hJ86 _ h) ⟨rfl, ⟨rfl, ⟨rfl, ⟨rfl, ⟨rfl, trivial⟩⟩⟩⟩⟩
            · refine wa_iload_n C (i := 1) dX9_mail_72 rfl rfl ?_
              refine wa_iconst C (v := 1) dX9_mail_73 (by decide) ?_
              refine wa_icmp_ne C (tgt := 83) dX9_mail_74 (by decide) h (fun h => ?_) (fun h => ?_)
              · refine wa_sipush C (v := 999) dX9_mail_77 (by decide) ?_
                refine wa_goto C (tgt := 86) dX9_mail_80 (by decide) ?_
                exact WA.weak (hJ86 _ h) ⟨rfl, ⟨rfl, ⟨rfl, ⟨rfl, ⟨rfl, trivial⟩⟩⟩⟩⟩
              · refine wa_sipush C (v := 9999) dX9_mail_83 (by decide) ?_
                exact WA.weak (hJ86 _ h) ⟨rfl, ⟨rfl, ⟨rfl, ⟨rfl, ⟨rfl, trivial⟩⟩⟩⟩⟩
          · refine wa_bipush C (v := (-4)) dX9_mail_56 (by decide) ?_
            refine wa_goto C (tgt := 104) dX9_mail_58 (by decide) ?_
            exact WA.weak (hJ104 _ h) ⟨rfl, ⟨rfl, ⟨rfl, ⟨rfl, ⟨rfl, trivial⟩⟩⟩⟩⟩
        refine wa_icmp_ne C (tgt := 52) dX9_mail_45 (by decide) h (fun h => ?_) (fun h => ?_)
        · refine wa_iconst C (v := 1) dX9_mail_48 (by decide) ?_
          refine wa_goto C (tgt := 53) dX9_mail_49 (by decide) ?_
          exact WA.weak (hJ53 _ h) ⟨rfl, ⟨rfl, ⟨rfl, ⟨rfl, ⟨rfl, trivial⟩⟩⟩⟩⟩
        · refine wa_iconst C (v := 0) dX9_mail_52 (by decide) ?_
          exact WA.weak (hJ53 _ h) ⟨rfl, ⟨rfl, ⟨rfl, ⟨rfl, ⟨rfl, trivial⟩⟩⟩⟩⟩

set_option maxRecDepth 20000 in
theorem ok_X9_feed_46 {Z : fp_Z} (C : fp_C Z cX9_feed RX9 ((Option.some Jvm.ClassFile.FieldType.int))) (hv : fp_V Z false) (hn : Z.2.2.2.2.1 = 6) (hd : Z.2.2.2.2.2.1 = 2) {x1 : Int32} {x2 : Int64} : ∀ (n : Nat) (x5 : Int32) (g : fp_G), w_X9_feed_46 n x1 x2 x5 g Z.2.2.2.1 → WA Z 46 [some (.ref 67), some (.int x1), some (.long x2), none, none, some (.int x5)] [] g := by
  intro n
  induction n with
  | zero => intro x5 g h; exact h.elim
  | succ n ih =>
    intro x5 g h
    rw [w_X9_feed_46] at h
    refine wa_iload C dX9_feed_46 rfl ?_
    refine wa_iload_n C (i := 1) dX9_feed_48 rfl rfl ?_
    refine wa_icmp_ge C (tgt := 89) dX9_feed_49 (by decide) h (fun h => ?_) (fun h => ?_)
    · refine wa_aload_n C (i := 0) dX9_feed_89 rfl rfl ?_
      refine wa_getI C (j := 51) lq_67 sh_67 rfl in_X9 (by decide) rfl f_X9_270 dX9_feed_90 ?_
      exact wa_iret C hv rfl dX9_feed_93 h
    · refine wa_aload_n C (i := 0) dX9_feed_52 rfl rfl ?_
      refine wa_getR C (j := 44) lq_67 sh_67 rfl in_X9 (by decide) rfl f_X9_120 dX9_feed_53 ?_
      refine wa_aload_n C (i := 0) dX9_feed_56 rfl rfl ?_
      refine wa_getI C (j := 51) lq_67 sh_67 rfl in_X9 (by decide) rfl f_X9_270 dX9_feed_57 ?_
      refine wa_lload_n C (i := 2) dX9_feed_60 rfl rfl ?_
      refine wa_bipush C (v := 8) dX9_feed_61 (by decide) ?_
      refine wa_iload C dX9_feed_63 rfl ?_
      refine wa_imul C dX9_feed_65 ?_
      refine wa_lshr C dX9_feed_66 ?_
      refine wa_ldc2 C (v := 255) k_X9_273 dX9_feed_67 ?_
      refine wa_land C dX9_feed_70 ?_
      refine wa_l2i C dX9_feed_71 ?_
      refine wa_iast C lq_103 sh_103 dX9_feed_72 h (fun g2 h => ?_)
      refine wa_aload_n C (i := 0) dX9_feed_73 rfl rfl ?_
      refine wa_dup C dX9_feed_74 rfl ?_
      refine wa_getI C (j := 51) lq_67 sh_67 rfl in_X9 (by decide) rfl f_X9_270 dX9_feed_75 ?_
      refine wa_iconst C (v := 1) dX9_feed_78 (by decide) ?_
      refine wa_iadd C dX9_feed_79 ?_
      refine wa_putI C (j := 51) lq_67 sh_67 rfl in_X9 (by decide) tyX9 tyX9_ok nmX9 rfl rfl rfl f_X9_270 dX9_feed_80 h (fun g3 h => ?_)
      refine wa_iinc C (i := 5) dX9_feed_83 rfl (fp_inc1 _) (by rw [hn]; decide) rfl rfl ?_
      refine wa_goto C (tgt := 46) dX9_feed_86 (by decide) ?_
      exact WA.weak (ih _ _ h) ⟨rfl, ⟨rfl, ⟨rfl, ⟨rfl, trivial⟩⟩⟩⟩

set_option maxRecDepth 20000 in
theorem ok_X9_feed {l : Launch} {E : fp_E} {x1 : Int32} {x2 : Int64} {g : fp_G} {K : Int32 → fp_G → Prop} (h : w_X9_feed x1 x2 g K) : fp_M l E yX9_feed cX9_feed 6 ((Option.some Jvm.ClassFile.FieldType.int)) false 2 [.ref 67, .int x1, .long x2] g K := by
  unfold w_X9_feed at h
  refine fp_enter rfl [some (.ref 67), some (.int x1), some (.long x2), none, none, none] (Nat.le_of_ble_eq_true rfl) (fun q hq => hq) (fun Z hE hl hv hK hn hd C => ?_)
  subst hE hl hK
  refine wa_iload_n C (i := 1) dX9_feed_0 rfl rfl ?_
  refine wa_i2l C dX9_feed_1 ?_
  refine wa_lconst C (v := 1) dX9_feed_2 (by decide) ?_
  refine wa_ldc2 C (v := 8) k_X9_268 dX9_feed_3 ?_
  refine wa_callSi C s_X9_188 t_X9_out dX9_feed_6 (ok_X9_out h) rfl rfl (Nat.le_of_ble_eq_true rfl) (by rw [hd]; decide) (fun v1 g1 h => ?_)
  refine wa_istore C (i := 4) dX9_feed_9 (by rw [hn]; decide) rfl rfl ?_
  refine wa_iload C dX9_feed_11 rfl ?_
  refine fp_k1 (Q := fun x4j31 => WA Z 31 [some (.ref 67), some (.int x1), some (.long x2), none, some (.int x4j31), none] [] g1) h (fun x4j31 h => ?_) (fun J31 hJ31 h => ?_)
  · refine wa_iload C dX9_feed_31 rfl ?_
    refine wa_if_eq C (tgt := 43) dX9_feed_33 (by decide) h (fun h => ?_) (fun h => ?_)
    · refine wa_iconst C (v := 0) dX9_feed_43 (by decide) ?_
      refine wa_istore C (i := 5) dX9_feed_44 (by rw [hn]; decide) rfl rfl ?_
      obtain ⟨n46, h⟩ := h
      exact WA.weak (ok_X9_feed_46 C hv hn hd n46 _ _ h) ⟨rfl, ⟨rfl, ⟨rfl, ⟨rfl, trivial⟩⟩⟩⟩
    · refine wa_aload_n C (i := 0) dX9_feed_36 rfl rfl ?_
      refine wa_iload C dX9_feed_37 rfl ?_
      refine wa_callVi C lq_67 sh_67 rfl s_X9_192 i_X9_no e_X9_no dX9_feed_39 (ok_X9_no h) rfl rfl (Nat.le_of_ble_eq_true rfl) (by rw [hd]; decide) (fun v2 g4 h => ?_)
      exact wa_iret C hv rfl dX9_feed_42 h
  refine wa_if_ne C (tgt := 31) dX9_feed_13 (by decide) h (fun h => ?_) (fun h => ?_)
  · refine wa_aload_n C (i := 0) dX9_feed_16 rfl rfl ?_
    refine wa_getI C (j := 51) lq_67 sh_67 rfl in_X9 (by decide) rfl f_X9_270 dX9_feed_17 ?_
    refine wa_iload_n C (i := 1) dX9_feed_20 rfl rfl ?_
    refine wa_iadd C dX9_feed_21 ?_
    refine wa_bipush C (v := 60) dX9_feed_22 (by decide) ?_
    refine wa_icmp_le C (tgt := 31) dX9_feed_24 (by decide) h (fun h => ?_) (fun h => ?_)
    · exact WA.weak (hJ31 _ h) ⟨rfl, ⟨rfl, ⟨rfl, ⟨rfl, trivial⟩⟩⟩⟩
    · refine wa_bipush C (v := (-6)) dX9_feed_27 (by decide) ?_
      refine wa_istore C (i := 4) dX9_feed_29 (by rw [hn]; decide) rfl rfl ?_
      exact WA.weak (hJ31 _ h) ⟨rfl, ⟨rfl, ⟨rfl, ⟨rfl, trivial⟩⟩⟩⟩
  · exact WA.weak (hJ31 _ h) ⟨rfl, ⟨rfl, ⟨rfl, ⟨rfl, trivial⟩⟩⟩⟩

set_option maxRecDepth 20000 in
theorem ok_X9_sign {l : Launch} {E : fp_E} {g : fp_G} {K : Int32 → fp_G → Prop} (h : w_X9_sign  g K) : fp_M l E yX9_sign cX9_sign 1 ((Option.some Jvm.ClassFile.FieldType.int)) false 1 [.ref 67] g K := by
  unfold w_X9_sign at h
  refine fp_enter rfl [some (.ref 67)] (Nat.le_of_ble_eq_true rfl) (fun q hq => hq) (fun Z hE hl hv hK hn hd C => ?_)
  subst hE hl hK
  refine wa_aload_n C (i := 0) dX9_sign_0 rfl rfl ?_
  refine wa_getI C (j := 53) lq_67 sh_67 rfl in_X9 (by decide) rfl f_X9_275 dX9_sign_1 ?_
  refine wa_aload_n C (i := 0) dX9_sign_4 rfl rfl ?_
  refine wa_getI C (j := 51) lq_67 sh_67 rfl in_X9 (by decide) rfl f_X9_270 dX9_sign_5 ?_
  refine wa_icmp_ge C (tgt := 23) dX9_sign_8 (by decide) h (fun h => ?_) (fun h => ?_)
  · refine wa_iconst C (v := (-1)) dX9_sign_23 (by decide) ?_
    exact wa_iret C hv rfl dX9_sign_24 h
  · refine wa_aload_n C (i := 0) dX9_sign_11 rfl rfl ?_
    refine wa_getR C (j := 44) lq_67 sh_67 rfl in_X9 (by decide) rfl f_X9_120 dX9_sign_12 ?_
    refine wa_aload_n C (i := 0) dX9_sign_15 rfl rfl ?_
    refine wa_getI C (j := 53) lq_67 sh_67 rfl in_X9 (by decide) rfl f_X9_275 dX9_sign_16 ?_
    refine wa_iald C lq_103 sh_103 dX9_sign_19 h (fun v1 h => ?_)
    refine wa_goto C (tgt := 24) dX9_sign_20 (by decide) ?_
    exact wa_iret C hv rfl dX9_sign_24 h

set_option maxRecDepth 20000 in
theorem ok_X9_isDigit {l : Launch} {E : fp_E} {x0 : Int32} {g : fp_G} {K : Int32 → fp_G → Prop} (h : w_X9_isDigit x0 g K) : fp_M l E yX9_isDigit cX9_isDigit 1 ((Option.some Jvm.ClassFile.FieldType.boolean)) false 1 [.int x0] g K := by
  unfold w_X9_isDigit at h
  refine fp_enter rfl [some (.int x0)] (Nat.le_of_ble_eq_true rfl) (fun q hq => hq) (fun Z hE hl hv hK hn hd C => ?_)
  subst hE hl hK
  refine wa_iload_n C (i := 0) dX9_isDigit_0 rfl rfl ?_
  refine wa_bipush C (v := 48) dX9_isDigit_1 (by decide) ?_
  refine fp_k0 (Q := WA Z 16 [none] [] g) h (fun  h => ?_) (fun J16 hJ16 h => ?_)
  · refine wa_iconst C (v := 0) dX9_isDigit_16 (by decide) ?_
    exact wa_zret C hv rfl rfl dX9_isDigit_17 h
  refine wa_icmp_lt C (tgt := 16) dX9_isDigit_3 (by decide) h (fun h => ?_) (fun h => ?_)
  · exact WA.weak (hJ16  h) trivial
  · refine wa_iload_n C (i := 0) dX9_isDigit_6 rfl rfl ?_
    refine wa_bipush C (v := 57) dX9_isDigit_7 (by decide) ?_
    refine wa_icmp_gt C (tgt := 16) dX9_isDigit_9 (by decide) h (fun h => ?_) (fun h => ?_)
    · exact WA.weak (hJ16  h) trivial
    · refine wa_iconst C (v := 1) dX9_isDigit_12 (by decide) ?_
      refine wa_goto C (tgt := 17) dX9_isDigit_13 (by decide) ?_
      exact wa_zret C hv rfl rfl dX9_isDigit_17 h

set_option maxRecDepth 20000 in
theorem ok_X9_isFact {l : Launch} {E : fp_E} {x0 : Int32} {g : fp_G} {K : Int32 → fp_G → Prop} (h : w_X9_isFact x0 g K) : fp_M l E yX9_isFact cX9_isFact 1 ((Option.some Jvm.ClassFile.FieldType.boolean)) false 1 [.int x0] g K := by
  unfold w_X9_isFact at h
  refine fp_enter rfl [some (.int x0)] (Nat.le_of_ble_eq_true rfl) (fun q hq => hq) (fun Z hE hl hv hK hn hd C => ?_)
  subst hE hl hK
  refine wa_iload_n C (i := 0) dX9_isFact_0 rfl rfl ?_
  refine wa_bipush C (v := 107) dX9_isFact_1 (by decide) ?_
  refine fp_k0 (Q := WA Z 54 [none] [] g) h (fun  h => ?_) (fun J54 hJ54 h => ?_)
  · refine wa_iconst C (v := 1) dX9_isFact_54 (by decide) ?_
    refine wa_goto C (tgt := 59) dX9_isFact_55 (by decide) ?_
    exact wa_zret C hv rfl rfl dX9_isFact_59 h
  refine wa_icmp_eq C (tgt := 54) dX9_isFact_3 (by decide) h (fun h => ?_) (fun h => ?_)
  · exact WA.weak (hJ54  h) trivial
  · refine wa_iload_n C (i := 0) dX9_isFact_6 rfl rfl ?_
    refine wa_bipush C (v := 119) dX9_isFact_7 (by decide) ?_
    refine wa_icmp_eq C (tgt := 54) dX9_isFact_9 (by decide) h (fun h => ?_) (fun h => ?_)
    · exact WA.weak (hJ54  h) trivial
    · refine wa_iload_n C (i := 0) dX9_isFact_12 rfl rfl ?_
      refine wa_bipush C (v := 97) dX9_isFact_13 (by decide) ?_
      refine wa_icmp_eq C (tgt := 54) dX9_isFact_15 (by decide) h (fun h => ?_) (fun h => ?_)
      · exact WA.weak (hJ54  h) trivial
      · refine wa_iload_n C (i := 0) dX9_isFact_18 rfl rfl ?_
        refine wa_bipush C (v := 104) dX9_isFact_19 (by decide) ?_
        refine wa_icmp_eq C (tgt := 54) dX9_isFact_21 (by decide) h (fun h => ?_) (fun h => ?_)
        · exact WA.weak (hJ54  h) trivial
        · refine wa_iload_n C (i := 0) dX9_isFact_24 rfl rfl ?_
          refine wa_bipush C (v := 115) dX9_isFact_25 (by decide) ?_
          refine wa_icmp_eq C (tgt := 54) dX9_isFact_27 (by decide) h (fun h => ?_) (fun h => ?_)
          · exact WA.weak (hJ54  h) trivial
          · refine wa_iload_n C (i := 0) dX9_isFact_30 rfl rfl ?_
            refine wa_bipush C (v := 117) dX9_isFact_31 (by decide) ?_
            refine wa_icmp_eq C (tgt := 54) dX9_isFact_33 (by decide) h (fun h => ?_) (fun h => ?_)
            · exact WA.weak (hJ54  h) trivial
            · refine wa_iload_n C (i := 0) dX9_isFact_36 rfl rfl ?_
              refine wa_bipush C (v := 111) dX9_isFact_37 (by decide) ?_
              refine wa_icmp_eq C (tgt := 54) dX9_isFact_39 (by decide) h (fun h => ?_) (fun h => ?_)
              · exact WA.weak (hJ54  h) trivial
              · refine wa_iload_n C (i := 0) dX9_isFact_42 rfl rfl ?_
                refine wa_bipush C (v := 98) dX9_isFact_43 (by decide) ?_
                refine wa_icmp_eq C (tgt := 54) dX9_isFact_45 (by decide) h (fun h => ?_) (fun h => ?_)
                · exact WA.weak (hJ54  h) trivial
                · refine wa_iload_n C (i := 0) dX9_isFact_48 rfl rfl ?_
                  refine wa_bipush C (v := 99) dX9_isFact_49 (by decide) ?_
                  refine wa_icmp_ne C (tgt := 58) dX9_isFact_51 (by decide) h (fun h => ?_) (fun h => ?_)
                  · exact WA.weak (hJ54  h) trivial
                  · refine wa_iconst C (v := 0) dX9_isFact_58 (by decide) ?_
                    exact wa_zret C hv rfl rfl dX9_isFact_59 h

set_option maxRecDepth 20000 in
theorem ok_X9_unit_36 {Z : fp_Z} (C : fp_C Z cX9_unit RX9 ((Option.some Jvm.ClassFile.FieldType.boolean))) (hv : fp_V Z false) (hn : Z.2.2.2.2.1 = 2) (hd : Z.2.2.2.2.2.1 = 2) : ∀ (n : Nat) (x1 : Int32) (g : fp_G), w_X9_unit_36 n x1 g Z.2.2.2.1 → WA Z 36 [some (.ref 67), some (.int x1)] [] g := by
  intro n
  induction n with
  | zero => intro x1 g h; exact h.elim
  | succ n ih =>
    intro x1 g h
    rw [w_X9_unit_36] at h
    refine wa_iload_n C (i := 1) dX9_unit_36 rfl rfl ?_
    refine wa_iconst C (v := 4) dX9_unit_37 (by decide) ?_
    refine wa_icmp_ge C (tgt := 67) dX9_unit_38 (by decide) h (fun h => ?_) (fun h => ?_)
    · refine wa_iconst C (v := 1) dX9_unit_67 (by decide) ?_
      exact wa_zret C hv rfl rfl dX9_unit_68 h
    · refine wa_aload_n C (i := 0) dX9_unit_41 rfl rfl ?_
      refine wa_callVi C lq_67 sh_67 rfl s_X9_278 i_X9_sign e_X9_sign dX9_unit_42 (ok_X9_sign h) rfl rfl (Nat.le_of_ble_eq_true rfl) (by rw [hd]; decide) (fun v5 g5 h => ?_)
      refine wa_callSi C s_X9_285 t_X9_isDigit dX9_unit_45 (ok_X9_isDigit h) rfl rfl (Nat.le_of_ble_eq_true rfl) (by rw [hd]; decide) (fun v6 g6 h => ?_)
      refine wa_if_eq C (tgt := 67) dX9_unit_48 (by decide) h (fun h => ?_) (fun h => ?_)
      · refine wa_iconst C (v := 1) dX9_unit_67 (by decide) ?_
        exact wa_zret C hv rfl rfl dX9_unit_68 h
      · refine wa_aload_n C (i := 0) dX9_unit_51 rfl rfl ?_
        refine wa_dup C dX9_unit_52 rfl ?_
        refine wa_getI C (j := 53) lq_67 sh_67 rfl in_X9 (by decide) rfl f_X9_275 dX9_unit_53 ?_
        refine wa_iconst C (v := 1) dX9_unit_56 (by decide) ?_
        refine wa_iadd C dX9_unit_57 ?_
        refine wa_putI C (j := 53) lq_67 sh_67 rfl in_X9 (by decide) tyX9 tyX9_ok nmX9 rfl rfl rfl f_X9_275 dX9_unit_58 h (fun g7 h => ?_)
        refine wa_iinc C (i := 1) dX9_unit_61 rfl (fp_inc1 _) (by rw [hn]; decide) rfl rfl ?_
        refine wa_goto C (tgt := 36) dX9_unit_64 (by decide) ?_
        exact WA.weak (ih _ _ h) ⟨rfl, ⟨rfl, trivial⟩⟩

set_option maxRecDepth 20000 in
theorem ok_X9_unit {l : Launch} {E : fp_E} {g : fp_G} {K : Int32 → fp_G → Prop} (h : w_X9_unit  g K) : fp_M l E yX9_unit cX9_unit 2 ((Option.some Jvm.ClassFile.FieldType.boolean)) false 2 [.ref 67] g K := by
  unfold w_X9_unit at h
  refine fp_enter rfl [some (.ref 67), none] (Nat.le_of_ble_eq_true rfl) (fun q hq => hq) (fun Z hE hl hv hK hn hd C => ?_)
  subst hE hl hK
  refine wa_aload_n C (i := 0) dX9_unit_0 rfl rfl ?_
  refine wa_callVi C lq_67 sh_67 rfl s_X9_278 i_X9_sign e_X9_sign dX9_unit_1 (ok_X9_sign h) rfl rfl (Nat.le_of_ble_eq_true rfl) (by rw [hd]; decide) (fun v1 g1 h => ?_)
  refine wa_callSi C s_X9_282 t_X9_isFact dX9_unit_4 (ok_X9_isFact h) rfl rfl (Nat.le_of_ble_eq_true rfl) (by rw [hd]; decide) (fun v2 g2 h => ?_)
  refine wa_if_eq C (tgt := 22) dX9_unit_7 (by decide) h (fun h => ?_) (fun h => ?_)
  · refine wa_aload_n C (i := 0) dX9_unit_22 rfl rfl ?_
    refine wa_callVi C lq_67 sh_67 rfl s_X9_278 i_X9_sign e_X9_sign dX9_unit_23 (ok_X9_sign h) rfl rfl (Nat.le_of_ble_eq_true rfl) (by rw [hd]; decide) (fun v3 g3 h => ?_)
    refine wa_callSi C s_X9_285 t_X9_isDigit dX9_unit_26 (ok_X9_isDigit h) rfl rfl (Nat.le_of_ble_eq_true rfl) (by rw [hd]; decide) (fun v4 g4 h => ?_)
    refine wa_if_ne C (tgt := 34) dX9_unit_29 (by decide) h (fun h => ?_) (fun h => ?_)
    · refine wa_iconst C (v := 0) dX9_unit_32 (by decide) ?_
      exact wa_zret C hv rfl rfl dX9_unit_33 h
    · refine wa_iconst C (v := 0) dX9_unit_34 (by decide) ?_
      refine wa_istore_n C (i := 1) dX9_unit_35 rfl (by rw [hn]; decide) rfl rfl ?_
      obtain ⟨n36, h⟩ := h
      exact WA.weak (ok_X9_unit_36 C hv hn hd n36 _ _ h) ⟨rfl, ⟨rfl, trivial⟩⟩
  · refine wa_aload_n C (i := 0) dX9_unit_10 rfl rfl ?_
    refine wa_dup C dX9_unit_11 rfl ?_
    refine wa_getI C (j := 53) lq_67 sh_67 rfl in_X9 (by decide) rfl f_X9_275 dX9_unit_12 ?_
    refine wa_iconst C (v := 1) dX9_unit_15 (by decide) ?_
    refine wa_iadd C dX9_unit_16 ?_
    refine wa_putI C (j := 53) lq_67 sh_67 rfl in_X9 (by decide) tyX9 tyX9_ok nmX9 rfl rfl rfl f_X9_275 dX9_unit_17 h (fun g8 h => ?_)
    refine wa_iconst C (v := 1) dX9_unit_20 (by decide) ?_
    exact wa_zret C hv rfl rfl dX9_unit_21 h

set_option maxRecDepth 20000 in
theorem ok_X9_closes_0 {Z : fp_Z} (C : fp_C Z cX9_closes RX9 ((Option.none : Option Jvm.ClassFile.FieldType))) (hv : fp_V Z true) (hn : Z.2.2.2.2.1 = 1) (hd : Z.2.2.2.2.2.1 = 1) : ∀ (n : Nat) (g : fp_G), w_X9_closes_0 n g Z.2.2.2.1 → WA Z 0 [some (.ref 67)] [] g := by
  intro n
  induction n with
  | zero => intro g h; exact h.elim
  | succ n ih =>
    intro g h
    rw [w_X9_closes_0] at h
    refine wa_aload_n C (i := 0) dX9_closes_0 rfl rfl ?_
    refine wa_getI C (j := 54) lq_67 sh_67 rfl in_X9 (by decide) rfl f_X9_288 dX9_closes_1 ?_
    refine wa_if_le C (tgt := 35) dX9_closes_4 (by decide) h (fun h => ?_) (fun h => ?_)
    · exact wa_vret C hv rfl dX9_closes_35 h
    · refine wa_aload_n C (i := 0) dX9_closes_7 rfl rfl ?_
      refine wa_getR C (j := 49) lq_67 sh_67 rfl in_X9 (by decide) rfl f_X9_135 dX9_closes_8 ?_
      refine wa_aload_n C (i := 0) dX9_closes_11 rfl rfl ?_
      refine wa_getI C (j := 54) lq_67 sh_67 rfl in_X9 (by decide) rfl f_X9_288 dX9_closes_12 ?_
      refine wa_iconst C (v := 1) dX9_closes_15 (by decide) ?_
      refine wa_isub C dX9_closes_16 ?_
      refine wa_iald C lq_108 sh_108 dX9_closes_17 h (fun v1 h => ?_)
      refine wa_iconst C (v := 1) dX9_closes_18 (by decide) ?_
      refine wa_icmp_ne C (tgt := 35) dX9_closes_19 (by decide) h (fun h => ?_) (fun h => ?_)
      · refine wa_aload_n C (i := 0) dX9_closes_22 rfl rfl ?_
        refine wa_dup C dX9_closes_23 rfl ?_
        refine wa_getI C (j := 54) lq_67 sh_67 rfl in_X9 (by decide) rfl f_X9_288 dX9_closes_24 ?_
        refine wa_iconst C (v := 1) dX9_closes_27 (by decide) ?_
        refine wa_isub C dX9_closes_28 ?_
        refine wa_putI C (j := 54) lq_67 sh_67 rfl in_X9 (by decide) tyX9 tyX9_ok nmX9 rfl rfl rfl f_X9_288 dX9_closes_29 h (fun g1 h => ?_)
        refine wa_goto C (tgt := 0) dX9_closes_32 (by decide) ?_
        exact WA.weak (ih _ h) ⟨rfl, trivial⟩
      · exact wa_vret C hv rfl dX9_closes_35 h

set_option maxRecDepth 20000 in
theorem ok_X9_closes {l : Launch} {E : fp_E} {g : fp_G} {K : Int32 → fp_G → Prop} (h : w_X9_closes  g K) : fp_M l E yX9_closes cX9_closes 1 ((Option.none : Option Jvm.ClassFile.FieldType)) true 1 [.ref 67] g K := by
  unfold w_X9_closes at h
  refine fp_enter rfl [some (.ref 67)] (Nat.le_of_ble_eq_true rfl) (fun q hq => hq) (fun Z hE hl hv hK hn hd C => ?_)
  subst hE hl hK
  obtain ⟨n0, h⟩ := h
  exact WA.weak (ok_X9_closes_0 C hv hn hd n0 _ h) ⟨rfl, trivial⟩

set_option maxRecDepth 20000 in
theorem ok_X9_parses_145 {Z : fp_Z} (C : fp_C Z cX9_parses RX9 ((Option.some Jvm.ClassFile.FieldType.boolean))) (hv : fp_V Z false) (hn : Z.2.2.2.2.1 = 1) (hd : Z.2.2.2.2.2.1 = 3) {E188 : fp_G → Prop} (hE188 : ∀ g, E188 g → WA Z 188 [some (.ref 67)] [] g) : ∀ (n : Nat) (g : fp_G), w_X9_parses_145 n g Z.2.2.2.1 E188 → WA Z 145 [some (.ref 67)] [] g := by
  intro n
  induction n with
  | zero => intro g h; exact h.elim
  | succ n ih =>
    intro g h
    rw [w_X9_parses_145] at h
    refine wa_aload_n C (i := 0) dX9_parses_145 rfl rfl ?_
    refine wa_callVi C lq_67 sh_67 rfl s_X9_278 i_X9_sign e_X9_sign dX9_parses_146 (ok_X9_sign h) rfl rfl (Nat.le_of_ble_eq_true rfl) (by rw [hd]; decide) (fun v8 g16 h => ?_)
    refine wa_bipush C (v := 41) dX9_parses_149 (by decide) ?_
    refine wa_icmp_ne C (tgt := 188) dX9_parses_151 (by decide) h (fun h => ?_) (fun h => ?_)
    · refine wa_aload_n C (i := 0) dX9_parses_154 rfl rfl ?_
      refine wa_getI C (j := 54) lq_67 sh_67 rfl in_X9 (by decide) rfl f_X9_288 dX9_parses_155 ?_
      refine wa_if_le C (tgt := 188) dX9_parses_158 (by decide) h (fun h => ?_) (fun h => ?_)
      · exact WA.weak (hE188 _ h) ⟨rfl, trivial⟩
      · refine wa_aload_n C (i := 0) dX9_parses_161 rfl rfl ?_
        refine wa_dup C dX9_parses_162 rfl ?_
        refine wa_getI C (j := 53) lq_67 sh_67 rfl in_X9 (by decide) rfl f_X9_275 dX9_parses_163 ?_
        refine wa_iconst C (v := 1) dX9_parses_166 (by decide) ?_
        refine wa_iadd C dX9_parses_167 ?_
        refine wa_putI C (j := 53) lq_67 sh_67 rfl in_X9 (by decide) tyX9 tyX9_ok nmX9 rfl rfl rfl f_X9_275 dX9_parses_168 h (fun g17 h => ?_)
        refine wa_aload_n C (i := 0) dX9_parses_171 rfl rfl ?_
        refine wa_dup C dX9_parses_172 rfl ?_
        refine wa_getI C (j := 54) lq_67 sh_67 rfl in_X9 (by decide) rfl f_X9_288 dX9_parses_173 ?_
        refine wa_iconst C (v := 1) dX9_parses_176 (by decide) ?_
        refine wa_isub C dX9_parses_177 ?_
        refine wa_putI C (j := 54) lq_67 sh_67 rfl in_X9 (by decide) tyX9 tyX9_ok nmX9 rfl rfl rfl f_X9_288 dX9_parses_178 h (fun g18 h => ?_)
        refine wa_aload_n C (i := 0) dX9_parses_181 rfl rfl ?_
        refine wa_callVv C lq_67 sh_67 rfl s_X9_295 i_X9_closes e_X9_closes dX9_parses_182 (ok_X9_closes h) rfl rfl (Nat.le_of_ble_eq_true rfl) (by rw [hd]; decide) (fun g19 h => ?_)
        refine wa_goto C (tgt := 145) dX9_parses_185 (by decide) ?_
        exact WA.weak (ih _ h) ⟨rfl, trivial⟩
    · exact WA.weak (hE188 _ h) ⟨rfl, trivial⟩

set_option maxRecDepth 20000 in
theorem ok_X9_parses_10 {Z : fp_Z} (C : fp_C Z cX9_parses RX9 ((Option.some Jvm.ClassFile.FieldType.boolean))) (hv : fp_V Z false) (hn : Z.2.2.2.2.1 = 1) (hd : Z.2.2.2.2.2.1 = 3) : ∀ (n : Nat) (g : fp_G), w_X9_parses_10 n g Z.2.2.2.1 → WA Z 10 [some (.ref 67)] [] g := by
  intro n
  induction n with
  | zero => intro g h; exact h.elim
  | succ n ih =>
    intro g h
    rw [w_X9_parses_10] at h
    refine wa_aload_n C (i := 0) dX9_parses_10 rfl rfl ?_
    refine wa_callVi C lq_67 sh_67 rfl s_X9_278 i_X9_sign e_X9_sign dX9_parses_11 (ok_X9_sign h) rfl rfl (Nat.le_of_ble_eq_true rfl) (by rw [hd]; decide) (fun v1 g3 h => ?_)
    refine wa_bipush C (v := 33) dX9_parses_14 (by decide) ?_
    refine fp_j0 (Q := fun g4 => WA Z 28 [some (.ref 67)] [] g4) h (fun g4 h => ?_) (fun J28 hJ28 h => ?_)
    · refine wa_aload_n C (i := 0) dX9_parses_28 rfl rfl ?_
      refine wa_getI C (j := 54) lq_67 sh_67 rfl in_X9 (by decide) rfl f_X9_288 dX9_parses_29 ?_
      refine wa_iconst C (v := 5) dX9_parses_32 (by decide) ?_
      refine wa_icmp_ne C (tgt := 38) dX9_parses_33 (by decide) h (fun h => ?_) (fun h => ?_)
      · refine wa_iconst C (v := 0) dX9_parses_36 (by decide) ?_
        exact wa_zret C hv rfl rfl dX9_parses_37 h
      · refine wa_aload_n C (i := 0) dX9_parses_38 rfl rfl ?_
        refine wa_getR C (j := 49) lq_67 sh_67 rfl in_X9 (by decide) rfl f_X9_135 dX9_parses_39 ?_
        refine wa_aload_n C (i := 0) dX9_parses_42 rfl rfl ?_
        refine wa_getI C (j := 54) lq_67 sh_67 rfl in_X9 (by decide) rfl f_X9_288 dX9_parses_43 ?_
        refine wa_aload_n C (i := 0) dX9_parses_46 rfl rfl ?_
        refine wa_callVi C lq_67 sh_67 rfl s_X9_278 i_X9_sign e_X9_sign dX9_parses_47 (ok_X9_sign h) rfl rfl (Nat.le_of_ble_eq_true rfl) (by rw [hd]; decide) (fun v2 g5 h => ?_)
        refine wa_bipush C (v := 33) dX9_parses_50 (by decide) ?_
        refine fp_k1 (Q := fun z0j60 => WA Z 60 [some (.ref 67)] [.int z0j60, .int (g4 67 54), .ref 108] g5) h (fun z0j60 h => ?_) (fun J60 hJ60 h => ?_)
        · refine wa_iast C lq_108 sh_108 dX9_parses_60 h (fun g6 h => ?_)
          refine wa_aload_n C (i := 0) dX9_parses_61 rfl rfl ?_
          refine wa_dup C dX9_parses_62 rfl ?_
          refine wa_getI C (j := 54) lq_67 sh_67 rfl in_X9 (by decide) rfl f_X9_288 dX9_parses_63 ?_
          refine wa_iconst C (v := 1) dX9_parses_66 (by decide) ?_
          refine wa_iadd C dX9_parses_67 ?_
          refine wa_putI C (j := 54) lq_67 sh_67 rfl in_X9 (by decide) tyX9 tyX9_ok nmX9 rfl rfl rfl f_X9_288 dX9_parses_68 h (fun g7 h => ?_)
          refine wa_aload_n C (i := 0) dX9_parses_71 rfl rfl ?_
          refine wa_dup C dX9_parses_72 rfl ?_
          refine wa_getI C (j := 53) lq_67 sh_67 rfl in_X9 (by decide) rfl f_X9_275 dX9_parses_73 ?_
          refine wa_iconst C (v := 1) dX9_parses_76 (by decide) ?_
          refine wa_iadd C dX9_parses_77 ?_
          refine wa_putI C (j := 53) lq_67 sh_67 rfl in_X9 (by decide) tyX9 tyX9_ok nmX9 rfl rfl rfl f_X9_275 dX9_parses_78 h (fun g8 h => ?_)
          refine wa_goto C (tgt := 10) dX9_parses_81 (by decide) ?_
          exact WA.weak (ih _ h) ⟨rfl, trivial⟩
        refine wa_icmp_ne C (tgt := 59) dX9_parses_52 (by decide) h (fun h => ?_) (fun h => ?_)
        · refine wa_iconst C (v := 1) dX9_parses_55 (by decide) ?_
          refine wa_goto C (tgt := 60) dX9_parses_56 (by decide) ?_
          exact WA.weak (hJ60 _ h) ⟨rfl, trivial⟩
        · refine wa_iconst C (v := 2) dX9_parses_59 (by decide) ?_
          exact WA.weak (hJ60 _ h) ⟨rfl, trivial⟩
    refine wa_icmp_eq C (tgt := 28) dX9_parses_16 (by decide) h (fun h => ?_) (fun h => ?_)
    · exact WA.weak (hJ28 _ h) ⟨rfl, trivial⟩
    · refine wa_aload_n C (i := 0) dX9_parses_19 rfl rfl ?_
      refine wa_callVi C lq_67 sh_67 rfl s_X9_278 i_X9_sign e_X9_sign dX9_parses_20 (ok_X9_sign h) rfl rfl (Nat.le_of_ble_eq_true rfl) (by rw [hd]; decide) (fun v3 g9 h => ?_)
      refine wa_bipush C (v := 40) dX9_parses_23 (by decide) ?_
      refine wa_icmp_ne C (tgt := 84) dX9_parses_25 (by decide) h (fun h => ?_) (fun h => ?_)
      · exact WA.weak (hJ28 _ h) ⟨rfl, trivial⟩
      · refine wa_aload_n C (i := 0) dX9_parses_84 rfl rfl ?_
        refine wa_callVi C lq_67 sh_67 rfl s_X9_291 i_X9_unit e_X9_unit dX9_parses_85 (ok_X9_unit h) rfl rfl (Nat.le_of_ble_eq_true rfl) (by rw [hd]; decide) (fun v4 g10 h => ?_)
        refine wa_if_ne C (tgt := 93) dX9_parses_88 (by decide) h (fun h => ?_) (fun h => ?_)
        · refine wa_iconst C (v := 0) dX9_parses_91 (by decide) ?_
          exact wa_zret C hv rfl rfl dX9_parses_92 h
        · refine wa_aload_n C (i := 0) dX9_parses_93 rfl rfl ?_
          refine wa_callVi C lq_67 sh_67 rfl s_X9_278 i_X9_sign e_X9_sign dX9_parses_94 (ok_X9_sign h) rfl rfl (Nat.le_of_ble_eq_true rfl) (by rw [hd]; decide) (fun v5 g11 h => ?_)
          refine wa_bipush C (v := 60) dX9_parses_97 (by decide) ?_
          refine fp_j0 (Q := fun g12 => WA Z 122 [some (.ref 67)] [] g12) h (fun g12 h => ?_) (fun J122 hJ122 h => ?_)
          · refine wa_aload_n C (i := 0) dX9_parses_122 rfl rfl ?_
            refine wa_dup C dX9_parses_123 rfl ?_
            refine wa_getI C (j := 53) lq_67 sh_67 rfl in_X9 (by decide) rfl f_X9_275 dX9_parses_124 ?_
            refine wa_iconst C (v := 1) dX9_parses_127 (by decide) ?_
            refine wa_iadd C dX9_parses_128 ?_
            refine wa_putI C (j := 53) lq_67 sh_67 rfl in_X9 (by decide) tyX9 tyX9_ok nmX9 rfl rfl rfl f_X9_275 dX9_parses_129 h (fun g13 h => ?_)
            refine wa_aload_n C (i := 0) dX9_parses_132 rfl rfl ?_
            refine wa_callVi C lq_67 sh_67 rfl s_X9_291 i_X9_unit e_X9_unit dX9_parses_133 (ok_X9_unit h) rfl rfl (Nat.le_of_ble_eq_true rfl) (by rw [hd]; decide) (fun v6 g14 h => ?_)
            refine wa_if_ne C (tgt := 141) dX9_parses_136 (by decide) h (fun h => ?_) (fun h => ?_)
            · refine wa_iconst C (v := 0) dX9_parses_139 (by decide) ?_
              exact wa_zret C hv rfl rfl dX9_parses_140 h
            · refine wa_aload_n C (i := 0) dX9_parses_141 rfl rfl ?_
              refine wa_callVv C lq_67 sh_67 rfl s_X9_295 i_X9_closes e_X9_closes dX9_parses_142 (ok_X9_closes h) rfl rfl (Nat.le_of_ble_eq_true rfl) (by rw [hd]; decide) (fun g15 h => ?_)
              obtain ⟨n145, h⟩ := h
              refine WA.weak (ok_X9_parses_145 C hv hn hd (fun g20 h => ?_) n145 _ h) ⟨rfl, trivial⟩
              · refine wa_aload_n C (i := 0) dX9_parses_188 rfl rfl ?_
                refine wa_callVi C lq_67 sh_67 rfl s_X9_278 i_X9_sign e_X9_sign dX9_parses_189 (ok_X9_sign h) rfl rfl (Nat.le_of_ble_eq_true rfl) (by rw [hd]; decide) (fun v10 g21 h => ?_)
                refine wa_iconst C (v := (-1)) dX9_parses_192 (by decide) ?_
                refine fp_k0 (Q := WA Z 205 [some (.ref 67)] [] g21) h (fun  h => ?_) (fun J205 hJ205 h => ?_)
                · refine wa_aload_n C (i := 0) dX9_parses_205 rfl rfl ?_
                  refine wa_callVi C lq_67 sh_67 rfl s_X9_278 i_X9_sign e_X9_sign dX9_parses_206 (ok_X9_sign h) rfl rfl (Nat.le_of_ble_eq_true rfl) (by rw [hd]; decide) (fun v11 g22 h => ?_)
                  refine wa_bipush C (v := 124) dX9_parses_209 (by decide) ?_
                  refine fp_j0 (Q := fun g23 => WA Z 225 [some (.ref 67)] [] g23) h (fun g23 h => ?_) (fun J225 hJ225 h => ?_)
                  · refine wa_aload_n C (i := 0) dX9_parses_225 rfl rfl ?_
                    refine wa_dup C dX9_parses_226 rfl ?_
                    refine wa_getI C (j := 53) lq_67 sh_67 rfl in_X9 (by decide) rfl f_X9_275 dX9_parses_227 ?_
                    refine wa_iconst C (v := 1) dX9_parses_230 (by decide) ?_
                    refine wa_iadd C dX9_parses_231 ?_
                    refine wa_putI C (j := 53) lq_67 sh_67 rfl in_X9 (by decide) tyX9 tyX9_ok nmX9 rfl rfl rfl f_X9_275 dX9_parses_232 h (fun g24 h => ?_)
                    refine wa_goto C (tgt := 10) dX9_parses_235 (by decide) ?_
                    exact WA.weak (ih _ h) ⟨rfl, trivial⟩
                  refine wa_icmp_eq C (tgt := 225) dX9_parses_211 (by decide) h (fun h => ?_) (fun h => ?_)
                  · exact WA.weak (hJ225 _ h) ⟨rfl, trivial⟩
                  · refine wa_aload_n C (i := 0) dX9_parses_214 rfl rfl ?_
                    refine wa_callVi C lq_67 sh_67 rfl s_X9_278 i_X9_sign e_X9_sign dX9_parses_215 (ok_X9_sign h) rfl rfl (Nat.le_of_ble_eq_true rfl) (by rw [hd]; decide) (fun v12 g25 h => ?_)
                    refine wa_bipush C (v := 38) dX9_parses_218 (by decide) ?_
                    refine wa_icmp_eq C (tgt := 225) dX9_parses_220 (by decide) h (fun h => ?_) (fun h => ?_)
                    · exact WA.weak (hJ225 _ h) ⟨rfl, trivial⟩
                    · refine wa_iconst C (v := 0) dX9_parses_223 (by decide) ?_
                      exact wa_zret C hv rfl rfl dX9_parses_224 h
                refine wa_icmp_ne C (tgt := 205) dX9_parses_193 (by decide) h (fun h => ?_) (fun h => ?_)
                · refine wa_aload_n C (i := 0) dX9_parses_196 rfl rfl ?_
                  refine wa_getI C (j := 54) lq_67 sh_67 rfl in_X9 (by decide) rfl f_X9_288 dX9_parses_197 ?_
                  refine wa_if_ne C (tgt := 205) dX9_parses_200 (by decide) h (fun h => ?_) (fun h => ?_)
                  · refine wa_iconst C (v := 1) dX9_parses_203 (by decide) ?_
                    exact wa_zret C hv rfl rfl dX9_parses_204 h
                  · exact WA.weak (hJ205  h) ⟨rfl, trivial⟩
                · exact WA.weak (hJ205  h) ⟨rfl, trivial⟩
          refine wa_icmp_eq C (tgt := 122) dX9_parses_99 (by decide) h (fun h => ?_) (fun h => ?_)
          · exact WA.weak (hJ122 _ h) ⟨rfl, trivial⟩
          · refine wa_aload_n C (i := 0) dX9_parses_102 rfl rfl ?_
            refine wa_callVi C lq_67 sh_67 rfl s_X9_278 i_X9_sign e_X9_sign dX9_parses_103 (ok_X9_sign h) rfl rfl (Nat.le_of_ble_eq_true rfl) (by rw [hd]; decide) (fun v13 g26 h => ?_)
            refine wa_bipush C (v := 61) dX9_parses_106 (by decide) ?_
            refine wa_icmp_eq C (tgt := 122) dX9_parses_108 (by decide) h (fun h => ?_) (fun h => ?_)
            · exact WA.weak (hJ122 _ h) ⟨rfl, trivial⟩
            · refine wa_aload_n C (i := 0) dX9_parses_111 rfl rfl ?_
              refine wa_callVi C lq_67 sh_67 rfl s_X9_278 i_X9_sign e_X9_sign dX9_parses_112 (ok_X9_sign h) rfl rfl (Nat.le_of_ble_eq_true rfl) (by rw [hd]; decide) (fun v14 g27 h => ?_)
              refine wa_bipush C (v := 62) dX9_parses_115 (by decide) ?_
              refine wa_icmp_eq C (tgt := 122) dX9_parses_117 (by decide) h (fun h => ?_) (fun h => ?_)
              · exact WA.weak (hJ122 _ h) ⟨rfl, trivial⟩
              · refine wa_iconst C (v := 0) dX9_parses_120 (by decide) ?_
                exact wa_zret C hv rfl rfl dX9_parses_121 h

set_option maxRecDepth 20000 in
theorem ok_X9_parses {l : Launch} {E : fp_E} {g : fp_G} {K : Int32 → fp_G → Prop} (h : w_X9_parses  g K) : fp_M l E yX9_parses cX9_parses 1 ((Option.some Jvm.ClassFile.FieldType.boolean)) false 3 [.ref 67] g K := by
  unfold w_X9_parses at h
  refine fp_enter rfl [some (.ref 67)] (Nat.le_of_ble_eq_true rfl) (fun q hq => hq) (fun Z hE hl hv hK hn hd C => ?_)
  subst hE hl hK
  refine wa_aload_n C (i := 0) dX9_parses_0 rfl rfl ?_
  refine wa_iconst C (v := 0) dX9_parses_1 (by decide) ?_
  refine wa_putI C (j := 53) lq_67 sh_67 rfl in_X9 (by decide) tyX9 tyX9_ok nmX9 rfl rfl rfl f_X9_275 dX9_parses_2 h (fun g1 h => ?_)
  refine wa_aload_n C (i := 0) dX9_parses_5 rfl rfl ?_
  refine wa_iconst C (v := 0) dX9_parses_6 (by decide) ?_
  refine wa_putI C (j := 54) lq_67 sh_67 rfl in_X9 (by decide) tyX9 tyX9_ok nmX9 rfl rfl rfl f_X9_288 dX9_parses_7 h (fun g2 h => ?_)
  obtain ⟨n10, h⟩ := h
  exact WA.weak (ok_X9_parses_10 C hv hn hd n10 _ h) ⟨rfl, trivial⟩

set_option maxRecDepth 20000 in
theorem ok_X9_order_65 {Z : fp_Z} (C : fp_C Z cX9_order RX9 ((Option.some Jvm.ClassFile.FieldType.int))) (hv : fp_V Z false) (hn : Z.2.2.2.2.1 = 5) (hd : Z.2.2.2.2.2.1 = 4) {x1 : Int32} {x3 : Int32} : ∀ (n : Nat) (x4 : Int32) (g : fp_G), w_X9_order_65 n x1 x3 x4 g Z.2.2.2.1 → WA Z 65 [some (.ref 67), some (.int x1), none, some (.int x3), some (.int x4)] [] g := by
  intro n
  induction n with
  | zero => intro x4 g h; exact h.elim
  | succ n ih =>
    intro x4 g h
    rw [w_X9_order_65] at h
    refine wa_iload C dX9_order_65 rfl ?_
    refine wa_iload_n C (i := 3) dX9_order_67 rfl rfl ?_
    refine wa_icmp_ge C (tgt := 99) dX9_order_68 (by decide) h (fun h => ?_) (fun h => ?_)
    · refine wa_aload_n C (i := 0) dX9_order_99 rfl rfl ?_
      refine wa_getR C (j := 46) lq_67 sh_67 rfl in_X9 (by decide) rfl f_X9_126 dX9_order_100 ?_
      refine wa_aload_n C (i := 0) dX9_order_103 rfl rfl ?_
      refine wa_getI C (j := 52) lq_67 sh_67 rfl in_X9 (by decide) rfl f_X9_298 dX9_order_104 ?_
      refine wa_iload_n C (i := 3) dX9_order_107 rfl rfl ?_
      refine wa_iast C lq_105 sh_105 dX9_order_108 h (fun g4 h => ?_)
      refine wa_aload_n C (i := 0) dX9_order_109 rfl rfl ?_
      refine wa_getR C (j := 47) lq_67 sh_67 rfl in_X9 (by decide) rfl f_X9_129 dX9_order_110 ?_
      refine wa_aload_n C (i := 0) dX9_order_113 rfl rfl ?_
      refine wa_getI C (j := 52) lq_67 sh_67 rfl in_X9 (by decide) rfl f_X9_298 dX9_order_114 ?_
      refine wa_iload_n C (i := 1) dX9_order_117 rfl rfl ?_
      refine wa_iast C lq_106 sh_106 dX9_order_118 h (fun g5 h => ?_)
      refine wa_aload_n C (i := 0) dX9_order_119 rfl rfl ?_
      refine wa_getR C (j := 48) lq_67 sh_67 rfl in_X9 (by decide) rfl f_X9_132 dX9_order_120 ?_
      refine wa_aload_n C (i := 0) dX9_order_123 rfl rfl ?_
      refine wa_getI C (j := 52) lq_67 sh_67 rfl in_X9 (by decide) rfl f_X9_298 dX9_order_124 ?_
      refine wa_aload_n C (i := 0) dX9_order_127 rfl rfl ?_
      refine wa_getI C (j := 15) lq_67 sh_67 rfl in_X9 (by decide) rfl f_X9_207 dX9_order_128 ?_
      refine wa_iast C lq_107 sh_107 dX9_order_131 h (fun g6 h => ?_)
      refine wa_aload_n C (i := 0) dX9_order_132 rfl rfl ?_
      refine wa_dup C dX9_order_133 rfl ?_
      refine wa_getI C (j := 52) lq_67 sh_67 rfl in_X9 (by decide) rfl f_X9_298 dX9_order_134 ?_
      refine wa_iconst C (v := 1) dX9_order_137 (by decide) ?_
      refine wa_iadd C dX9_order_138 ?_
      refine wa_putI C (j := 52) lq_67 sh_67 rfl in_X9 (by decide) tyX9 tyX9_ok nmX9 rfl rfl rfl f_X9_298 dX9_order_139 h (fun g7 h => ?_)
      refine wa_aload_n C (i := 0) dX9_order_142 rfl rfl ?_
      refine wa_getI C (j := 52) lq_67 sh_67 rfl in_X9 (by decide) rfl f_X9_298 dX9_order_143 ?_
      exact wa_iret C hv rfl dX9_order_146 h
    · refine wa_aload_n C (i := 0) dX9_order_71 rfl rfl ?_
      refine wa_getR C (j := 45) lq_67 sh_67 rfl in_X9 (by decide) rfl f_X9_123 dX9_order_72 ?_
      refine wa_bipush C (v := 60) dX9_order_75 (by decide) ?_
      refine wa_aload_n C (i := 0) dX9_order_77 rfl rfl ?_
      refine wa_getI C (j := 52) lq_67 sh_67 rfl in_X9 (by decide) rfl f_X9_298 dX9_order_78 ?_
      refine wa_imul C dX9_order_81 ?_
      refine wa_iload C dX9_order_82 rfl ?_
      refine wa_iadd C dX9_order_84 ?_
      refine wa_aload_n C (i := 0) dX9_order_85 rfl rfl ?_
      refine wa_getR C (j := 44) lq_67 sh_67 rfl in_X9 (by decide) rfl f_X9_120 dX9_order_86 ?_
      refine wa_iload C dX9_order_89 rfl ?_
      refine wa_iald C lq_103 sh_103 dX9_order_91 h (fun v3 h => ?_)
      refine wa_iast C lq_104 sh_104 dX9_order_92 h (fun g8 h => ?_)
      refine wa_iinc C (i := 4) dX9_order_93 rfl (fp_inc1 _) (by rw [hn]; decide) rfl rfl ?_
      refine wa_goto C (tgt := 65) dX9_order_96 (by decide) ?_
      exact WA.weak (ih _ _ h) ⟨rfl, ⟨rfl, ⟨rfl, ⟨rfl, trivial⟩⟩⟩⟩

set_option maxRecDepth 20000 in
theorem ok_X9_order {l : Launch} {E : fp_E} {x1 : Int32} {g : fp_G} {K : Int32 → fp_G → Prop} (h : w_X9_order x1 g K) : fp_M l E yX9_order cX9_order 5 ((Option.some Jvm.ClassFile.FieldType.int)) false 4 [.ref 67, .int x1] g K := by
  unfold w_X9_order at h
  refine fp_enter rfl [some (.ref 67), some (.int x1), none, none, none] (Nat.le_of_ble_eq_true rfl) (fun q hq => hq) (fun Z hE hl hv hK hn hd C => ?_)
  subst hE hl hK
  refine wa_iload_n C (i := 1) dX9_order_0 rfl rfl ?_
  refine wa_i2l C dX9_order_1 ?_
  refine wa_lconst C (v := 0) dX9_order_2 (by decide) ?_
  refine wa_ldc2 C (v := 2) k_X9_262 dX9_order_3 ?_
  refine wa_callSi C s_X9_203 t_X9_isIn dX9_order_6 (ok_X9_isIn h) rfl rfl (Nat.le_of_ble_eq_true rfl) (by rw [hd]; decide) (fun v1 g1 h => ?_)
  refine wa_if_ne C (tgt := 19) dX9_order_9 (by decide) h (fun h => ?_) (fun h => ?_)
  · refine wa_aload_n C (i := 0) dX9_order_12 rfl rfl ?_
    refine wa_bipush C (v := (-2)) dX9_order_13 (by decide) ?_
    refine wa_callVi C lq_67 sh_67 rfl s_X9_192 i_X9_no e_X9_no dX9_order_15 (ok_X9_no h) rfl rfl (Nat.le_of_ble_eq_true rfl) (by rw [hd]; decide) (fun v5 g10 h => ?_)
    exact wa_iret C hv rfl dX9_order_18 h
  · refine wa_aload_n C (i := 0) dX9_order_19 rfl rfl ?_
    refine wa_getI C (j := 52) lq_67 sh_67 rfl in_X9 (by decide) rfl f_X9_298 dX9_order_20 ?_
    refine wa_bipush C (v := 30) dX9_order_23 (by decide) ?_
    refine wa_icmp_ne C (tgt := 35) dX9_order_25 (by decide) h (fun h => ?_) (fun h => ?_)
    · refine wa_aload_n C (i := 0) dX9_order_28 rfl rfl ?_
      refine wa_bipush C (v := (-6)) dX9_order_29 (by decide) ?_
      refine wa_callVi C lq_67 sh_67 rfl s_X9_192 i_X9_no e_X9_no dX9_order_31 (ok_X9_no h) rfl rfl (Nat.le_of_ble_eq_true rfl) (by rw [hd]; decide) (fun v4 g9 h => ?_)
      exact wa_iret C hv rfl dX9_order_34 h
    · refine wa_aload_n C (i := 0) dX9_order_35 rfl rfl ?_
      refine wa_callVi C lq_67 sh_67 rfl s_X9_301 i_X9_parses e_X9_parses dX9_order_36 (ok_X9_parses h) rfl rfl (Nat.le_of_ble_eq_true rfl) (by rw [hd]; decide) (fun v2 g2 h => ?_)
      refine wa_istore_n C (i := 2) dX9_order_39 rfl (by rw [hn]; decide) rfl rfl ?_
      refine wa_aload_n C (i := 0) dX9_order_40 rfl rfl ?_
      refine wa_getI C (j := 51) lq_67 sh_67 rfl in_X9 (by decide) rfl f_X9_270 dX9_order_41 ?_
      refine wa_istore_n C (i := 3) dX9_order_44 rfl (by rw [hn]; decide) rfl rfl ?_
      refine wa_aload_n C (i := 0) dX9_order_45 rfl rfl ?_
      refine wa_iconst C (v := 0) dX9_order_46 (by decide) ?_
      refine wa_putI C (j := 51) lq_67 sh_67 rfl in_X9 (by decide) tyX9 tyX9_ok nmX9 rfl rfl rfl f_X9_270 dX9_order_47 h (fun g3 h => ?_)
      refine wa_iload_n C (i := 2) dX9_order_50 rfl rfl ?_
      refine wa_if_ne C (tgt := 62) dX9_order_51 (by decide) h (fun h => ?_) (fun h => ?_)
      · refine wa_bipush C (v := (-20)) dX9_order_54 (by decide) ?_
        refine wa_aload_n C (i := 0) dX9_order_56 rfl rfl ?_
        refine wa_getI C (j := 53) lq_67 sh_67 rfl in_X9 (by decide) rfl f_X9_275 dX9_order_57 ?_
        refine wa_isub C dX9_order_60 ?_
        exact wa_iret C hv rfl dX9_order_61 h
      · refine wa_iconst C (v := 0) dX9_order_62 (by decide) ?_
        refine wa_istore C (i := 4) dX9_order_63 (by rw [hn]; decide) rfl rfl ?_
        obtain ⟨n65, h⟩ := h
        exact WA.weak (ok_X9_order_65 C hv hn hd n65 _ _ h) ⟨rfl, ⟨rfl, ⟨rfl, ⟨rfl, trivial⟩⟩⟩⟩

set_option maxRecDepth 20000 in
theorem ok_X9_signOf {l : Launch} {E : fp_E} {x1 : Int32} {g : fp_G} {K : Int32 → fp_G → Prop} (h : w_X9_signOf x1 g K) : fp_M l E yX9_signOf cX9_signOf 2 ((Option.some Jvm.ClassFile.FieldType.int)) false 1 [.ref 67, .int x1] g K := by
  unfold w_X9_signOf at h
  refine fp_enter rfl [some (.ref 67), some (.int x1)] (Nat.le_of_ble_eq_true rfl) (fun q hq => hq) (fun Z hE hl hv hK hn hd C => ?_)
  subst hE hl hK
  refine wa_aload_n C (i := 0) dX9_signOf_0 rfl rfl ?_
  refine wa_getI C (j := 57) lq_67 sh_67 rfl in_X9 (by decide) rfl f_X9_304 dX9_signOf_1 ?_
  refine wa_aload_n C (i := 0) dX9_signOf_4 rfl rfl ?_
  refine wa_getR C (j := 46) lq_67 sh_67 rfl in_X9 (by decide) rfl f_X9_126 dX9_signOf_5 ?_
  refine wa_iload_n C (i := 1) dX9_signOf_8 rfl rfl ?_
  refine wa_iald C lq_105 sh_105 dX9_signOf_9 h (fun v1 h => ?_)
  refine wa_icmp_ge C (tgt := 30) dX9_signOf_10 (by decide) h (fun h => ?_) (fun h => ?_)
  · refine wa_iconst C (v := (-1)) dX9_signOf_30 (by decide) ?_
    exact wa_iret C hv rfl dX9_signOf_31 h
  · refine wa_aload_n C (i := 0) dX9_signOf_13 rfl rfl ?_
    refine wa_getR C (j := 45) lq_67 sh_67 rfl in_X9 (by decide) rfl f_X9_123 dX9_signOf_14 ?_
    refine wa_bipush C (v := 60) dX9_signOf_17 (by decide) ?_
    refine wa_iload_n C (i := 1) dX9_signOf_19 rfl rfl ?_
    refine wa_imul C dX9_signOf_20 ?_
    refine wa_aload_n C (i := 0) dX9_signOf_21 rfl rfl ?_
    refine wa_getI C (j := 57) lq_67 sh_67 rfl in_X9 (by decide) rfl f_X9_304 dX9_signOf_22 ?_
    refine wa_iadd C dX9_signOf_25 ?_
    refine wa_iald C lq_104 sh_104 dX9_signOf_26 h (fun v2 h => ?_)
    refine wa_goto C (tgt := 31) dX9_signOf_27 (by decide) ?_
    exact wa_iret C hv rfl dX9_signOf_31 h

set_option maxRecDepth 20000 in
theorem ok_X9_unitOf_45 {Z : fp_Z} (C : fp_C Z cX9_unitOf RX9 ((Option.some Jvm.ClassFile.FieldType.int))) (hv : fp_V Z false) (hn : Z.2.2.2.2.1 = 3) (hd : Z.2.2.2.2.2.1 = 2) {x1 : Int32} : ∀ (n : Nat) (x2 : Int32) (g : fp_G), w_X9_unitOf_45 n x1 x2 g Z.2.2.2.1 → WA Z 45 [some (.ref 67), some (.int x1), some (.int x2)] [] g := by
  intro n
  induction n with
  | zero => intro x2 g h; exact h.elim
  | succ n ih =>
    intro x2 g h
    rw [w_X9_unitOf_45] at h
    refine wa_aload_n C (i := 0) dX9_unitOf_45 rfl rfl ?_
    refine wa_iload_n C (i := 1) dX9_unitOf_46 rfl rfl ?_
    refine wa_callVi C lq_67 sh_67 rfl s_X9_307 i_X9_signOf e_X9_signOf dX9_unitOf_47 (ok_X9_signOf h) rfl rfl (Nat.le_of_ble_eq_true rfl) (by rw [hd]; decide) (fun v3 g3 h => ?_)
    refine wa_callSi C s_X9_285 t_X9_isDigit dX9_unitOf_50 (ok_X9_isDigit h) rfl rfl (Nat.le_of_ble_eq_true rfl) (by rw [hd]; decide) (fun v4 g4 h => ?_)
    refine wa_if_eq C (tgt := 83) dX9_unitOf_53 (by decide) h (fun h => ?_) (fun h => ?_)
    · refine wa_iload_n C (i := 2) dX9_unitOf_83 rfl rfl ?_
      exact wa_iret C hv rfl dX9_unitOf_84 h
    · refine wa_bipush C (v := 10) dX9_unitOf_56 (by decide) ?_
      refine wa_iload_n C (i := 2) dX9_unitOf_58 rfl rfl ?_
      refine wa_imul C dX9_unitOf_59 ?_
      refine wa_aload_n C (i := 0) dX9_unitOf_60 rfl rfl ?_
      refine wa_iload_n C (i := 1) dX9_unitOf_61 rfl rfl ?_
      refine wa_callVi C lq_67 sh_67 rfl s_X9_307 i_X9_signOf e_X9_signOf dX9_unitOf_62 (ok_X9_signOf h) rfl rfl (Nat.le_of_ble_eq_true rfl) (by rw [hd]; decide) (fun v5 g5 h => ?_)
      refine wa_iadd C dX9_unitOf_65 ?_
      refine wa_bipush C (v := 48) dX9_unitOf_66 (by decide) ?_
      refine wa_isub C dX9_unitOf_68 ?_
      refine wa_istore_n C (i := 2) dX9_unitOf_69 rfl (by rw [hn]; decide) rfl rfl ?_
      refine wa_aload_n C (i := 0) dX9_unitOf_70 rfl rfl ?_
      refine wa_dup C dX9_unitOf_71 rfl ?_
      refine wa_getI C (j := 57) lq_67 sh_67 rfl in_X9 (by decide) rfl f_X9_304 dX9_unitOf_72 ?_
      refine wa_iconst C (v := 1) dX9_unitOf_75 (by decide) ?_
      refine wa_iadd C dX9_unitOf_76 ?_
      refine wa_putI C (j := 57) lq_67 sh_67 rfl in_X9 (by decide) tyX9 tyX9_ok nmX9 rfl rfl rfl f_X9_304 dX9_unitOf_77 h (fun g6 h => ?_)
      refine wa_goto C (tgt := 45) dX9_unitOf_80 (by decide) ?_
      exact WA.weak (ih _ _ h) ⟨rfl, ⟨rfl, ⟨rfl, trivial⟩⟩⟩

set_option maxRecDepth 20000 in
theorem ok_X9_unitOf {l : Launch} {E : fp_E} {x1 : Int32} {g : fp_G} {K : Int32 → fp_G → Prop} (h : w_X9_unitOf x1 g K) : fp_M l E yX9_unitOf cX9_unitOf 3 ((Option.some Jvm.ClassFile.FieldType.int)) false 2 [.ref 67, .int x1] g K := by
  unfold w_X9_unitOf at h
  refine fp_enter rfl [some (.ref 67), some (.int x1), none] (Nat.le_of_ble_eq_true rfl) (fun q hq => hq) (fun Z hE hl hv hK hn hd C => ?_)
  subst hE hl hK
  refine wa_aload_n C (i := 0) dX9_unitOf_0 rfl rfl ?_
  refine wa_iload_n C (i := 1) dX9_unitOf_1 rfl rfl ?_
  refine wa_callVi C lq_67 sh_67 rfl s_X9_307 i_X9_signOf e_X9_signOf dX9_unitOf_2 (ok_X9_signOf h) rfl rfl (Nat.le_of_ble_eq_true rfl) (by rw [hd]; decide) (fun v1 g1 h => ?_)
  refine wa_callSi C s_X9_285 t_X9_isDigit dX9_unitOf_5 (ok_X9_isDigit h) rfl rfl (Nat.le_of_ble_eq_true rfl) (by rw [hd]; decide) (fun v2 g2 h => ?_)
  refine wa_if_ne C (tgt := 43) dX9_unitOf_8 (by decide) h (fun h => ?_) (fun h => ?_)
  · refine wa_aload_n C (i := 0) dX9_unitOf_11 rfl rfl ?_
    refine wa_dup C dX9_unitOf_12 rfl ?_
    refine wa_getI C (j := 57) lq_67 sh_67 rfl in_X9 (by decide) rfl f_X9_304 dX9_unitOf_13 ?_
    refine wa_iconst C (v := 1) dX9_unitOf_16 (by decide) ?_
    refine wa_iadd C dX9_unitOf_17 ?_
    refine wa_putI C (j := 57) lq_67 sh_67 rfl in_X9 (by decide) tyX9 tyX9_ok nmX9 rfl rfl rfl f_X9_304 dX9_unitOf_18 h (fun g7 h => ?_)
    refine wa_aload_n C (i := 0) dX9_unitOf_21 rfl rfl ?_
    refine wa_getR C (j := 50) lq_67 sh_67 rfl in_X9 (by decide) rfl f_X9_138 dX9_unitOf_22 ?_
    refine wa_aload_n C (i := 0) dX9_unitOf_25 rfl rfl ?_
    refine wa_getR C (j := 45) lq_67 sh_67 rfl in_X9 (by decide) rfl f_X9_123 dX9_unitOf_26 ?_
    refine wa_bipush C (v := 60) dX9_unitOf_29 (by decide) ?_
    refine wa_iload_n C (i := 1) dX9_unitOf_31 rfl rfl ?_
    refine wa_imul C dX9_unitOf_32 ?_
    refine wa_aload_n C (i := 0) dX9_unitOf_33 rfl rfl ?_
    refine wa_getI C (j := 57) lq_67 sh_67 rfl in_X9 (by decide) rfl f_X9_304 dX9_unitOf_34 ?_
    refine wa_iadd C dX9_unitOf_37 ?_
    refine wa_iconst C (v := 1) dX9_unitOf_38 (by decide) ?_
    refine wa_isub C dX9_unitOf_39 ?_
    refine wa_iald C lq_104 sh_104 dX9_unitOf_40 h (fun v6 h => ?_)
    refine wa_iald C lq_109 sh_109 dX9_unitOf_41 h (fun v7 h => ?_)
    exact wa_iret C hv rfl dX9_unitOf_42 h
  · refine wa_iconst C (v := 0) dX9_unitOf_43 (by decide) ?_
    refine wa_istore_n C (i := 2) dX9_unitOf_44 rfl (by rw [hn]; decide) rfl rfl ?_
    obtain ⟨n45, h⟩ := h
    exact WA.weak (ok_X9_unitOf_45 C hv hn hd n45 _ _ h) ⟨rfl, ⟨rfl, ⟨rfl, trivial⟩⟩⟩
