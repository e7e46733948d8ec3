set_option maxRecDepth 20000 in
theorem ok_X9_ends {l : Launch} {E : fp_E} {x1 : Int32} {x2 : Int32} {x3 : Int32} {g : fp_G} {K : Int32 → fp_G → Prop} (h : w_X9_ends x1 x2 x3 g K) : fp_M l E yX9_ends cX9_ends 4 ((Option.none : Option Jvm.ClassFile.FieldType)) true 1 [.ref 67, .int x1, .int x2, .int x3] g K := by
  unfold w_X9_ends at h
  refine fp_enter rfl [some (.ref 67), some (.int x1), some (.int x2), some (.int x3)] (Nat.le_of_ble_eq_true rfl) (fun q hq => hq) (fun Z hE hl hv hK hn hd C => ?_)
  subst hE hl hK
  refine wa_aload_n C (i := 0) dX9_ends_0 rfl rfl ?_
  refine wa_getR C (j := 34) lq_67 sh_67 rfl in_X9 (by decide) rfl f_X9_92 dX9_ends_1 ?_
  refine wa_iload_n C (i := 1) dX9_ends_4 rfl rfl ?_
  refine wa_iload_n C (i := 2) dX9_ends_5 rfl rfl ?_
  refine wa_iast C lq_95 sh_95 dX9_ends_6 h (fun g1 h => ?_)
  refine wa_aload_n C (i := 0) dX9_ends_7 rfl rfl ?_
  refine wa_getR C (j := 36) lq_67 sh_67 rfl in_X9 (by decide) rfl f_X9_98 dX9_ends_8 ?_
  refine wa_iload_n C (i := 1) dX9_ends_11 rfl rfl ?_
  refine wa_iload_n C (i := 3) dX9_ends_12 rfl rfl ?_
  refine wa_iast C lq_97 sh_97 dX9_ends_13 h (fun g2 h => ?_)
  refine wa_iload_n C (i := 2) dX9_ends_14 rfl rfl ?_
  refine wa_iconst C (v := 2) dX9_ends_15 (by decide) ?_
  refine wa_icmp_ne C (tgt := 53) dX9_ends_16 (by decide) h (fun h => ?_) (fun h => ?_)
  · refine wa_aload_n C (i := 0) dX9_ends_19 rfl rfl ?_
    refine wa_getR C (j := 29) lq_67 sh_67 rfl in_X9 (by decide) rfl f_X9_77 dX9_ends_20 ?_
    refine wa_iload_n C (i := 1) dX9_ends_23 rfl rfl ?_
    refine wa_iald C lq_90 sh_90 dX9_ends_24 h (fun v1 h => ?_)
    refine wa_iconst C (v := 1) dX9_ends_25 (by decide) ?_
    refine wa_icmp_ne C (tgt := 53) dX9_ends_26 (by decide) h (fun h => ?_) (fun h => ?_)
    · refine wa_iload_n C (i := 3) dX9_ends_29 rfl rfl ?_
      refine wa_aload_n C (i := 0) dX9_ends_30 rfl rfl ?_
      refine wa_getR C (j := 31) lq_67 sh_67 rfl in_X9 (by decide) rfl f_X9_83 dX9_ends_31 ?_
      refine wa_iload_n C (i := 1) dX9_ends_34 rfl rfl ?_
      refine wa_iald C lq_92 sh_92 dX9_ends_35 h (fun v2 h => ?_)
      refine wa_isub C dX9_ends_36 ?_
      refine wa_aload_n C (i := 0) dX9_ends_37 rfl rfl ?_
      refine wa_getR C (j := 33) lq_67 sh_67 rfl in_X9 (by decide) rfl f_X9_89 dX9_ends_38 ?_
      refine wa_iload_n C (i := 1) dX9_ends_41 rfl rfl ?_
      refine wa_iald C lq_94 sh_94 dX9_ends_42 h (fun v3 h => ?_)
      refine wa_icmp_le C (tgt := 53) dX9_ends_43 (by decide) h (fun h => ?_) (fun h => ?_)
      · exact wa_vret C hv rfl dX9_ends_53 h
      · refine wa_aload_n C (i := 0) dX9_ends_46 rfl rfl ?_
        refine wa_getR C (j := 41) lq_67 sh_67 rfl in_X9 (by decide) rfl f_X9_113 dX9_ends_47 ?_
        refine wa_iload_n C (i := 1) dX9_ends_50 rfl rfl ?_
        refine wa_iconst C (v := 1) dX9_ends_51 (by decide) ?_
        refine wa_zast C lq_102 sh_102 dX9_ends_52 h (fun g3 h => ?_)
        exact wa_vret C hv rfl dX9_ends_53 h
    · exact wa_vret C hv rfl dX9_ends_53 h
  · exact wa_vret C hv rfl dX9_ends_53 h

set_option maxRecDepth 20000 in
theorem ok_X9_turns {l : Launch} {E : fp_E} {x1 : Int32} {x2 : Int32} {g : fp_G} {K : Int32 → fp_G → Prop} (h : w_X9_turns x1 x2 g K) : fp_M l E yX9_turns cX9_turns 3 ((Option.none : Option Jvm.ClassFile.FieldType)) true 1 [.ref 67, .int x1, .int x2] g K := by
  unfold w_X9_turns at h
  refine fp_enter rfl [some (.ref 67), some (.int x1), some (.int x2)] (Nat.le_of_ble_eq_true rfl) (fun q hq => hq) (fun Z hE hl hv hK hn hd C => ?_)
  subst hE hl hK
  refine wa_aload_n C (i := 0) dX9_turns_0 rfl rfl ?_
  refine wa_getR C (j := 40) lq_67 sh_67 rfl in_X9 (by decide) rfl f_X9_110 dX9_turns_1 ?_
  refine wa_iload_n C (i := 1) dX9_turns_4 rfl rfl ?_
  refine wa_iconst C (v := 1) dX9_turns_5 (by decide) ?_
  refine wa_zast C lq_101 sh_101 dX9_turns_6 h (fun g1 h => ?_)
  refine wa_aload_n C (i := 0) dX9_turns_7 rfl rfl ?_
  refine wa_getR C (j := 37) lq_67 sh_67 rfl in_X9 (by decide) rfl f_X9_101 dX9_turns_8 ?_
  refine wa_iload_n C (i := 1) dX9_turns_11 rfl rfl ?_
  refine wa_iload_n C (i := 2) dX9_turns_12 rfl rfl ?_
  refine wa_iast C lq_98 sh_98 dX9_turns_13 h (fun g2 h => ?_)
  exact wa_vret C hv rfl dX9_turns_14 h

set_option maxRecDepth 20000 in
theorem ok_X9_sees {l : Launch} {E : fp_E} {x1 : Int32} {x2 : Int32} {g : fp_G} {K : Int32 → fp_G → Prop} (h : w_X9_sees x1 x2 g K) : fp_M l E yX9_sees cX9_sees 7 ((Option.none : Option Jvm.ClassFile.FieldType)) true 6 [.ref 67, .int x1, .int x2] g K := by
  unfold w_X9_sees at h
  refine fp_enter rfl [some (.ref 67), some (.int x1), some (.int x2), none, none, none, none] (Nat.le_of_ble_eq_true rfl) (fun q hq => hq) (fun Z hE hl hv hK hn hd C => ?_)
  subst hE hl hK
  refine wa_aload_n C (i := 0) dX9_sees_0 rfl rfl ?_
  refine wa_getR C (j := 35) lq_67 sh_67 rfl in_X9 (by decide) rfl f_X9_95 dX9_sees_1 ?_
  refine wa_iload_n C (i := 1) dX9_sees_4 rfl rfl ?_
  refine wa_iald C lq_96 sh_96 dX9_sees_5 h (fun v1 h => ?_)
  refine wa_istore_n C (i := 3) dX9_sees_6 rfl (by rw [hn]; decide) rfl rfl ?_
  refine wa_aload_n C (i := 0) dX9_sees_7 rfl rfl ?_
  refine wa_iconst C (v := 0) dX9_sees_8 (by decide) ?_
  refine wa_iload_n C (i := 1) dX9_sees_9 rfl rfl ?_
  refine wa_iload_n C (i := 2) dX9_sees_10 rfl rfl ?_
  refine wa_callVi C lq_67 sh_67 rfl s_X9_332 i_X9_holdsFor e_X9_holdsFor dX9_sees_11 (ok_X9_holdsFor h) rfl rfl (Nat.le_of_ble_eq_true rfl) (by rw [hd]; decide) (fun v2 g1 h => ?_)
  refine wa_if_eq C (tgt := 25) dX9_sees_14 (by decide) h (fun h => ?_) (fun h => ?_)
  · refine wa_aload_n C (i := 0) dX9_sees_25 rfl rfl ?_
    refine wa_iconst C (v := 1) dX9_sees_26 (by decide) ?_
    refine wa_iload_n C (i := 1) dX9_sees_27 rfl rfl ?_
    refine wa_iload_n C (i := 2) dX9_sees_28 rfl rfl ?_
    refine wa_callVi C lq_67 sh_67 rfl s_X9_332 i_X9_holdsFor e_X9_holdsFor dX9_sees_29 (ok_X9_holdsFor h) rfl rfl (Nat.le_of_ble_eq_true rfl) (by rw [hd]; decide) (fun v3 g2 h => ?_)
    refine wa_if_eq C (tgt := 36) dX9_sees_32 (by decide) h (fun h => ?_) (fun h => ?_)
    · refine wa_aload_n C (i := 0) dX9_sees_36 rfl rfl ?_
      refine wa_getR C (j := 40) lq_67 sh_67 rfl in_X9 (by decide) rfl f_X9_110 dX9_sees_37 ?_
      refine wa_iload_n C (i := 1) dX9_sees_40 rfl rfl ?_
      refine wa_zald C lq_101 sh_101 dX9_sees_41 h (fun v4 h => ?_)
      refine fp_j0 (Q := fun g3 => WA Z 61 [some (.ref 67), some (.int x1), some (.int x2), some (.int v1), none, none, none] [] g3) h (fun g3 h => ?_) (fun J61 hJ61 h => ?_)
      · refine wa_aload_n C (i := 0) dX9_sees_61 rfl rfl ?_
        refine wa_aload_n C (i := 0) dX9_sees_62 rfl rfl ?_
        refine wa_getR C (j := 32) lq_67 sh_67 rfl in_X9 (by decide) rfl f_X9_86 dX9_sees_63 ?_
        refine wa_iload_n C (i := 1) dX9_sees_66 rfl rfl ?_
        refine wa_iald C lq_93 sh_93 dX9_sees_67 h (fun v5 h => ?_)
        refine wa_iload_n C (i := 2) dX9_sees_68 rfl rfl ?_
        refine wa_iload_n C (i := 3) dX9_sees_69 rfl rfl ?_
        refine wa_callVi C lq_67 sh_67 rfl s_X9_252 i_X9_stateAt e_X9_stateAt dX9_sees_70 (ok_X9_stateAt h) rfl rfl (Nat.le_of_ble_eq_true rfl) (by rw [hd]; decide) (fun v6 g4 h => ?_)
        refine wa_istore C (i := 4) dX9_sees_73 (by rw [hn]; decide) rfl rfl ?_
        refine wa_aload_n C (i := 0) dX9_sees_75 rfl rfl ?_
        refine wa_getR C (j := 40) lq_67 sh_67 rfl in_X9 (by decide) rfl f_X9_110 dX9_sees_76 ?_
        refine wa_iload_n C (i := 1) dX9_sees_79 rfl rfl ?_
        refine wa_zald C lq_101 sh_101 dX9_sees_80 h (fun v7 h => ?_)
        refine fp_j0 (Q := fun g5 => WA Z 97 [some (.ref 67), some (.int x1), some (.int x2), some (.int v1), none, none, none] [] g5) h (fun g5 h => ?_) (fun J97 hJ97 h => ?_)
        · refine wa_aload_n C (i := 0) dX9_sees_97 rfl rfl ?_
          refine wa_iload_n C (i := 1) dX9_sees_98 rfl rfl ?_
          refine wa_iload_n C (i := 2) dX9_sees_99 rfl rfl ?_
          refine wa_callVi C lq_67 sh_67 rfl s_X9_344 i_X9_goalOf e_X9_goalOf dX9_sees_100 (ok_X9_goalOf h) rfl rfl (Nat.le_of_ble_eq_true rfl) (by rw [hd]; decide) (fun v8 g6 h => ?_)
          refine wa_istore C (i := 5) dX9_sees_103 (by rw [hn]; decide) rfl rfl ?_
          refine wa_iload C dX9_sees_105 rfl ?_
          refine wa_iload_n C (i := 3) dX9_sees_107 rfl rfl ?_
          refine fp_k0 (Q := WA Z 128 [some (.ref 67), some (.int x1), some (.int x2), some (.int v1), none, some (.int v8), none] [] g6) h (fun  h => ?_) (fun J128 hJ128 h => ?_)
          · refine wa_iload C dX9_sees_128 rfl ?_
            refine wa_iload_n C (i := 3) dX9_sees_130 rfl rfl ?_
            refine fp_j0 (Q := fun g7 => WA Z 157 [some (.ref 67), some (.int x1), some (.int x2), some (.int v1), none, some (.int v8), none] [] g7) h (fun g7 h => ?_) (fun J157 hJ157 h => ?_)
            · refine wa_iload C dX9_sees_157 rfl ?_
              refine fp_k0 (Q := WA Z 168 [some (.ref 67), some (.int x1), some (.int x2), none, none, none, none] [] g7) h (fun  h => ?_) (fun J168 hJ168 h => ?_)
              · refine wa_iload_n C (i := 2) dX9_sees_168 rfl rfl ?_
                refine wa_aload_n C (i := 0) dX9_sees_169 rfl rfl ?_
                refine wa_getR C (j := 36) lq_67 sh_67 rfl in_X9 (by decide) rfl f_X9_98 dX9_sees_170 ?_
                refine wa_iload_n C (i := 1) dX9_sees_173 rfl rfl ?_
                refine wa_iald C lq_97 sh_97 dX9_sees_174 h (fun v9 h => ?_)
                refine wa_isub C dX9_sees_175 ?_
                refine wa_aload_n C (i := 0) dX9_sees_176 rfl rfl ?_
                refine wa_getI C (j := 43) lq_67 sh_67 rfl in_X9 (by decide) rfl f_X9_116 dX9_sees_177 ?_
                refine wa_icmp_lt C (tgt := 189) dX9_sees_180 (by decide) h (fun h => ?_) (fun h => ?_)
                · exact wa_vret C hv rfl dX9_sees_189 h
                · refine wa_aload_n C (i := 0) dX9_sees_183 rfl rfl ?_
                  refine wa_iload_n C (i := 1) dX9_sees_184 rfl rfl ?_
                  refine wa_iconst C (v := 1) dX9_sees_185 (by decide) ?_
                  refine wa_callVv C lq_67 sh_67 rfl s_X9_340 i_X9_turns e_X9_turns dX9_sees_186 (ok_X9_turns h) rfl rfl (Nat.le_of_ble_eq_true rfl) (by rw [hd]; decide) (fun g8 h => ?_)
                  exact wa_vret C hv rfl dX9_sees_189 h
              refine wa_if_lt C (tgt := 168) dX9_sees_159 (by decide) h (fun h => ?_) (fun h => ?_)
              · exact WA.weak (hJ168  h) ⟨rfl, ⟨rfl, ⟨rfl, trivial⟩⟩⟩
              · refine wa_iload C dX9_sees_162 rfl ?_
                refine wa_iload_n C (i := 3) dX9_sees_164 rfl rfl ?_
                refine wa_icmp_ne C (tgt := 190) dX9_sees_165 (by decide) h (fun h => ?_) (fun h => ?_)
                · exact WA.weak (hJ168  h) ⟨rfl, ⟨rfl, ⟨rfl, trivial⟩⟩⟩
                · refine wa_aload_n C (i := 0) dX9_sees_190 rfl rfl ?_
                  refine wa_iload_n C (i := 3) dX9_sees_191 rfl rfl ?_
                  refine wa_iload C dX9_sees_192 rfl ?_
                  refine wa_callVi C lq_67 sh_67 rfl s_X9_347 i_X9_wayOn e_X9_wayOn dX9_sees_194 (ok_X9_wayOn h) rfl rfl (Nat.le_of_ble_eq_true rfl) (by rw [hd]; decide) (fun v11 g9 h => ?_)
                  refine wa_istore C (i := 6) dX9_sees_197 (by rw [hn]; decide) rfl rfl ?_
                  refine wa_iload C dX9_sees_199 rfl ?_
                  refine wa_if_lt C (tgt := 214) dX9_sees_201 (by decide) h (fun h => ?_) (fun h => ?_)
                  · exact wa_vret C hv rfl dX9_sees_214 h
                  · refine wa_aload_n C (i := 0) dX9_sees_204 rfl rfl ?_
                    refine wa_iload C dX9_sees_205 rfl ?_
                    refine wa_iload_n C (i := 2) dX9_sees_207 rfl rfl ?_
                    refine wa_callVi C lq_67 sh_67 rfl s_X9_350 i_X9_leaves e_X9_leaves dX9_sees_208 (ok_X9_leaves h) rfl rfl (Nat.le_of_ble_eq_true rfl) (by rw [hd]; decide) (fun v12 g10 h => ?_)
                    refine wa_if_ne C (tgt := 215) dX9_sees_211 (by decide) h (fun h => ?_) (fun h => ?_)
                    · exact wa_vret C hv rfl dX9_sees_214 h
                    · refine wa_aload_n C (i := 0) dX9_sees_215 rfl rfl ?_
                      refine wa_getR C (j := 34) lq_67 sh_67 rfl in_X9 (by decide) rfl f_X9_92 dX9_sees_216 ?_
                      refine wa_iload_n C (i := 1) dX9_sees_219 rfl rfl ?_
                      refine wa_iconst C (v := 1) dX9_sees_220 (by decide) ?_
                      refine wa_iast C lq_95 sh_95 dX9_sees_221 h (fun g11 h => ?_)
                      refine wa_aload_n C (i := 0) dX9_sees_222 rfl rfl ?_
                      refine wa_getR C (j := 35) lq_67 sh_67 rfl in_X9 (by decide) rfl f_X9_95 dX9_sees_223 ?_
                      refine wa_iload_n C (i := 1) dX9_sees_226 rfl rfl ?_
                      refine wa_aload_n C (i := 0) dX9_sees_227 rfl rfl ?_
                      refine wa_getR C (j := 2) lq_67 sh_67 rfl in_X9 (by decide) rfl f_X9_16 dX9_sees_228 ?_
                      refine wa_iload C dX9_sees_231 rfl ?_
                      refine wa_iald C lq_70 sh_70 dX9_sees_233 h (fun v13 h => ?_)
                      refine wa_iload_n C (i := 3) dX9_sees_234 rfl rfl ?_
                      refine fp_k1 (Q := fun z0j255 => WA Z 255 [some (.ref 67), some (.int x1), some (.int x2), none, none, none, some (.int v11)] [.int z0j255, .int x1, .ref 96] g11) h (fun z0j255 h => ?_) (fun J255 hJ255 h => ?_)
                      · refine wa_iast C lq_96 sh_96 dX9_sees_255 h (fun g12 h => ?_)
                        refine wa_aload_n C (i := 0) dX9_sees_256 rfl rfl ?_
                        refine wa_getR C (j := 36) lq_67 sh_67 rfl in_X9 (by decide) rfl f_X9_98 dX9_sees_257 ?_
                        refine wa_iload_n C (i := 1) dX9_sees_260 rfl rfl ?_
                        refine wa_iload_n C (i := 2) dX9_sees_261 rfl rfl ?_
                        refine wa_aload_n C (i := 0) dX9_sees_262 rfl rfl ?_
                        refine wa_getR C (j := 4) lq_67 sh_67 rfl in_X9 (by decide) rfl f_X9_22 dX9_sees_263 ?_
                        refine wa_iload C dX9_sees_266 rfl ?_
                        refine wa_iald C lq_72 sh_72 dX9_sees_268 h (fun v14 h => ?_)
                        refine wa_iadd C dX9_sees_269 ?_
                        refine wa_iast C lq_97 sh_97 dX9_sees_270 h (fun g13 h => ?_)
                        exact wa_vret C hv rfl dX9_sees_271 h
                      refine wa_icmp_ne C (tgt := 248) dX9_sees_235 (by decide) h (fun h => ?_) (fun h => ?_)
                      · refine wa_aload_n C (i := 0) dX9_sees_238 rfl rfl ?_
                        refine wa_getR C (j := 3) lq_67 sh_67 rfl in_X9 (by decide) rfl f_X9_19 dX9_sees_239 ?_
                        refine wa_iload C dX9_sees_242 rfl ?_
                        refine wa_iald C lq_71 sh_71 dX9_sees_244 h (fun v16 h => ?_)
                        refine wa_goto C (tgt := 255) dX9_sees_245 (by decide) ?_
                        exact WA.weak (hJ255 _ h) ⟨rfl, ⟨rfl, ⟨rfl, ⟨rfl, trivial⟩⟩⟩⟩
                      · refine wa_aload_n C (i := 0) dX9_sees_248 rfl rfl ?_
                        refine wa_getR C (j := 2) lq_67 sh_67 rfl in_X9 (by decide) rfl f_X9_16 dX9_sees_249 ?_
                        refine wa_iload C dX9_sees_252 rfl ?_
                        refine wa_iald C lq_70 sh_70 dX9_sees_254 h (fun v15 h => ?_)
                        exact WA.weak (hJ255 _ h) ⟨rfl, ⟨rfl, ⟨rfl, ⟨rfl, trivial⟩⟩⟩⟩
            refine wa_icmp_ne C (tgt := 157) dX9_sees_131 (by decide) h (fun h => ?_) (fun h => ?_)
            · refine wa_aload_n C (i := 0) dX9_sees_134 rfl rfl ?_
              refine wa_aload_n C (i := 0) dX9_sees_135 rfl rfl ?_
              refine wa_getR C (j := 32) lq_67 sh_67 rfl in_X9 (by decide) rfl f_X9_86 dX9_sees_136 ?_
              refine wa_iload_n C (i := 1) dX9_sees_139 rfl rfl ?_
              refine wa_iald C lq_93 sh_93 dX9_sees_140 h (fun v17 h => ?_)
              refine wa_iload_n C (i := 2) dX9_sees_141 rfl rfl ?_
              refine wa_callVi C lq_67 sh_67 rfl s_X9_255 i_X9_whereIs e_X9_whereIs dX9_sees_142 (ok_X9_whereIs h) rfl rfl (Nat.le_of_ble_eq_true rfl) (by rw [hd]; decide) (fun v18 g14 h => ?_)
              refine wa_iload_n C (i := 3) dX9_sees_145 rfl rfl ?_
              refine wa_icmp_ne C (tgt := 157) dX9_sees_146 (by decide) h (fun h => ?_) (fun h => ?_)
              · refine wa_aload_n C (i := 0) dX9_sees_149 rfl rfl ?_
                refine wa_iload_n C (i := 1) dX9_sees_150 rfl rfl ?_
                refine wa_iconst C (v := 2) dX9_sees_151 (by decide) ?_
                refine wa_iload_n C (i := 2) dX9_sees_152 rfl rfl ?_
                refine wa_callVv C lq_67 sh_67 rfl s_X9_337 i_X9_ends e_X9_ends dX9_sees_153 (ok_X9_ends h) rfl rfl (Nat.le_of_ble_eq_true rfl) (by rw [hd]; decide) (fun g15 h => ?_)
                exact wa_vret C hv rfl dX9_sees_156 h
              · exact WA.weak (hJ157 _ h) ⟨rfl, ⟨rfl, ⟨rfl, ⟨rfl, ⟨rfl, trivial⟩⟩⟩⟩⟩
            · exact WA.weak (hJ157 _ h) ⟨rfl, ⟨rfl, ⟨rfl, ⟨rfl, ⟨rfl, trivial⟩⟩⟩⟩⟩
          refine wa_icmp_ne C (tgt := 128) dX9_sees_108 (by decide) h (fun h => ?_) (fun h => ?_)
          · refine wa_aload_n C (i := 0) dX9_sees_111 rfl rfl ?_
            refine wa_getR C (j := 40) lq_67 sh_67 rfl in_X9 (by decide) rfl f_X9_110 dX9_sees_112 ?_
            refine wa_iload_n C (i := 1) dX9_sees_115 rfl rfl ?_
            refine wa_zald C lq_101 sh_101 dX9_sees_116 h (fun v20 h => ?_)
            refine wa_if_eq C (tgt := 128) dX9_sees_117 (by decide) h (fun h => ?_) (fun h => ?_)
            · exact WA.weak (hJ128  h) ⟨rfl, ⟨rfl, ⟨rfl, ⟨rfl, ⟨rfl, trivial⟩⟩⟩⟩⟩
            · refine wa_aload_n C (i := 0) dX9_sees_120 rfl rfl ?_
              refine wa_iload_n C (i := 1) dX9_sees_121 rfl rfl ?_
              refine wa_iconst C (v := 3) dX9_sees_122 (by decide) ?_
              refine wa_iload_n C (i := 2) dX9_sees_123 rfl rfl ?_
              refine wa_callVv C lq_67 sh_67 rfl s_X9_337 i_X9_ends e_X9_ends dX9_sees_124 (ok_X9_ends h) rfl rfl (Nat.le_of_ble_eq_true rfl) (by rw [hd]; decide) (fun g16 h => ?_)
              exact wa_vret C hv rfl dX9_sees_127 h
          · exact WA.weak (hJ128  h) ⟨rfl, ⟨rfl, ⟨rfl, ⟨rfl, ⟨rfl, trivial⟩⟩⟩⟩⟩
        refine wa_if_ne C (tgt := 97) dX9_sees_81 (by decide) h (fun h => ?_) (fun h => ?_)
        · refine wa_iload C dX9_sees_84 rfl ?_
          refine wa_iconst C (v := 1) dX9_sees_86 (by decide) ?_
          refine wa_icmp_le C (tgt := 97) dX9_sees_87 (by decide) h (fun h => ?_) (fun h => ?_)
          · exact WA.weak (hJ97 _ h) ⟨rfl, ⟨rfl, ⟨rfl, ⟨rfl, trivial⟩⟩⟩⟩
          · refine wa_aload_n C (i := 0) dX9_sees_90 rfl rfl ?_
            refine wa_iload_n C (i := 1) dX9_sees_91 rfl rfl ?_
            refine wa_iload C dX9_sees_92 rfl ?_
            refine wa_callVv C lq_67 sh_67 rfl s_X9_340 i_X9_turns e_X9_turns dX9_sees_94 (ok_X9_turns h) rfl rfl (Nat.le_of_ble_eq_true rfl) (by rw [hd]; decide) (fun g17 h => ?_)
            exact WA.weak (hJ97 _ h) ⟨rfl, ⟨rfl, ⟨rfl, ⟨rfl, trivial⟩⟩⟩⟩
        · exact WA.weak (hJ97 _ h) ⟨rfl, ⟨rfl, ⟨rfl, ⟨rfl, trivial⟩⟩⟩⟩
      refine wa_if_ne C (tgt := 61) dX9_sees_42 (by decide) h (fun h => ?_) (fun h => ?_)
      · refine wa_aload_n C (i := 0) dX9_sees_45 rfl rfl ?_
        refine wa_iconst C (v := 2) dX9_sees_46 (by decide) ?_
        refine wa_iload_n C (i := 1) dX9_sees_47 rfl rfl ?_
        refine wa_iload_n C (i := 2) dX9_sees_48 rfl rfl ?_
        refine wa_callVi C lq_67 sh_67 rfl s_X9_332 i_X9_holdsFor e_X9_holdsFor dX9_sees_49 (ok_X9_holdsFor h) rfl rfl (Nat.le_of_ble_eq_true rfl) (by rw [hd]; decide) (fun v23 g18 h => ?_)
        refine wa_if_eq C (tgt := 61) dX9_sees_52 (by decide) h (fun h => ?_) (fun h => ?_)
        · exact WA.weak (hJ61 _ h) ⟨rfl, ⟨rfl, ⟨rfl, ⟨rfl, trivial⟩⟩⟩⟩
        · refine wa_aload_n C (i := 0) dX9_sees_55 rfl rfl ?_
          refine wa_iload_n C (i := 1) dX9_sees_56 rfl rfl ?_
          refine wa_iconst C (v := 4) dX9_sees_57 (by decide) ?_
          refine wa_callVv C lq_67 sh_67 rfl s_X9_340 i_X9_turns e_X9_turns dX9_sees_58 (ok_X9_turns h) rfl rfl (Nat.le_of_ble_eq_true rfl) (by rw [hd]; decide) (fun g19 h => ?_)
          exact WA.weak (hJ61 _ h) ⟨rfl, ⟨rfl, ⟨rfl, ⟨rfl, trivial⟩⟩⟩⟩
      · exact WA.weak (hJ61 _ h) ⟨rfl, ⟨rfl, ⟨rfl, ⟨rfl, trivial⟩⟩⟩⟩
    · exact wa_vret C hv rfl dX9_sees_35 h
  · refine wa_aload_n C (i := 0) dX9_sees_17 rfl rfl ?_
    refine wa_iload_n C (i := 1) dX9_sees_18 rfl rfl ?_
    refine wa_iconst C (v := 4) dX9_sees_19 (by decide) ?_
    refine wa_iload_n C (i := 2) dX9_sees_20 rfl rfl ?_
    refine wa_callVv C lq_67 sh_67 rfl s_X9_337 i_X9_ends e_X9_ends dX9_sees_21 (ok_X9_ends h) rfl rfl (Nat.le_of_ble_eq_true rfl) (by rw [hd]; decide) (fun g20 h => ?_)
    exact wa_vret C hv rfl dX9_sees_24 h

set_option maxRecDepth 20000 in
theorem ok_X9_nextAt_5 {Z : fp_Z} (C : fp_C Z cX9_nextAt RX9 ((Option.some Jvm.ClassFile.FieldType.int))) (hv : fp_V Z false) (hn : Z.2.2.2.2.1 = 4) (hd : Z.2.2.2.2.2.1 = 1) {x1 : Int32} : ∀ (n : Nat) (x2 : Int32) (x3 : Int32) (g : fp_G), w_X9_nextAt_5 n x1 x2 x3 g Z.2.2.2.1 → WA Z 5 [some (.ref 67), some (.int x1), some (.int x2), some (.int x3)] [] g := by
  intro n
  induction n with
  | zero => intro x2 x3 g h; exact h.elim
  | succ n ih =>
    intro x2 x3 g h
    rw [w_X9_nextAt_5] at h
    refine wa_iload_n C (i := 3) dX9_nextAt_5 rfl rfl ?_
    refine wa_aload_n C (i := 0) dX9_nextAt_6 rfl rfl ?_
    refine wa_getI C (j := 42) lq_67 sh_67 rfl in_X9 (by decide) rfl f_X9_259 dX9_nextAt_7 ?_
    refine wa_icmp_ge C (tgt := 68) dX9_nextAt_10 (by decide) h (fun h => ?_) (fun h => ?_)
    · refine wa_iload_n C (i := 2) dX9_nextAt_68 rfl rfl ?_
      exact wa_iret C hv rfl dX9_nextAt_69 h
    · refine wa_aload_n C (i := 0) dX9_nextAt_13 rfl rfl ?_
      refine wa_getR C (j := 34) lq_67 sh_67 rfl in_X9 (by decide) rfl f_X9_92 dX9_nextAt_14 ?_
      refine wa_iload_n C (i := 3) dX9_nextAt_17 rfl rfl ?_
      refine wa_iald C lq_95 sh_95 dX9_nextAt_18 h (fun v1 h => ?_)
      refine fp_k1 (Q := fun x2j62 => WA Z 62 [some (.ref 67), some (.int x1), some (.int x2j62), some (.int x3)] [] g) h (fun x2j62 h => ?_) (fun J62 hJ62 h => ?_)
      · refine wa_iinc C (i := 3) dX9_nextAt_62 rfl (fp_inc1 _) (by rw [hn]; decide) rfl rfl ?_
        refine wa_goto C (tgt := 5) dX9_nextAt_65 (by decide) ?_
        exact WA.weak (ih _ _ _ h) ⟨rfl, ⟨rfl, ⟨rfl, ⟨rfl, trivial⟩⟩⟩⟩
      refine wa_if_ne C (tgt := 62) dX9_nextAt_19 (by decide) h (fun h => ?_) (fun h => ?_)
      · refine wa_aload_n C (i := 0) dX9_nextAt_22 rfl rfl ?_
        refine wa_getR C (j := 35) lq_67 sh_67 rfl in_X9 (by decide) rfl f_X9_95 dX9_nextAt_23 ?_
        refine wa_iload_n C (i := 3) dX9_nextAt_26 rfl rfl ?_
        refine wa_iald C lq_96 sh_96 dX9_nextAt_27 h (fun v2 h => ?_)
        refine wa_iload_n C (i := 1) dX9_nextAt_28 rfl rfl ?_
        refine wa_icmp_ne C (tgt := 62) dX9_nextAt_29 (by decide) h (fun h => ?_) (fun h => ?_)
        · refine wa_aload_n C (i := 0) dX9_nextAt_32 rfl rfl ?_
          refine wa_getR C (j := 60) lq_67 sh_67 rfl in_X9 (by decide) rfl f_X9_147 dX9_nextAt_33 ?_
          refine wa_iload_n C (i := 3) dX9_nextAt_36 rfl rfl ?_
          refine wa_zald C lq_112 sh_112 dX9_nextAt_37 h (fun v3 h => ?_)
          refine wa_if_ne C (tgt := 62) dX9_nextAt_38 (by decide) h (fun h => ?_) (fun h => ?_)
          · refine wa_iload_n C (i := 2) dX9_nextAt_41 rfl rfl ?_
            refine fp_k0 (Q := WA Z 60 [some (.ref 67), some (.int x1), none, some (.int x3)] [] g) h (fun  h => ?_) (fun J60 hJ60 h => ?_)
            · refine wa_iload_n C (i := 3) dX9_nextAt_60 rfl rfl ?_
              refine wa_istore_n C (i := 2) dX9_nextAt_61 rfl (by rw [hn]; decide) rfl rfl ?_
              exact WA.weak (hJ62 _ h) ⟨rfl, ⟨rfl, ⟨rfl, ⟨rfl, trivial⟩⟩⟩⟩
            refine wa_if_lt C (tgt := 60) dX9_nextAt_42 (by decide) h (fun h => ?_) (fun h => ?_)
            · exact WA.weak (hJ60  h) ⟨rfl, ⟨rfl, ⟨rfl, trivial⟩⟩⟩
            · refine wa_aload_n C (i := 0) dX9_nextAt_45 rfl rfl ?_
              refine wa_getR C (j := 36) lq_67 sh_67 rfl in_X9 (by decide) rfl f_X9_98 dX9_nextAt_46 ?_
              refine wa_iload_n C (i := 3) dX9_nextAt_49 rfl rfl ?_
              refine wa_iald C lq_97 sh_97 dX9_nextAt_50 h (fun v4 h => ?_)
              refine wa_aload_n C (i := 0) dX9_nextAt_51 rfl rfl ?_
              refine wa_getR C (j := 36) lq_67 sh_67 rfl in_X9 (by decide) rfl f_X9_98 dX9_nextAt_52 ?_
              refine wa_iload_n C (i := 2) dX9_nextAt_55 rfl rfl ?_
              refine wa_iald C lq_97 sh_97 dX9_nextAt_56 h (fun v5 h => ?_)
              refine wa_icmp_ge C (tgt := 62) dX9_nextAt_57 (by decide) h (fun h => ?_) (fun h => ?_)
              · exact WA.weak (hJ62 _ h) ⟨rfl, ⟨rfl, ⟨rfl, ⟨rfl, trivial⟩⟩⟩⟩
              · exact WA.weak (hJ60  h) ⟨rfl, ⟨rfl, ⟨rfl, trivial⟩⟩⟩
          · exact WA.weak (hJ62 _ h) ⟨rfl, ⟨rfl, ⟨rfl, ⟨rfl, trivial⟩⟩⟩⟩
        · exact WA.weak (hJ62 _ h) ⟨rfl, ⟨rfl, ⟨rfl, ⟨rfl, trivial⟩⟩⟩⟩
      · exact WA.weak (hJ62 _ h) ⟨rfl, ⟨rfl, ⟨rfl, ⟨rfl, trivial⟩⟩⟩⟩

set_option maxRecDepth 20000 in
theorem ok_X9_nextAt {l : Launch} {E : fp_E} {x1 : Int32} {g : fp_G} {K : Int32 → fp_G → Prop} (h : w_X9_nextAt x1 g K) : fp_M l E yX9_nextAt cX9_nextAt 4 ((Option.some Jvm.ClassFile.FieldType.int)) false 1 [.ref 67, .int x1] g K := by
  unfold w_X9_nextAt at h
  refine fp_enter rfl [some (.ref 67), some (.int x1), none, none] (Nat.le_of_ble_eq_true rfl) (fun q hq => hq) (fun Z hE hl hv hK hn hd C => ?_)
  subst hE hl hK
  refine wa_bipush C (v := (-9)) dX9_nextAt_0 (by decide) ?_
  refine wa_istore_n C (i := 2) dX9_nextAt_2 rfl (by rw [hn]; decide) rfl rfl ?_
  refine wa_iconst C (v := 0) dX9_nextAt_3 (by decide) ?_
  refine wa_istore_n C (i := 3) dX9_nextAt_4 rfl (by rw [hn]; decide) rfl rfl ?_
  obtain ⟨n5, h⟩ := h
  exact WA.weak (ok_X9_nextAt_5 C hv hn hd n5 _ _ _ h) ⟨rfl, ⟨rfl, ⟨rfl, ⟨rfl, trivial⟩⟩⟩⟩

set_option maxRecDepth 20000 in
theorem ok_X9_passes_74 {Z : fp_Z} (C : fp_C Z cX9_passes RX9 ((Option.none : Option Jvm.ClassFile.FieldType))) (hv : fp_V Z true) (hn : Z.2.2.2.2.1 = 5) (hd : Z.2.2.2.2.2.1 = 7) {x1 : Int32} {x2 : Int32} {E114 : fp_G → Prop} (hE114 : ∀ g, E114 g → WA Z 114 [some (.ref 67), some (.int x1), some (.int x2), none, none] [] g) : ∀ (n : Nat) (x3 : Int32) (x4 : Int32) (g : fp_G), w_X9_passes_74 n x1 x2 x3 x4 g Z.2.2.2.1 E114 → WA Z 74 [some (.ref 67), some (.int x1), some (.int x2), some (.int x3), some (.int x4)] [] g := by
  intro n
  induction n with
  | zero => intro x3 x4 g h; exact h.elim
  | succ n ih =>
    intro x3 x4 g h
    rw [w_X9_passes_74] at h
    refine wa_iload C dX9_passes_74 rfl ?_
    refine wa_aload_n C (i := 0) dX9_passes_76 rfl rfl ?_
    refine wa_getR C (j := 1) lq_67 sh_67 rfl in_X9 (by decide) rfl f_X9_13 dX9_passes_77 ?_
    refine wa_iload_n C (i := 2) dX9_passes_80 rfl rfl ?_
    refine wa_iald C lq_69 sh_69 dX9_passes_81 h (fun v2 h => ?_)
    refine wa_icmp_ge C (tgt := 114) dX9_passes_82 (by decide) h (fun h => ?_) (fun h => ?_)
    · exact WA.weak (hE114 _ h) ⟨rfl, ⟨rfl, ⟨rfl, trivial⟩⟩⟩
    · refine wa_iload_n C (i := 3) dX9_passes_85 rfl rfl ?_
      refine wa_if_lt C (tgt := 114) dX9_passes_86 (by decide) h (fun h => ?_) (fun h => ?_)
      · exact WA.weak (hE114 _ h) ⟨rfl, ⟨rfl, ⟨rfl, trivial⟩⟩⟩
      · refine wa_aload_n C (i := 0) dX9_passes_89 rfl rfl ?_
        refine wa_getR C (j := 60) lq_67 sh_67 rfl in_X9 (by decide) rfl f_X9_147 dX9_passes_90 ?_
        refine wa_iload_n C (i := 3) dX9_passes_93 rfl rfl ?_
        refine wa_iconst C (v := 1) dX9_passes_94 (by decide) ?_
        refine wa_zast C lq_112 sh_112 dX9_passes_95 h (fun g2 h => ?_)
        refine wa_aload_n C (i := 0) dX9_passes_96 rfl rfl ?_
        refine wa_iload_n C (i := 3) dX9_passes_97 rfl rfl ?_
        refine wa_iload_n C (i := 1) dX9_passes_98 rfl rfl ?_
        refine wa_callVv C lq_67 sh_67 rfl s_X9_357 i_X9_sees e_X9_sees dX9_passes_99 (ok_X9_sees h) rfl rfl (Nat.le_of_ble_eq_true rfl) (by rw [hd]; decide) (fun g3 h => ?_)
        refine wa_aload_n C (i := 0) dX9_passes_102 rfl rfl ?_
        refine wa_iload_n C (i := 2) dX9_passes_103 rfl rfl ?_
        refine wa_callVi C lq_67 sh_67 rfl s_X9_354 i_X9_nextAt e_X9_nextAt dX9_passes_104 (ok_X9_nextAt h) rfl rfl (Nat.le_of_ble_eq_true rfl) (by rw [hd]; decide) (fun v4 g4 h => ?_)
        refine wa_istore_n C (i := 3) dX9_passes_107 rfl (by rw [hn]; decide) rfl rfl ?_
        refine wa_iinc C (i := 4) dX9_passes_108 rfl (fp_inc1 _) (by rw [hn]; decide) rfl rfl ?_
        refine wa_goto C (tgt := 74) dX9_passes_111 (by decide) ?_
        exact WA.weak (ih _ _ _ h) ⟨rfl, ⟨rfl, ⟨rfl, ⟨rfl, ⟨rfl, trivial⟩⟩⟩⟩⟩

set_option maxRecDepth 20000 in
theorem ok_X9_passes_57 {Z : fp_Z} (C : fp_C Z cX9_passes RX9 ((Option.none : Option Jvm.ClassFile.FieldType))) (hv : fp_V Z true) (hn : Z.2.2.2.2.1 = 5) (hd : Z.2.2.2.2.2.1 = 7) {x1 : Int32} : ∀ (n : Nat) (x2 : Int32) (g : fp_G), w_X9_passes_57 n x1 x2 g Z.2.2.2.1 → WA Z 57 [some (.ref 67), some (.int x1), some (.int x2), none, none] [] g := by
  intro n
  induction n with
  | zero => intro x2 g h; exact h.elim
  | succ n ih =>
    intro x2 g h
    rw [w_X9_passes_57] at h
    refine wa_iload_n C (i := 2) dX9_passes_57 rfl rfl ?_
    refine wa_aload_n C (i := 0) dX9_passes_58 rfl rfl ?_
    refine wa_getI C (j := 12) lq_67 sh_67 rfl in_X9 (by decide) rfl f_X9_183 dX9_passes_59 ?_
    refine wa_icmp_ge C (tgt := 120) dX9_passes_62 (by decide) h (fun h => ?_) (fun h => ?_)
    · exact wa_vret C hv rfl dX9_passes_120 h
    · refine wa_aload_n C (i := 0) dX9_passes_65 rfl rfl ?_
      refine wa_iload_n C (i := 2) dX9_passes_66 rfl rfl ?_
      refine wa_callVi C lq_67 sh_67 rfl s_X9_354 i_X9_nextAt e_X9_nextAt dX9_passes_67 (ok_X9_nextAt h) rfl rfl (Nat.le_of_ble_eq_true rfl) (by rw [hd]; decide) (fun v1 g1 h => ?_)
      refine wa_istore_n C (i := 3) dX9_passes_70 rfl (by rw [hn]; decide) rfl rfl ?_
      refine wa_iconst C (v := 0) dX9_passes_71 (by decide) ?_
      refine wa_istore C (i := 4) dX9_passes_72 (by rw [hn]; decide) rfl rfl ?_
      obtain ⟨n74, h⟩ := h
      refine WA.weak (ok_X9_passes_74 C hv hn hd (fun g5 h => ?_) n74 _ _ _ h) ⟨rfl, ⟨rfl, ⟨rfl, ⟨rfl, ⟨rfl, trivial⟩⟩⟩⟩⟩
      · refine wa_iinc C (i := 2) dX9_passes_114 rfl (fp_inc1 _) (by rw [hn]; decide) rfl rfl ?_
        refine wa_goto C (tgt := 57) dX9_passes_117 (by decide) ?_
        exact WA.weak (ih _ _ h) ⟨rfl, ⟨rfl, ⟨rfl, trivial⟩⟩⟩

set_option maxRecDepth 20000 in
theorem ok_X9_passes_2 {Z : fp_Z} (C : fp_C Z cX9_passes RX9 ((Option.none : Option Jvm.ClassFile.FieldType))) (hv : fp_V Z true) (hn : Z.2.2.2.2.1 = 5) (hd : Z.2.2.2.2.2.1 = 7) {x1 : Int32} : ∀ (n : Nat) (x2 : Int32) (g : fp_G), w_X9_passes_2 n x1 x2 g Z.2.2.2.1 → WA Z 2 [some (.ref 67), some (.int x1), some (.int x2), none, none] [] g := by
  intro n
  induction n with
  | zero => intro x2 g h; exact h.elim
  | succ n ih =>
    intro x2 g h
    rw [w_X9_passes_2] at h
    refine wa_iload_n C (i := 2) dX9_passes_2 rfl rfl ?_
    refine wa_aload_n C (i := 0) dX9_passes_3 rfl rfl ?_
    refine wa_getI C (j := 42) lq_67 sh_67 rfl in_X9 (by decide) rfl f_X9_259 dX9_passes_4 ?_
    refine wa_icmp_ge C (tgt := 55) dX9_passes_7 (by decide) h (fun h => ?_) (fun h => ?_)
    · refine wa_iconst C (v := 0) dX9_passes_55 (by decide) ?_
      refine wa_istore_n C (i := 2) dX9_passes_56 rfl (by rw [hn]; decide) rfl rfl ?_
      obtain ⟨n57, h⟩ := h
      exact WA.weak (ok_X9_passes_57 C hv hn hd n57 _ _ h) ⟨rfl, ⟨rfl, ⟨rfl, trivial⟩⟩⟩
    · refine wa_aload_n C (i := 0) dX9_passes_10 rfl rfl ?_
      refine wa_getR C (j := 60) lq_67 sh_67 rfl in_X9 (by decide) rfl f_X9_147 dX9_passes_11 ?_
      refine wa_iload_n C (i := 2) dX9_passes_14 rfl rfl ?_
      refine wa_iconst C (v := 0) dX9_passes_15 (by decide) ?_
      refine wa_zast C lq_112 sh_112 dX9_passes_16 h (fun g6 h => ?_)
      refine wa_aload_n C (i := 0) dX9_passes_17 rfl rfl ?_
      refine wa_getR C (j := 34) lq_67 sh_67 rfl in_X9 (by decide) rfl f_X9_92 dX9_passes_18 ?_
      refine wa_iload_n C (i := 2) dX9_passes_21 rfl rfl ?_
      refine wa_iald C lq_95 sh_95 dX9_passes_22 h (fun v5 h => ?_)
      refine wa_iconst C (v := 1) dX9_passes_23 (by decide) ?_
      refine fp_j0 (Q := fun g7 => WA Z 49 [some (.ref 67), some (.int x1), some (.int x2), none, none] [] g7) h (fun g7 h => ?_) (fun J49 hJ49 h => ?_)
      · refine wa_iinc C (i := 2) dX9_passes_49 rfl (fp_inc1 _) (by rw [hn]; decide) rfl rfl ?_
        refine wa_goto C (tgt := 2) dX9_passes_52 (by decide) ?_
        exact WA.weak (ih _ _ h) ⟨rfl, ⟨rfl, ⟨rfl, trivial⟩⟩⟩
      refine wa_icmp_ne C (tgt := 49) dX9_passes_24 (by decide) h (fun h => ?_) (fun h => ?_)
      · refine wa_aload_n C (i := 0) dX9_passes_27 rfl rfl ?_
        refine wa_getR C (j := 36) lq_67 sh_67 rfl in_X9 (by decide) rfl f_X9_98 dX9_passes_28 ?_
        refine wa_iload_n C (i := 2) dX9_passes_31 rfl rfl ?_
        refine wa_iald C lq_97 sh_97 dX9_passes_32 h (fun v6 h => ?_)
        refine wa_iload_n C (i := 1) dX9_passes_33 rfl rfl ?_
        refine wa_icmp_ne C (tgt := 49) dX9_passes_34 (by decide) h (fun h => ?_) (fun h => ?_)
        · refine wa_aload_n C (i := 0) dX9_passes_37 rfl rfl ?_
          refine wa_iload_n C (i := 2) dX9_passes_38 rfl rfl ?_
          refine wa_aload_n C (i := 0) dX9_passes_39 rfl rfl ?_
          refine wa_getR C (j := 35) lq_67 sh_67 rfl in_X9 (by decide) rfl f_X9_95 dX9_passes_40 ?_
          refine wa_iload_n C (i := 2) dX9_passes_43 rfl rfl ?_
          refine wa_iald C lq_96 sh_96 dX9_passes_44 h (fun v7 h => ?_)
          refine wa_iload_n C (i := 1) dX9_passes_45 rfl rfl ?_
          refine wa_callVv C lq_67 sh_67 rfl s_X9_264 i_X9_comes e_X9_comes dX9_passes_46 (ok_X9_comes h) rfl rfl (Nat.le_of_ble_eq_true rfl) (by rw [hd]; decide) (fun g8 h => ?_)
          exact WA.weak (hJ49 _ h) ⟨rfl, ⟨rfl, ⟨rfl, trivial⟩⟩⟩
        · exact WA.weak (hJ49 _ h) ⟨rfl, ⟨rfl, ⟨rfl, trivial⟩⟩⟩
      · exact WA.weak (hJ49 _ h) ⟨rfl, ⟨rfl, ⟨rfl, trivial⟩⟩⟩

set_option maxRecDepth 20000 in
theorem ok_X9_passes {l : Launch} {E : fp_E} {x1 : Int32} {g : fp_G} {K : Int32 → fp_G → Prop} (h : w_X9_passes x1 g K) : fp_M l E yX9_passes cX9_passes 5 ((Option.none : Option Jvm.ClassFile.FieldType)) true 7 [.ref 67, .int x1] g K := by
  unfold w_X9_passes at h
  refine fp_enter rfl [some (.ref 67), some (.int x1), none, none, none] (Nat.le_of_ble_eq_true rfl) (fun q hq => hq) (fun Z hE hl hv hK hn hd C => ?_)
  subst hE hl hK
  refine wa_iconst C (v := 0) dX9_passes_0 (by decide) ?_
  refine wa_istore_n C (i := 2) dX9_passes_1 rfl (by rw [hn]; decide) rfl rfl ?_
  obtain ⟨n2, h⟩ := h
  exact WA.weak (ok_X9_passes_2 C hv hn hd n2 _ _ h) ⟨rfl, ⟨rfl, ⟨rfl, trivial⟩⟩⟩

set_option maxRecDepth 20000 in
theorem ok_X9_hours_45 {Z : fp_Z} (C : fp_C Z cX9_hours RX9 ((Option.some Jvm.ClassFile.FieldType.int))) (hv : fp_V Z false) (hn : Z.2.2.2.2.1 = 4) (hd : Z.2.2.2.2.2.1 = 8) {x1 : Int32} : ∀ (n : Nat) (x3 : Int32) (g : fp_G), w_X9_hours_45 n x1 x3 g Z.2.2.2.1 → WA Z 45 [some (.ref 67), some (.int x1), none, some (.int x3)] [] g := by
  intro n
  induction n with
  | zero => intro x3 g h; exact h.elim
  | succ n ih =>
    intro x3 g h
    rw [w_X9_hours_45] at h
    refine wa_iload_n C (i := 3) dX9_hours_45 rfl rfl ?_
    refine wa_iload_n C (i := 1) dX9_hours_46 rfl rfl ?_
    refine wa_icmp_ge C (tgt := 74) dX9_hours_47 (by decide) h (fun h => ?_) (fun h => ?_)
    · refine wa_aload_n C (i := 0) dX9_hours_74 rfl rfl ?_
      refine wa_getI C (j := 15) lq_67 sh_67 rfl in_X9 (by decide) rfl f_X9_207 dX9_hours_75 ?_
      exact wa_iret C hv rfl dX9_hours_78 h
    · refine wa_aload_n C (i := 0) dX9_hours_50 rfl rfl ?_
      refine wa_aload_n C (i := 0) dX9_hours_51 rfl rfl ?_
      refine wa_getI C (j := 15) lq_67 sh_67 rfl in_X9 (by decide) rfl f_X9_207 dX9_hours_52 ?_
      refine wa_callVv C lq_67 sh_67 rfl s_X9_360 i_X9_passes e_X9_passes dX9_hours_55 (ok_X9_passes h) rfl rfl (Nat.le_of_ble_eq_true rfl) (by rw [hd]; decide) (fun g2 h => ?_)
      refine wa_aload_n C (i := 0) dX9_hours_58 rfl rfl ?_
      refine wa_dup C dX9_hours_59 rfl ?_
      refine wa_getI C (j := 15) lq_67 sh_67 rfl in_X9 (by decide) rfl f_X9_207 dX9_hours_60 ?_
      refine wa_iconst C (v := 1) dX9_hours_63 (by decide) ?_
      refine wa_iadd C dX9_hours_64 ?_
      refine wa_putI C (j := 15) lq_67 sh_67 rfl in_X9 (by decide) tyX9 tyX9_ok nmX9 rfl rfl rfl f_X9_207 dX9_hours_65 h (fun g3 h => ?_)
      refine wa_iinc C (i := 3) dX9_hours_68 rfl (fp_inc1 _) (by rw [hn]; decide) rfl rfl ?_
      refine wa_goto C (tgt := 45) dX9_hours_71 (by decide) ?_
      exact WA.weak (ih _ _ h) ⟨rfl, ⟨rfl, ⟨rfl, trivial⟩⟩⟩

set_option maxRecDepth 20000 in
theorem ok_X9_hours {l : Launch} {E : fp_E} {x1 : Int32} {g : fp_G} {K : Int32 → fp_G → Prop} (h : w_X9_hours x1 g K) : fp_M l E yX9_hours cX9_hours 4 ((Option.some Jvm.ClassFile.FieldType.int)) false 8 [.ref 67, .int x1] g K := by
  unfold w_X9_hours at h
  refine fp_enter rfl [some (.ref 67), some (.int x1), none, none] (Nat.le_of_ble_eq_true rfl) (fun q hq => hq) (fun Z hE hl hv hK hn hd C => ?_)
  subst hE hl hK
  refine wa_iload_n C (i := 1) dX9_hours_0 rfl rfl ?_
  refine wa_iconst C (v := 1) dX9_hours_1 (by decide) ?_
  refine fp_k1 (Q := fun z0j28 => WA Z 28 [some (.ref 67), some (.int x1), none, none] [.int z0j28] g) h (fun z0j28 h => ?_) (fun J28 hJ28 h => ?_)
  · refine wa_istore_n C (i := 2) dX9_hours_28 rfl (by rw [hn]; decide) rfl rfl ?_
    refine wa_iload_n C (i := 2) dX9_hours_29 rfl rfl ?_
    refine wa_if_eq C (tgt := 39) dX9_hours_30 (by decide) h (fun h => ?_) (fun h => ?_)
    · refine wa_aload_n C (i := 0) dX9_hours_39 rfl rfl ?_
      refine wa_callVv C lq_67 sh_67 rfl s_X9_214 i_X9_findFar e_X9_findFar dX9_hours_40 (ok_X9_findFar h) rfl rfl (Nat.le_of_ble_eq_true rfl) (by rw [hd]; decide) (fun g1 h => ?_)
      refine wa_iconst C (v := 0) dX9_hours_43 (by decide) ?_
      refine wa_istore_n C (i := 3) dX9_hours_44 rfl (by rw [hn]; decide) rfl rfl ?_
      obtain ⟨n45, h⟩ := h
      exact WA.weak (ok_X9_hours_45 C hv hn hd n45 _ _ h) ⟨rfl, ⟨rfl, ⟨rfl, trivial⟩⟩⟩
    · refine wa_aload_n C (i := 0) dX9_hours_33 rfl rfl ?_
      refine wa_iload_n C (i := 2) dX9_hours_34 rfl rfl ?_
      refine wa_callVi C lq_67 sh_67 rfl s_X9_192 i_X9_no e_X9_no dX9_hours_35 (ok_X9_no h) rfl rfl (Nat.le_of_ble_eq_true rfl) (by rw [hd]; decide) (fun v3 g4 h => ?_)
      exact wa_iret C hv rfl dX9_hours_38 h
  refine wa_icmp_ge C (tgt := 10) dX9_hours_2 (by decide) h (fun h => ?_) (fun h => ?_)
  · refine wa_iload_n C (i := 1) dX9_hours_10 rfl rfl ?_
    refine wa_sipush C (v := 2000) dX9_hours_11 (by decide) ?_
    refine wa_aload_n C (i := 0) dX9_hours_14 rfl rfl ?_
    refine wa_getI C (j := 15) lq_67 sh_67 rfl in_X9 (by decide) rfl f_X9_207 dX9_hours_15 ?_
    refine wa_isub C dX9_hours_18 ?_
    refine wa_icmp_le C (tgt := 27) dX9_hours_19 (by decide) h (fun h => ?_) (fun h => ?_)
    · refine wa_iconst C (v := 0) dX9_hours_27 (by decide) ?_
      exact WA.weak (hJ28 _ h) ⟨rfl, ⟨rfl, trivial⟩⟩
    · refine wa_bipush C (v := (-6)) dX9_hours_22 (by decide) ?_
      refine wa_goto C (tgt := 28) dX9_hours_24 (by decide) ?_
      exact WA.weak (hJ28 _ h) ⟨rfl, ⟨rfl, trivial⟩⟩
  · refine wa_bipush C (v := (-4)) dX9_hours_5 (by decide) ?_
    refine wa_goto C (tgt := 28) dX9_hours_7 (by decide) ?_
    exact WA.weak (hJ28 _ h) ⟨rfl, ⟨rfl, trivial⟩⟩

set_option maxRecDepth 20000 in
theorem ok_X9_mailOf {l : Launch} {E : fp_E} {x1 : Int32} {x2 : Int32} {g : fp_G} {K : Int32 → fp_G → Prop} (h : w_X9_mailOf x1 x2 g K) : fp_M l E yX9_mailOf cX9_mailOf 3 ((Option.some Jvm.ClassFile.FieldType.int)) false 2 [.ref 67, .int x1, .int x2] g K := by
  unfold w_X9_mailOf at h
  refine fp_enter rfl [some (.ref 67), some (.int x1), some (.int x2)] (Nat.le_of_ble_eq_true rfl) (fun q hq => hq) (fun Z hE hl hv hK hn hd C => ?_)
  subst hE hl hK
  refine wa_aload_n C (i := 0) dX9_mailOf_0 rfl rfl ?_
  refine wa_iload_n C (i := 1) dX9_mailOf_1 rfl rfl ?_
  refine wa_callVi C lq_67 sh_67 rfl s_X9_329 i_X9_isMail e_X9_isMail dX9_mailOf_2 (ok_X9_isMail h) rfl rfl (Nat.le_of_ble_eq_true rfl) (by rw [hd]; decide) (fun v1 g1 h => ?_)
  refine wa_if_ne C (tgt := 14) dX9_mailOf_5 (by decide) h (fun h => ?_) (fun h => ?_)
  · refine wa_aload_n C (i := 0) dX9_mailOf_8 rfl rfl ?_
    refine wa_iconst C (v := (-1)) dX9_mailOf_9 (by decide) ?_
    refine wa_callVi C lq_67 sh_67 rfl s_X9_192 i_X9_no e_X9_no dX9_mailOf_10 (ok_X9_no h) rfl rfl (Nat.le_of_ble_eq_true rfl) (by rw [hd]; decide) (fun v11 g3 h => ?_)
    exact wa_iret C hv rfl dX9_mailOf_13 h
  · refine wa_iload_n C (i := 2) dX9_mailOf_14 rfl rfl ?_
    refine fp_sw h (fun e0 h => ?_) (fun e0 h => ?_)
    · refine wa_tsIn C (tgt := 60) dX9_mailOf_15 e0 (by decide) (by decide) rfl (by decide) ?_
      refine wa_aload_n C (i := 0) dX9_mailOf_60 rfl rfl ?_
      refine wa_getR C (j := 29) lq_67 sh_67 rfl in_X9 (by decide) rfl f_X9_77 dX9_mailOf_61 ?_
      refine wa_iload_n C (i := 1) dX9_mailOf_64 rfl rfl ?_
      refine wa_iald C lq_90 sh_90 dX9_mailOf_65 h (fun v2 h => ?_)
      exact wa_iret C hv rfl dX9_mailOf_66 h
    refine fp_sw h (fun e1 h => ?_) (fun e1 h => ?_)
    · refine wa_tsIn C (tgt := 67) dX9_mailOf_15 e1 (by decide) (by decide) rfl (by decide) ?_
      refine wa_aload_n C (i := 0) dX9_mailOf_67 rfl rfl ?_
      refine wa_getR C (j := 34) lq_67 sh_67 rfl in_X9 (by decide) rfl f_X9_92 dX9_mailOf_68 ?_
      refine wa_iload_n C (i := 1) dX9_mailOf_71 rfl rfl ?_
      refine wa_iald C lq_95 sh_95 dX9_mailOf_72 h (fun v3 h => ?_)
      exact wa_iret C hv rfl dX9_mailOf_73 h
    refine fp_sw h (fun e2 h => ?_) (fun e2 h => ?_)
    · refine wa_tsIn C (tgt := 74) dX9_mailOf_15 e2 (by decide) (by decide) rfl (by decide) ?_
      refine wa_aload_n C (i := 0) dX9_mailOf_74 rfl rfl ?_
      refine wa_getR C (j := 35) lq_67 sh_67 rfl in_X9 (by decide) rfl f_X9_95 dX9_mailOf_75 ?_
      refine wa_iload_n C (i := 1) dX9_mailOf_78 rfl rfl ?_
      refine wa_iald C lq_96 sh_96 dX9_mailOf_79 h (fun v4 h => ?_)
      exact wa_iret C hv rfl dX9_mailOf_80 h
    refine fp_sw h (fun e3 h => ?_) (fun e3 h => ?_)
    · refine wa_tsIn C (tgt := 81) dX9_mailOf_15 e3 (by decide) (by decide) rfl (by decide) ?_
      refine wa_aload_n C (i := 0) dX9_mailOf_81 rfl rfl ?_
      refine wa_getR C (j := 36) lq_67 sh_67 rfl in_X9 (by decide) rfl f_X9_98 dX9_mailOf_82 ?_
      refine wa_iload_n C (i := 1) dX9_mailOf_85 rfl rfl ?_
      refine wa_iald C lq_97 sh_97 dX9_mailOf_86 h (fun v5 h => ?_)
      exact wa_iret C hv rfl dX9_mailOf_87 h
    refine fp_sw h (fun e4 h => ?_) (fun e4 h => ?_)
    · refine wa_tsIn C (tgt := 88) dX9_mailOf_15 e4 (by decide) (by decide) rfl (by decide) ?_
      refine wa_aload_n C (i := 0) dX9_mailOf_88 rfl rfl ?_
      refine wa_getR C (j := 40) lq_67 sh_67 rfl in_X9 (by decide) rfl f_X9_110 dX9_mailOf_89 ?_
      refine wa_iload_n C (i := 1) dX9_mailOf_92 rfl rfl ?_
      refine wa_zald C lq_101 sh_101 dX9_mailOf_93 h (fun v6 h => ?_)
      refine wa_if_eq C (tgt := 101) dX9_mailOf_94 (by decide) h (fun h => ?_) (fun h => ?_)
      · refine wa_iconst C (v := 0) dX9_mailOf_101 (by decide) ?_
        exact wa_iret C hv rfl dX9_mailOf_102 h
      · refine wa_iconst C (v := 1) dX9_mailOf_97 (by decide) ?_
        refine wa_goto C (tgt := 102) dX9_mailOf_98 (by decide) ?_
        exact wa_iret C hv rfl dX9_mailOf_102 h
    refine fp_sw h (fun e5 h => ?_) (fun e5 h => ?_)
    · refine wa_tsIn C (tgt := 103) dX9_mailOf_15 e5 (by decide) (by decide) rfl (by decide) ?_
      refine wa_aload_n C (i := 0) dX9_mailOf_103 rfl rfl ?_
      refine wa_getR C (j := 37) lq_67 sh_67 rfl in_X9 (by decide) rfl f_X9_101 dX9_mailOf_104 ?_
      refine wa_iload_n C (i := 1) dX9_mailOf_107 rfl rfl ?_
      refine wa_iald C lq_98 sh_98 dX9_mailOf_108 h (fun v7 h => ?_)
      exact wa_iret C hv rfl dX9_mailOf_109 h
    refine fp_sw h (fun e6 h => ?_) (fun e6 h => ?_)
    · refine wa_tsIn C (tgt := 110) dX9_mailOf_15 e6 (by decide) (by decide) rfl (by decide) ?_
      refine wa_aload_n C (i := 0) dX9_mailOf_110 rfl rfl ?_
      refine wa_getR C (j := 38) lq_67 sh_67 rfl in_X9 (by decide) rfl f_X9_104 dX9_mailOf_111 ?_
      refine wa_iload_n C (i := 1) dX9_mailOf_114 rfl rfl ?_
      refine wa_iald C lq_99 sh_99 dX9_mailOf_115 h (fun v8 h => ?_)
      exact wa_iret C hv rfl dX9_mailOf_116 h
    refine fp_sw h (fun e7 h => ?_) (fun e7 h => ?_)
    · refine wa_tsIn C (tgt := 117) dX9_mailOf_15 e7 (by decide) (by decide) rfl (by decide) ?_
      refine wa_aload_n C (i := 0) dX9_mailOf_117 rfl rfl ?_
      refine wa_getR C (j := 41) lq_67 sh_67 rfl in_X9 (by decide) rfl f_X9_113 dX9_mailOf_118 ?_
      refine wa_iload_n C (i := 1) dX9_mailOf_121 rfl rfl ?_
      refine wa_zald C lq_102 sh_102 dX9_mailOf_122 h (fun v9 h => ?_)
      refine wa_if_eq C (tgt := 130) dX9_mailOf_123 (by decide) h (fun h => ?_) (fun h => ?_)
      · refine wa_iconst C (v := 0) dX9_mailOf_130 (by decide) ?_
        exact wa_iret C hv rfl dX9_mailOf_131 h
      · refine wa_iconst C (v := 1) dX9_mailOf_126 (by decide) ?_
        refine wa_goto C (tgt := 131) dX9_mailOf_127 (by decide) ?_
        exact wa_iret C hv rfl dX9_mailOf_131 h
    have z0 := fp_ne (k := 0) (by decide) e0
    have z1 := fp_ne (k := 1) (by decide) e1
    have z2 := fp_ne (k := 2) (by decide) e2
    have z3 := fp_ne (k := 3) (by decide) e3
    have z4 := fp_ne (k := 4) (by decide) e4
    have z5 := fp_ne (k := 5) (by decide) e5
    have z6 := fp_ne (k := 6) (by decide) e6
    have z7 := fp_ne (k := 7) (by decide) e7
    refine wa_tsOut C (tgt := 132) dX9_mailOf_15 (by omega) (by decide) ?_
    refine wa_aload_n C (i := 0) dX9_mailOf_132 rfl rfl ?_
    refine wa_bipush C (v := (-2)) dX9_mailOf_133 (by decide) ?_
    refine wa_callVi C lq_67 sh_67 rfl s_X9_192 i_X9_no e_X9_no dX9_mailOf_135 (ok_X9_no h) rfl rfl (Nat.le_of_ble_eq_true rfl) (by rw [hd]; decide) (fun v10 g2 h => ?_)
    exact wa_iret C hv rfl dX9_mailOf_138 h

set_option maxRecDepth 20000 in
theorem ok_X9_goal {l : Launch} {E : fp_E} {x1 : Int32} {g : fp_G} {K : Int32 → fp_G → Prop} (h : w_X9_goal x1 g K) : fp_M l E yX9_goal cX9_goal 2 ((Option.some Jvm.ClassFile.FieldType.int)) false 5 [.ref 67, .int x1] g K := by
  unfold w_X9_goal at h
  refine fp_enter rfl [some (.ref 67), some (.int x1)] (Nat.le_of_ble_eq_true rfl) (fun q hq => hq) (fun Z hE hl hv hK hn hd C => ?_)
  subst hE hl hK
  refine wa_aload_n C (i := 0) dX9_goal_0 rfl rfl ?_
  refine wa_iload_n C (i := 1) dX9_goal_1 rfl rfl ?_
  refine wa_callVi C lq_67 sh_67 rfl s_X9_329 i_X9_isMail e_X9_isMail dX9_goal_2 (ok_X9_isMail h) rfl rfl (Nat.le_of_ble_eq_true rfl) (by rw [hd]; decide) (fun v1 g1 h => ?_)
  refine wa_if_ne C (tgt := 14) dX9_goal_5 (by decide) h (fun h => ?_) (fun h => ?_)
  · refine wa_aload_n C (i := 0) dX9_goal_8 rfl rfl ?_
    refine wa_iconst C (v := (-1)) dX9_goal_9 (by decide) ?_
    refine wa_callVi C lq_67 sh_67 rfl s_X9_192 i_X9_no e_X9_no dX9_goal_10 (ok_X9_no h) rfl rfl (Nat.le_of_ble_eq_true rfl) (by rw [hd]; decide) (fun v6 g5 h => ?_)
    exact wa_iret C hv rfl dX9_goal_13 h
  · refine wa_aload_n C (i := 0) dX9_goal_14 rfl rfl ?_
    refine wa_getR C (j := 34) lq_67 sh_67 rfl in_X9 (by decide) rfl f_X9_92 dX9_goal_15 ?_
    refine wa_iload_n C (i := 1) dX9_goal_18 rfl rfl ?_
    refine wa_iald C lq_95 sh_95 dX9_goal_19 h (fun v2 h => ?_)
    refine wa_if_eq C (tgt := 30) dX9_goal_20 (by decide) h (fun h => ?_) (fun h => ?_)
    · refine wa_aload_n C (i := 0) dX9_goal_30 rfl rfl ?_
      refine wa_callVv C lq_67 sh_67 rfl s_X9_214 i_X9_findFar e_X9_findFar dX9_goal_31 (ok_X9_findFar h) rfl rfl (Nat.le_of_ble_eq_true rfl) (by rw [hd]; decide) (fun g2 h => ?_)
      refine wa_aload_n C (i := 0) dX9_goal_34 rfl rfl ?_
      refine wa_iload_n C (i := 1) dX9_goal_35 rfl rfl ?_
      refine wa_aload_n C (i := 0) dX9_goal_36 rfl rfl ?_
      refine wa_getI C (j := 15) lq_67 sh_67 rfl in_X9 (by decide) rfl f_X9_207 dX9_goal_37 ?_
      refine wa_callVi C lq_67 sh_67 rfl s_X9_344 i_X9_goalOf e_X9_goalOf dX9_goal_40 (ok_X9_goalOf h) rfl rfl (Nat.le_of_ble_eq_true rfl) (by rw [hd]; decide) (fun v4 g3 h => ?_)
      exact wa_iret C hv rfl dX9_goal_43 h
    · refine wa_aload_n C (i := 0) dX9_goal_23 rfl rfl ?_
      refine wa_bipush C (v := (-3)) dX9_goal_24 (by decide) ?_
      refine wa_callVi C lq_67 sh_67 rfl s_X9_192 i_X9_no e_X9_no dX9_goal_26 (ok_X9_no h) rfl rfl (Nat.le_of_ble_eq_true rfl) (by rw [hd]; decide) (fun v5 g4 h => ?_)
      exact wa_iret C hv rfl dX9_goal_29 h

set_option maxRecDepth 20000 in
theorem ok_X9_next {l : Launch} {E : fp_E} {x1 : Int32} {g : fp_G} {K : Int32 → fp_G → Prop} (h : w_X9_next x1 g K) : fp_M l E yX9_next cX9_next 2 ((Option.some Jvm.ClassFile.FieldType.int)) false 5 [.ref 67, .int x1] g K := by
  unfold w_X9_next at h
  refine fp_enter rfl [some (.ref 67), some (.int x1)] (Nat.le_of_ble_eq_true rfl) (fun q hq => hq) (fun Z hE hl hv hK hn hd C => ?_)
  subst hE hl hK
  refine wa_aload_n C (i := 0) dX9_next_0 rfl rfl ?_
  refine wa_iload_n C (i := 1) dX9_next_1 rfl rfl ?_
  refine wa_callVi C lq_67 sh_67 rfl s_X9_329 i_X9_isMail e_X9_isMail dX9_next_2 (ok_X9_isMail h) rfl rfl (Nat.le_of_ble_eq_true rfl) (by rw [hd]; decide) (fun v1 g1 h => ?_)
  refine wa_if_ne C (tgt := 14) dX9_next_5 (by decide) h (fun h => ?_) (fun h => ?_)
  · refine wa_aload_n C (i := 0) dX9_next_8 rfl rfl ?_
    refine wa_iconst C (v := (-1)) dX9_next_9 (by decide) ?_
    refine wa_callVi C lq_67 sh_67 rfl s_X9_192 i_X9_no e_X9_no dX9_next_10 (ok_X9_no h) rfl rfl (Nat.le_of_ble_eq_true rfl) (by rw [hd]; decide) (fun v8 g6 h => ?_)
    exact wa_iret C hv rfl dX9_next_13 h
  · refine wa_aload_n C (i := 0) dX9_next_14 rfl rfl ?_
    refine wa_getR C (j := 34) lq_67 sh_67 rfl in_X9 (by decide) rfl f_X9_92 dX9_next_15 ?_
    refine wa_iload_n C (i := 1) dX9_next_18 rfl rfl ?_
    refine wa_iald C lq_95 sh_95 dX9_next_19 h (fun v2 h => ?_)
    refine wa_if_eq C (tgt := 30) dX9_next_20 (by decide) h (fun h => ?_) (fun h => ?_)
    · refine wa_aload_n C (i := 0) dX9_next_30 rfl rfl ?_
      refine wa_callVv C lq_67 sh_67 rfl s_X9_214 i_X9_findFar e_X9_findFar dX9_next_31 (ok_X9_findFar h) rfl rfl (Nat.le_of_ble_eq_true rfl) (by rw [hd]; decide) (fun g2 h => ?_)
      refine wa_aload_n C (i := 0) dX9_next_34 rfl rfl ?_
      refine wa_aload_n C (i := 0) dX9_next_35 rfl rfl ?_
      refine wa_getR C (j := 35) lq_67 sh_67 rfl in_X9 (by decide) rfl f_X9_95 dX9_next_36 ?_
      refine wa_iload_n C (i := 1) dX9_next_39 rfl rfl ?_
      refine wa_iald C lq_96 sh_96 dX9_next_40 h (fun v4 h => ?_)
      refine wa_aload_n C (i := 0) dX9_next_41 rfl rfl ?_
      refine wa_iload_n C (i := 1) dX9_next_42 rfl rfl ?_
      refine wa_aload_n C (i := 0) dX9_next_43 rfl rfl ?_
      refine wa_getI C (j := 15) lq_67 sh_67 rfl in_X9 (by decide) rfl f_X9_207 dX9_next_44 ?_
      refine wa_callVi C lq_67 sh_67 rfl s_X9_344 i_X9_goalOf e_X9_goalOf dX9_next_47 (ok_X9_goalOf h) rfl rfl (Nat.le_of_ble_eq_true rfl) (by rw [hd]; decide) (fun v5 g3 h => ?_)
      refine wa_callVi C lq_67 sh_67 rfl s_X9_347 i_X9_wayOn e_X9_wayOn dX9_next_50 (ok_X9_wayOn h) rfl rfl (Nat.le_of_ble_eq_true rfl) (by rw [hd]; decide) (fun v6 g4 h => ?_)
      exact wa_iret C hv rfl dX9_next_53 h
    · refine wa_aload_n C (i := 0) dX9_next_23 rfl rfl ?_
      refine wa_bipush C (v := (-3)) dX9_next_24 (by decide) ?_
      refine wa_callVi C lq_67 sh_67 rfl s_X9_192 i_X9_no e_X9_no dX9_next_26 (ok_X9_no h) rfl rfl (Nat.le_of_ble_eq_true rfl) (by rw [hd]; decide) (fun v7 g5 h => ?_)
      exact wa_iret C hv rfl dX9_next_29 h

set_option maxRecDepth 20000 in
theorem ok_X9_traced {l : Launch} {E : fp_E} {x1 : Int32} {g : fp_G} {K : Int32 → fp_G → Prop} (h : w_X9_traced x1 g K) : fp_M l E yX9_traced cX9_traced 2 ((Option.some Jvm.ClassFile.FieldType.int)) false 1 [.ref 67, .int x1] g K := by
  unfold w_X9_traced at h
  refine fp_enter rfl [some (.ref 67), some (.int x1)] (Nat.le_of_ble_eq_true rfl) (fun q hq => hq) (fun Z hE hl hv hK hn hd C => ?_)
  subst hE hl hK
  refine wa_aload_n C (i := 0) dX9_traced_0 rfl rfl ?_
  refine wa_getR C (j := 38) lq_67 sh_67 rfl in_X9 (by decide) rfl f_X9_104 dX9_traced_1 ?_
  refine wa_iload_n C (i := 1) dX9_traced_4 rfl rfl ?_
  refine wa_iald C lq_99 sh_99 dX9_traced_5 h (fun v1 h => ?_)
  refine wa_bipush C (v := 40) dX9_traced_6 (by decide) ?_
  refine wa_icmp_ge C (tgt := 20) dX9_traced_8 (by decide) h (fun h => ?_) (fun h => ?_)
  · refine wa_bipush C (v := 40) dX9_traced_20 (by decide) ?_
    exact wa_iret C hv rfl dX9_traced_22 h
  · refine wa_aload_n C (i := 0) dX9_traced_11 rfl rfl ?_
    refine wa_getR C (j := 38) lq_67 sh_67 rfl in_X9 (by decide) rfl f_X9_104 dX9_traced_12 ?_
    refine wa_iload_n C (i := 1) dX9_traced_15 rfl rfl ?_
    refine wa_iald C lq_99 sh_99 dX9_traced_16 h (fun v2 h => ?_)
    refine wa_goto C (tgt := 22) dX9_traced_17 (by decide) ?_
    exact wa_iret C hv rfl dX9_traced_22 h

set_option maxRecDepth 20000 in
theorem ok_X9_trace {l : Launch} {E : fp_E} {x1 : Int32} {x2 : Int32} {g : fp_G} {K : Int32 → fp_G → Prop} (h : w_X9_trace x1 x2 g K) : fp_M l E yX9_trace cX9_trace 3 ((Option.some Jvm.ClassFile.FieldType.int)) false 2 [.ref 67, .int x1, .int x2] g K := by
  unfold w_X9_trace at h
  refine fp_enter rfl [some (.ref 67), some (.int x1), some (.int x2)] (Nat.le_of_ble_eq_true rfl) (fun q hq => hq) (fun Z hE hl hv hK hn hd C => ?_)
  subst hE hl hK
  refine wa_aload_n C (i := 0) dX9_trace_0 rfl rfl ?_
  refine wa_iload_n C (i := 1) dX9_trace_1 rfl rfl ?_
  refine wa_callVi C lq_67 sh_67 rfl s_X9_329 i_X9_isMail e_X9_isMail dX9_trace_2 (ok_X9_isMail h) rfl rfl (Nat.le_of_ble_eq_true rfl) (by rw [hd]; decide) (fun v1 g1 h => ?_)
  refine wa_if_ne C (tgt := 14) dX9_trace_5 (by decide) h (fun h => ?_) (fun h => ?_)
  · refine wa_aload_n C (i := 0) dX9_trace_8 rfl rfl ?_
    refine wa_iconst C (v := (-1)) dX9_trace_9 (by decide) ?_
    refine wa_callVi C lq_67 sh_67 rfl s_X9_192 i_X9_no e_X9_no dX9_trace_10 (ok_X9_no h) rfl rfl (Nat.le_of_ble_eq_true rfl) (by rw [hd]; decide) (fun v5 g4 h => ?_)
    exact wa_iret C hv rfl dX9_trace_13 h
  · refine wa_iload_n C (i := 2) dX9_trace_14 rfl rfl ?_
    refine wa_i2l C dX9_trace_15 ?_
    refine wa_lconst C (v := 0) dX9_trace_16 (by decide) ?_
    refine wa_aload_n C (i := 0) dX9_trace_17 rfl rfl ?_
    refine wa_iload_n C (i := 1) dX9_trace_18 rfl rfl ?_
    refine wa_callVi C lq_67 sh_67 rfl s_X9_363 i_X9_traced e_X9_traced dX9_trace_19 (ok_X9_traced h) rfl rfl (Nat.le_of_ble_eq_true rfl) (by rw [hd]; decide) (fun v2 g2 h => ?_)
    refine wa_iconst C (v := 1) dX9_trace_22 (by decide) ?_
    refine wa_isub C dX9_trace_23 ?_
    refine wa_i2l C dX9_trace_24 ?_
    refine wa_callSi C s_X9_203 t_X9_isIn dX9_trace_25 (ok_X9_isIn h) rfl rfl (Nat.le_of_ble_eq_true rfl) (by rw [hd]; decide) (fun v3 g3 h => ?_)
    refine wa_if_eq C (tgt := 45) dX9_trace_28 (by decide) h (fun h => ?_) (fun h => ?_)
    · refine wa_bipush C (v := (-9)) dX9_trace_45 (by decide) ?_
      exact wa_iret C hv rfl dX9_trace_47 h
    · refine wa_aload_n C (i := 0) dX9_trace_31 rfl rfl ?_
      refine wa_getR C (j := 39) lq_67 sh_67 rfl in_X9 (by decide) rfl f_X9_107 dX9_trace_32 ?_
      refine wa_bipush C (v := 40) dX9_trace_35 (by decide) ?_
      refine wa_iload_n C (i := 1) dX9_trace_37 rfl rfl ?_
      refine wa_imul C dX9_trace_38 ?_
      refine wa_iload_n C (i := 2) dX9_trace_39 rfl rfl ?_
      refine wa_iadd C dX9_trace_40 ?_
      refine wa_iald C lq_100 sh_100 dX9_trace_41 h (fun v4 h => ?_)
      refine wa_goto C (tgt := 47) dX9_trace_42 (by decide) ?_
      exact wa_iret C hv rfl dX9_trace_47 h
