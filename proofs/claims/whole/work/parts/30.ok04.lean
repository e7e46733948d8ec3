set_option maxRecDepth 20000 in
theorem ok_X6_manIsAt {l : Launch} {E : fp_E} {x1 : Int32} {x2 : Int32} {g : fp_G} {K : Int32 → fp_G → Prop} (h : w_X6_manIsAt x1 x2 g K) : fp_M l E yX6_manIsAt cX6_manIsAt 4 ((Option.some Jvm.ClassFile.FieldType.int)) false 2 [.ref 18, .int x1, .int x2] g K := by
  unfold w_X6_manIsAt at h
  refine fp_enter rfl [some (.ref 18), some (.int x1), some (.int x2), none] (Nat.le_of_ble_eq_true rfl) (fun q hq => hq) (fun Z hE hl hv hK hn hd C => ?_)
  subst hE hl hK
  refine wa_aload_n C (i := 0) dX6_manIsAt_0 rfl rfl ?_
  refine wa_iload_n C (i := 1) dX6_manIsAt_1 rfl rfl ?_
  refine wa_iload_n C (i := 2) dX6_manIsAt_2 rfl rfl ?_
  refine wa_iconst C (v := 0) dX6_manIsAt_3 (by decide) ?_
  refine wa_callVi C lq_18 sh_18 rfl s_X6_52 i_X6_lastState e_X6_lastState dX6_manIsAt_4 (ok_X6_lastState h) rfl rfl (Nat.le_of_ble_eq_true rfl) (by rw [hd]; decide) (fun v1 g1 h => ?_)
  refine wa_istore_n C (i := 3) dX6_manIsAt_7 rfl (by rw [hn]; decide) rfl rfl ?_
  refine wa_iload_n C (i := 3) dX6_manIsAt_8 rfl rfl ?_
  refine fp_k0 (Q := WA Z 21 [some (.ref 18), some (.int x1), some (.int x2), none] [] g1) h (fun  h => ?_) (fun J21 hJ21 h => ?_)
  · refine wa_aload_n C (i := 0) dX6_manIsAt_21 rfl rfl ?_
    refine wa_aload_n C (i := 0) dX6_manIsAt_22 rfl rfl ?_
    refine wa_getR C (j := 5) lq_18 sh_18 rfl in_X6 (by decide) rfl f_X6_24 dX6_manIsAt_23 ?_
    refine wa_iload_n C (i := 1) dX6_manIsAt_26 rfl rfl ?_
    refine wa_iald C lq_23 sh_23 dX6_manIsAt_27 h (fun v2 h => ?_)
    refine wa_iload_n C (i := 2) dX6_manIsAt_28 rfl rfl ?_
    refine wa_iconst C (v := 0) dX6_manIsAt_29 (by decide) ?_
    refine wa_callVi C lq_18 sh_18 rfl s_X6_56 i_X6_unitAt e_X6_unitAt dX6_manIsAt_30 (ok_X6_unitAt h) rfl rfl (Nat.le_of_ble_eq_true rfl) (by rw [hd]; decide) (fun v3 g2 h => ?_)
    exact wa_iret C hv rfl dX6_manIsAt_33 h
  refine wa_if_lt C (tgt := 21) dX6_manIsAt_9 (by decide) h (fun h => ?_) (fun h => ?_)
  · exact WA.weak (hJ21  h) ⟨rfl, ⟨rfl, ⟨rfl, trivial⟩⟩⟩
  · refine wa_aload_n C (i := 0) dX6_manIsAt_12 rfl rfl ?_
    refine wa_getR C (j := 9) lq_18 sh_18 rfl in_X6 (by decide) rfl f_X6_33 dX6_manIsAt_13 ?_
    refine wa_iload_n C (i := 3) dX6_manIsAt_16 rfl rfl ?_
    refine wa_iald C lq_26 sh_26 dX6_manIsAt_17 h (fun v4 h => ?_)
    refine wa_if_ne C (tgt := 34) dX6_manIsAt_18 (by decide) h (fun h => ?_) (fun h => ?_)
    · exact WA.weak (hJ21  h) ⟨rfl, ⟨rfl, ⟨rfl, trivial⟩⟩⟩
    · refine wa_aload_n C (i := 0) dX6_manIsAt_34 rfl rfl ?_
      refine wa_getR C (j := 9) lq_18 sh_18 rfl in_X6 (by decide) rfl f_X6_33 dX6_manIsAt_35 ?_
      refine wa_iload_n C (i := 3) dX6_manIsAt_38 rfl rfl ?_
      refine wa_iald C lq_26 sh_26 dX6_manIsAt_39 h (fun v5 h => ?_)
      refine wa_iconst C (v := 1) dX6_manIsAt_40 (by decide) ?_
      refine wa_icmp_ne C (tgt := 53) dX6_manIsAt_41 (by decide) h (fun h => ?_) (fun h => ?_)
      · refine wa_aload_n C (i := 0) dX6_manIsAt_44 rfl rfl ?_
        refine wa_getR C (j := 10) lq_18 sh_18 rfl in_X6 (by decide) rfl f_X6_36 dX6_manIsAt_45 ?_
        refine wa_iload_n C (i := 3) dX6_manIsAt_48 rfl rfl ?_
        refine wa_iald C lq_27 sh_27 dX6_manIsAt_49 h (fun v6 h => ?_)
        refine wa_goto C (tgt := 55) dX6_manIsAt_50 (by decide) ?_
        exact wa_iret C hv rfl dX6_manIsAt_55 h
      · refine wa_bipush C (v := (-9)) dX6_manIsAt_53 (by decide) ?_
        exact wa_iret C hv rfl dX6_manIsAt_55 h

set_option maxRecDepth 20000 in
theorem ok_X4_give {l : Launch} {E : fp_E} {c : Nat} (hc : fp_isC c) {x2 : Int32} {x3 : Int32} {g : fp_G} {K : Int32 → fp_G → Prop} (h : w_X4_give c x2 x3 g K) : fp_M l E yX4_give cX4_give 5 ((Option.none : Option Jvm.ClassFile.FieldType)) true 2 [.ref 2, .ref c, .int x2, .int x3] g K := by
  unfold w_X4_give at h
  refine fp_enter rfl [some (.ref 2), some (.ref c), some (.int x2), some (.int x3), none] (Nat.le_of_ble_eq_true rfl) (fun q hq => hq) (fun Z hE hl hv hK hn hd C => ?_)
  subst hE hl hK
  refine wa_aload_n C (i := 0) dX4_give_0 rfl rfl ?_
  refine wa_getR C (j := 3) lq_2 sh_2 rfl in_X4 (by decide) rfl f_X4_35 dX4_give_1 ?_
  refine wa_getR C (j := 0) lq_37 sh_37 rfl in_X1 (by decide) rfl f_X4_140 dX4_give_4 ?_
  refine wa_iload_n C (i := 2) dX4_give_7 rfl rfl ?_
  refine wa_iald C lq_38 sh_38 dX4_give_8 h (fun v1 h => ?_)
  refine wa_iconst C (v := 1) dX4_give_9 (by decide) ?_
  refine fp_k1 (Q := fun z0j18 => WA Z 18 [some (.ref 2), some (.ref c), some (.int x2), some (.int x3), none] [.int z0j18] g) h (fun z0j18 h => ?_) (fun J18 hJ18 h => ?_)
  · refine wa_istore C (i := 4) dX4_give_18 (by rw [hn]; decide) rfl rfl ?_
    refine wa_aload_n C (i := 1) dX4_give_20 rfl rfl ?_
    refine wa_getR C (j := 6) (ltC0 hc) (shC hc) rfl in_X0 (by decide) rfl f_X4_143 dX4_give_21 ?_
    refine wa_iload_n C (i := 2) dX4_give_24 rfl rfl ?_
    refine wa_iload C dX4_give_25 rfl ?_
    refine fp_k1 (Q := fun z0j58 => WA Z 58 [none, some (.ref c), some (.int x2), some (.int x3), none] [.int z0j58, .int x2, .ref (c + 7)] g) h (fun z0j58 h => ?_) (fun J58 hJ58 h => ?_)
    · refine wa_zast C (ltC hc (by decide)) (shC_7 hc) dX4_give_58 h (fun g1 h => ?_)
      refine wa_aload_n C (i := 1) dX4_give_59 rfl rfl ?_
      refine wa_iload_n C (i := 2) dX4_give_60 rfl rfl ?_
      refine wa_iconst C (v := 2) dX4_give_61 (by decide) ?_
      refine wa_iload_n C (i := 3) dX4_give_62 rfl rfl ?_
      refine wa_callVv C (ltC0 hc) (shC hc) rfl s_X4_105 i_X0_finish e_X0_finish dX4_give_63 (ok_X0_finish hc h) rfl rfl (Nat.le_of_ble_eq_true rfl) (by rw [hd]; decide) (fun g2 h => ?_)
      exact wa_vret C hv rfl dX4_give_66 h
    refine fp_k0 (Q := WA Z 57 [none, some (.ref c), some (.int x2), some (.int x3), none] [.int x2, .ref (c + 7)] g) h (fun  h => ?_) (fun J57 hJ57 h => ?_)
    · refine wa_iconst C (v := 0) dX4_give_57 (by decide) ?_
      exact WA.weak (hJ58 _ h) ⟨rfl, ⟨rfl, ⟨rfl, trivial⟩⟩⟩
    refine wa_if_eq C (tgt := 57) dX4_give_27 (by decide) h (fun h => ?_) (fun h => ?_)
    · exact WA.weak (hJ57  h) ⟨rfl, ⟨rfl, ⟨rfl, trivial⟩⟩⟩
    · refine wa_iload_n C (i := 3) dX4_give_30 rfl rfl ?_
      refine wa_aload_n C (i := 0) dX4_give_31 rfl rfl ?_
      refine wa_getR C (j := 3) lq_2 sh_2 rfl in_X4 (by decide) rfl f_X4_35 dX4_give_32 ?_
      refine wa_getR C (j := 4) lq_37 sh_37 rfl in_X1 (by decide) rfl f_X4_146 dX4_give_35 ?_
      refine wa_iload_n C (i := 2) dX4_give_38 rfl rfl ?_
      refine wa_iald C lq_42 sh_42 dX4_give_39 h (fun v3 h => ?_)
      refine wa_isub C dX4_give_40 ?_
      refine wa_aload_n C (i := 0) dX4_give_41 rfl rfl ?_
      refine wa_getR C (j := 3) lq_2 sh_2 rfl in_X4 (by decide) rfl f_X4_35 dX4_give_42 ?_
      refine wa_getR C (j := 3) lq_37 sh_37 rfl in_X1 (by decide) rfl f_X4_149 dX4_give_45 ?_
      refine wa_iload_n C (i := 2) dX4_give_48 rfl rfl ?_
      refine wa_iald C lq_41 sh_41 dX4_give_49 h (fun v4 h => ?_)
      refine wa_icmp_le C (tgt := 57) dX4_give_50 (by decide) h (fun h => ?_) (fun h => ?_)
      · exact WA.weak (hJ57  h) ⟨rfl, ⟨rfl, ⟨rfl, trivial⟩⟩⟩
      · refine wa_iconst C (v := 1) dX4_give_53 (by decide) ?_
        refine wa_goto C (tgt := 58) dX4_give_54 (by decide) ?_
        exact WA.weak (hJ58 _ h) ⟨rfl, ⟨rfl, ⟨rfl, trivial⟩⟩⟩
  refine wa_icmp_ne C (tgt := 17) dX4_give_10 (by decide) h (fun h => ?_) (fun h => ?_)
  · refine wa_iconst C (v := 1) dX4_give_13 (by decide) ?_
    refine wa_goto C (tgt := 18) dX4_give_14 (by decide) ?_
    exact WA.weak (hJ18 _ h) ⟨rfl, ⟨rfl, ⟨rfl, ⟨rfl, trivial⟩⟩⟩⟩
  · refine wa_iconst C (v := 0) dX4_give_17 (by decide) ?_
    exact WA.weak (hJ18 _ h) ⟨rfl, ⟨rfl, ⟨rfl, ⟨rfl, trivial⟩⟩⟩⟩

set_option maxRecDepth 20000 in
theorem ok_X4_sendOn {l : Launch} {E : fp_E} {c : Nat} (hc : fp_isC c) {x2 : Int32} {x3 : Int32} {x4 : Int32} {g : fp_G} {K : Int32 → fp_G → Prop} (h : w_X4_sendOn c x2 x3 x4 g K) : fp_M l E yX4_sendOn cX4_sendOn 7 ((Option.none : Option Jvm.ClassFile.FieldType)) true 3 [.ref 2, .ref c, .int x2, .int x3, .int x4] g K := by
  unfold w_X4_sendOn at h
  refine fp_enter rfl [some (.ref 2), some (.ref c), some (.int x2), some (.int x3), some (.int x4), none, none] (Nat.le_of_ble_eq_true rfl) (fun q hq => hq) (fun Z hE hl hv hK hn hd C => ?_)
  subst hE hl hK
  refine wa_aload_n C (i := 1) dX4_sendOn_0 rfl rfl ?_
  refine wa_getR C (j := 1) (ltC0 hc) (shC hc) rfl in_X0 (by decide) rfl f_X4_82 dX4_sendOn_1 ?_
  refine wa_iload_n C (i := 2) dX4_sendOn_4 rfl rfl ?_
  refine wa_iald C (ltC hc (by decide)) (shC_2 hc) dX4_sendOn_5 h (fun v1 h => ?_)
  refine wa_istore C (i := 5) dX4_sendOn_6 (by rw [hn]; decide) rfl rfl ?_
  refine wa_aload_n C (i := 0) dX4_sendOn_8 rfl rfl ?_
  refine wa_getR C (j := 0) lq_2 sh_2 rfl in_X4 (by decide) rfl f_X4_12 dX4_sendOn_9 ?_
  refine wa_iload C dX4_sendOn_12 rfl ?_
  refine wa_iload_n C (i := 3) dX4_sendOn_14 rfl rfl ?_
  refine wa_callVi C lq_6 sh_6 rfl s_X4_152 i_X2_wayTo e_X2_wayTo dX4_sendOn_15 (ok_X2_wayTo h) rfl rfl (Nat.le_of_ble_eq_true rfl) (by rw [hd]; decide) (fun v2 g1 h => ?_)
  refine wa_istore C (i := 6) dX4_sendOn_18 (by rw [hn]; decide) rfl rfl ?_
  refine wa_aload_n C (i := 0) dX4_sendOn_20 rfl rfl ?_
  refine wa_getR C (j := 0) lq_2 sh_2 rfl in_X4 (by decide) rfl f_X4_12 dX4_sendOn_21 ?_
  refine wa_iload C dX4_sendOn_24 rfl ?_
  refine wa_callVi C lq_6 sh_6 rfl s_X4_155 i_X2_hasWay e_X2_hasWay dX4_sendOn_26 (ok_X2_hasWay h) rfl rfl (Nat.le_of_ble_eq_true rfl) (by rw [hd]; decide) (fun v3 g2 h => ?_)
  refine wa_if_eq C (tgt := 75) dX4_sendOn_29 (by decide) h (fun h => ?_) (fun h => ?_)
  · exact wa_vret C hv rfl dX4_sendOn_75 h
  · refine wa_aload_n C (i := 0) dX4_sendOn_32 rfl rfl ?_
    refine wa_getR C (j := 0) lq_2 sh_2 rfl in_X4 (by decide) rfl f_X4_12 dX4_sendOn_33 ?_
    refine wa_iload C dX4_sendOn_36 rfl ?_
    refine wa_iload C dX4_sendOn_38 rfl ?_
    refine wa_callVi C lq_6 sh_6 rfl s_X4_159 i_X2_leaves e_X2_leaves dX4_sendOn_40 (ok_X2_leaves h) rfl rfl (Nat.le_of_ble_eq_true rfl) (by rw [hd]; decide) (fun v4 g3 h => ?_)
    refine wa_if_eq C (tgt := 75) dX4_sendOn_43 (by decide) h (fun h => ?_) (fun h => ?_)
    · exact wa_vret C hv rfl dX4_sendOn_75 h
    · refine wa_aload_n C (i := 1) dX4_sendOn_46 rfl rfl ?_
      refine wa_iload_n C (i := 2) dX4_sendOn_47 rfl rfl ?_
      refine wa_aload_n C (i := 0) dX4_sendOn_48 rfl rfl ?_
      refine wa_getR C (j := 0) lq_2 sh_2 rfl in_X4 (by decide) rfl f_X4_12 dX4_sendOn_49 ?_
      refine wa_iload C dX4_sendOn_52 rfl ?_
      refine wa_iload C dX4_sendOn_54 rfl ?_
      refine wa_callVi C lq_6 sh_6 rfl s_X4_163 i_X2_otherEnd e_X2_otherEnd dX4_sendOn_56 (ok_X2_otherEnd h) rfl rfl (Nat.le_of_ble_eq_true rfl) (by rw [hd]; decide) (fun v5 g4 h => ?_)
      refine wa_iload C dX4_sendOn_59 rfl ?_
      refine wa_aload_n C (i := 0) dX4_sendOn_61 rfl rfl ?_
      refine wa_getR C (j := 0) lq_2 sh_2 rfl in_X4 (by decide) rfl f_X4_12 dX4_sendOn_62 ?_
      refine wa_getR C (j := 6) lq_6 sh_6 rfl in_X2 (by decide) rfl f_X4_166 dX4_sendOn_65 ?_
      refine wa_iload C dX4_sendOn_68 rfl ?_
      refine wa_iald C lq_12 sh_12 dX4_sendOn_70 h (fun v6 h => ?_)
      refine wa_iadd C dX4_sendOn_71 ?_
      refine wa_callVv C (ltC0 hc) (shC hc) rfl s_X4_168 i_X0_send e_X0_send dX4_sendOn_72 (ok_X0_send hc h) rfl rfl (Nat.le_of_ble_eq_true rfl) (by rw [hd]; decide) (fun g5 h => ?_)
      exact wa_vret C hv rfl dX4_sendOn_75 h

set_option maxRecDepth 20000 in
theorem ok_X4_handle {l : Launch} {E : fp_E} {c : Nat} (hc : fp_isC c) {x2 : Int32} {x3 : Int32} {g : fp_G} {K : Int32 → fp_G → Prop} (h : w_X4_handle c x2 x3 g K) : fp_M l E yX4_handle cX4_handle 6 ((Option.none : Option Jvm.ClassFile.FieldType)) true 4 [.ref 2, .ref c, .int x2, .int x3] g K := by
  unfold w_X4_handle at h
  refine fp_enter rfl [some (.ref 2), some (.ref c), some (.int x2), some (.int x3), none, none] (Nat.le_of_ble_eq_true rfl) (fun q hq => hq) (fun Z hE hl hv hK hn hd C => ?_)
  subst hE hl hK
  refine wa_aload_n C (i := 1) dX4_handle_0 rfl rfl ?_
  refine wa_getR C (j := 1) (ltC0 hc) (shC hc) rfl in_X0 (by decide) rfl f_X4_82 dX4_handle_1 ?_
  refine wa_iload_n C (i := 2) dX4_handle_4 rfl rfl ?_
  refine wa_iald C (ltC hc (by decide)) (shC_2 hc) dX4_handle_5 h (fun v1 h => ?_)
  refine wa_istore C (i := 4) dX4_handle_6 (by rw [hn]; decide) rfl rfl ?_
  refine wa_aload_n C (i := 0) dX4_handle_8 rfl rfl ?_
  refine wa_aload_n C (i := 1) dX4_handle_9 rfl rfl ?_
  refine wa_iload_n C (i := 2) dX4_handle_10 rfl rfl ?_
  refine wa_iload_n C (i := 3) dX4_handle_11 rfl rfl ?_
  refine wa_callVi C lq_2 sh_2 rfl s_X4_122 i_X4_goalOf e_X4_goalOf dX4_handle_12 (ok_X4_goalOf hc h) rfl rfl (Nat.le_of_ble_eq_true rfl) (by rw [hd]; decide) (fun v2 g1 h => ?_)
  refine wa_istore C (i := 5) dX4_handle_15 (by rw [hn]; decide) rfl rfl ?_
  refine wa_iload C dX4_handle_17 rfl ?_
  refine wa_iload C dX4_handle_19 rfl ?_
  refine fp_k0 (Q := WA Z 43 [some (.ref 2), some (.ref c), some (.int x2), some (.int x3), some (.int v1), some (.int v2)] [] g1) h (fun  h => ?_) (fun J43 hJ43 h => ?_)
  · refine wa_iload C dX4_handle_43 rfl ?_
    refine wa_iload C dX4_handle_45 rfl ?_
    refine fp_j0 (Q := fun g2 => WA Z 82 [some (.ref 2), some (.ref c), some (.int x2), some (.int x3), some (.int v1), some (.int v2)] [] g2) h (fun g2 h => ?_) (fun J82 hJ82 h => ?_)
    · refine wa_iload C dX4_handle_82 rfl ?_
      refine wa_iload C dX4_handle_84 rfl ?_
      refine fp_k0 (Q := WA Z 96 [some (.ref 2), some (.ref c), some (.int x2), some (.int x3), none, none] [] g2) h (fun  h => ?_) (fun J96 hJ96 h => ?_)
      · refine wa_iload_n C (i := 3) dX4_handle_96 rfl rfl ?_
        refine wa_aload_n C (i := 1) dX4_handle_97 rfl rfl ?_
        refine wa_getR C (j := 2) (ltC0 hc) (shC hc) rfl in_X0 (by decide) rfl f_X4_95 dX4_handle_98 ?_
        refine wa_iload_n C (i := 2) dX4_handle_101 rfl rfl ?_
        refine wa_iald C (ltC hc (by decide)) (shC_3 hc) dX4_handle_102 h (fun v3 h => ?_)
        refine wa_isub C dX4_handle_103 ?_
        refine wa_aload_n C (i := 0) dX4_handle_104 rfl rfl ?_
        refine wa_getI C (j := 7) lq_2 sh_2 rfl in_X4 (by decide) rfl f_X4_59 dX4_handle_105 ?_
        refine wa_icmp_lt C (tgt := 129) dX4_handle_108 (by decide) h (fun h => ?_) (fun h => ?_)
        · exact wa_vret C hv rfl dX4_handle_129 h
        · refine wa_aload_n C (i := 1) dX4_handle_111 rfl rfl ?_
          refine wa_iload_n C (i := 2) dX4_handle_112 rfl rfl ?_
          refine wa_iconst C (v := 1) dX4_handle_113 (by decide) ?_
          refine wa_callVv C (ltC0 hc) (shC hc) rfl s_X4_119 i_X0_turn e_X0_turn dX4_handle_114 (ok_X0_turn hc h) rfl rfl (Nat.le_of_ble_eq_true rfl) (by rw [hd]; decide) (fun g3 h => ?_)
          refine wa_goto C (tgt := 129) dX4_handle_117 (by decide) ?_
          exact wa_vret C hv rfl dX4_handle_129 h
      refine wa_icmp_eq C (tgt := 96) dX4_handle_86 (by decide) h (fun h => ?_) (fun h => ?_)
      · exact WA.weak (hJ96  h) ⟨rfl, ⟨rfl, ⟨rfl, ⟨rfl, trivial⟩⟩⟩⟩
      · refine wa_iload C dX4_handle_89 rfl ?_
        refine wa_bipush C (v := (-9)) dX4_handle_91 (by decide) ?_
        refine wa_icmp_ne C (tgt := 120) dX4_handle_93 (by decide) h (fun h => ?_) (fun h => ?_)
        · exact WA.weak (hJ96  h) ⟨rfl, ⟨rfl, ⟨rfl, ⟨rfl, trivial⟩⟩⟩⟩
        · refine wa_aload_n C (i := 0) dX4_handle_120 rfl rfl ?_
          refine wa_aload_n C (i := 1) dX4_handle_121 rfl rfl ?_
          refine wa_iload_n C (i := 2) dX4_handle_122 rfl rfl ?_
          refine wa_iload C dX4_handle_123 rfl ?_
          refine wa_iload_n C (i := 3) dX4_handle_125 rfl rfl ?_
          refine wa_callVv C lq_2 sh_2 rfl s_X4_136 i_X4_sendOn e_X4_sendOn dX4_handle_126 (ok_X4_sendOn hc h) rfl rfl (Nat.le_of_ble_eq_true rfl) (by rw [hd]; decide) (fun g4 h => ?_)
          exact wa_vret C hv rfl dX4_handle_129 h
    refine wa_icmp_ne C (tgt := 82) dX4_handle_47 (by decide) h (fun h => ?_) (fun h => ?_)
    · refine wa_aload_n C (i := 0) dX4_handle_50 rfl rfl ?_
      refine wa_getR C (j := 1) lq_2 sh_2 rfl in_X4 (by decide) rfl f_X4_21 dX4_handle_51 ?_
      refine wa_aload_n C (i := 0) dX4_handle_54 rfl rfl ?_
      refine wa_getR C (j := 3) lq_2 sh_2 rfl in_X4 (by decide) rfl f_X4_35 dX4_handle_55 ?_
      refine wa_getR C (j := 2) lq_37 sh_37 rfl in_X1 (by decide) rfl f_X4_126 dX4_handle_58 ?_
      refine wa_iload_n C (i := 2) dX4_handle_61 rfl rfl ?_
      refine wa_iald C lq_40 sh_40 dX4_handle_62 h (fun v6 h => ?_)
      refine wa_iload_n C (i := 3) dX4_handle_63 rfl rfl ?_
      refine wa_callVi C lq_18 sh_18 rfl s_X4_129 i_X6_manIsAt e_X6_manIsAt dX4_handle_64 (ok_X6_manIsAt h) rfl rfl (Nat.le_of_ble_eq_true rfl) (by rw [hd]; decide) (fun v7 g5 h => ?_)
      refine wa_iload C dX4_handle_67 rfl ?_
      refine wa_icmp_ne C (tgt := 82) dX4_handle_69 (by decide) h (fun h => ?_) (fun h => ?_)
      · refine wa_aload_n C (i := 0) dX4_handle_72 rfl rfl ?_
        refine wa_aload_n C (i := 1) dX4_handle_73 rfl rfl ?_
        refine wa_iload_n C (i := 2) dX4_handle_74 rfl rfl ?_
        refine wa_iload_n C (i := 3) dX4_handle_75 rfl rfl ?_
        refine wa_callVv C lq_2 sh_2 rfl s_X4_133 i_X4_give e_X4_give dX4_handle_76 (ok_X4_give hc h) rfl rfl (Nat.le_of_ble_eq_true rfl) (by rw [hd]; decide) (fun g6 h => ?_)
        refine wa_goto C (tgt := 129) dX4_handle_79 (by decide) ?_
        exact wa_vret C hv rfl dX4_handle_129 h
      · exact WA.weak (hJ82 _ h) ⟨rfl, ⟨rfl, ⟨rfl, ⟨rfl, ⟨rfl, ⟨rfl, trivial⟩⟩⟩⟩⟩⟩
    · exact WA.weak (hJ82 _ h) ⟨rfl, ⟨rfl, ⟨rfl, ⟨rfl, ⟨rfl, ⟨rfl, trivial⟩⟩⟩⟩⟩⟩
  refine wa_icmp_ne C (tgt := 43) dX4_handle_21 (by decide) h (fun h => ?_) (fun h => ?_)
  · refine wa_aload_n C (i := 1) dX4_handle_24 rfl rfl ?_
    refine wa_getR C (j := 3) (ltC0 hc) (shC hc) rfl in_X0 (by decide) rfl f_X4_115 dX4_handle_25 ?_
    refine wa_iload_n C (i := 2) dX4_handle_28 rfl rfl ?_
    refine wa_zald C (ltC hc (by decide)) (shC_4 hc) dX4_handle_29 h (fun v9 h => ?_)
    refine wa_if_eq C (tgt := 43) dX4_handle_30 (by decide) h (fun h => ?_) (fun h => ?_)
    · exact WA.weak (hJ43  h) ⟨rfl, ⟨rfl, ⟨rfl, ⟨rfl, ⟨rfl, ⟨rfl, trivial⟩⟩⟩⟩⟩⟩
    · refine wa_aload_n C (i := 1) dX4_handle_33 rfl rfl ?_
      refine wa_iload_n C (i := 2) dX4_handle_34 rfl rfl ?_
      refine wa_iconst C (v := 3) dX4_handle_35 (by decide) ?_
      refine wa_iload_n C (i := 3) dX4_handle_36 rfl rfl ?_
      refine wa_callVv C (ltC0 hc) (shC hc) rfl s_X4_105 i_X0_finish e_X0_finish dX4_handle_37 (ok_X0_finish hc h) rfl rfl (Nat.le_of_ble_eq_true rfl) (by rw [hd]; decide) (fun g7 h => ?_)
      refine wa_goto C (tgt := 129) dX4_handle_40 (by decide) ?_
      exact wa_vret C hv rfl dX4_handle_129 h
  · exact WA.weak (hJ43  h) ⟨rfl, ⟨rfl, ⟨rfl, ⟨rfl, ⟨rfl, ⟨rfl, trivial⟩⟩⟩⟩⟩⟩

set_option maxRecDepth 20000 in
theorem ok_X4_see {l : Launch} {E : fp_E} {c : Nat} (hc : fp_isC c) {x2 : Int32} {x3 : Int32} {g : fp_G} {K : Int32 → fp_G → Prop} (h : w_X4_see c x2 x3 g K) : fp_M l E yX4_see cX4_see 5 ((Option.none : Option Jvm.ClassFile.FieldType)) true 6 [.ref 2, .ref c, .int x2, .int x3] g K := by
  unfold w_X4_see at h
  refine fp_enter rfl [some (.ref 2), some (.ref c), some (.int x2), some (.int x3), none] (Nat.le_of_ble_eq_true rfl) (fun q hq => hq) (fun Z hE hl hv hK hn hd C => ?_)
  subst hE hl hK
  refine wa_aload_n C (i := 1) dX4_see_0 rfl rfl ?_
  refine wa_getR C (j := 1) (ltC0 hc) (shC hc) rfl in_X0 (by decide) rfl f_X4_82 dX4_see_1 ?_
  refine wa_iload_n C (i := 2) dX4_see_4 rfl rfl ?_
  refine wa_iald C (ltC hc (by decide)) (shC_2 hc) dX4_see_5 h (fun v1 h => ?_)
  refine wa_istore C (i := 4) dX4_see_6 (by rw [hn]; decide) rfl rfl ?_
  refine wa_aload_n C (i := 0) dX4_see_8 rfl rfl ?_
  refine wa_aload_n C (i := 1) dX4_see_9 rfl rfl ?_
  refine wa_iload_n C (i := 2) dX4_see_10 rfl rfl ?_
  refine wa_iload_n C (i := 3) dX4_see_11 rfl rfl ?_
  refine wa_callVv C lq_2 sh_2 rfl s_X4_98 i_X4_takeFacts e_X4_takeFacts dX4_see_12 (ok_X4_takeFacts hc h) rfl rfl (Nat.le_of_ble_eq_true rfl) (by rw [hd]; decide) (fun g1 h => ?_)
  refine wa_aload_n C (i := 0) dX4_see_15 rfl rfl ?_
  refine wa_iconst C (v := 0) dX4_see_16 (by decide) ?_
  refine wa_iload C dX4_see_17 rfl ?_
  refine wa_iload_n C (i := 3) dX4_see_19 rfl rfl ?_
  refine wa_callVi C lq_2 sh_2 rfl s_X4_101 i_X4_purposeHolds e_X4_purposeHolds dX4_see_20 (ok_X4_purposeHolds h) rfl rfl (Nat.le_of_ble_eq_true rfl) (by rw [hd]; decide) (fun v3 g2 h => ?_)
  refine wa_if_eq C (tgt := 36) dX4_see_23 (by decide) h (fun h => ?_) (fun h => ?_)
  · refine wa_aload_n C (i := 0) dX4_see_36 rfl rfl ?_
    refine wa_iconst C (v := 1) dX4_see_37 (by decide) ?_
    refine wa_iload C dX4_see_38 rfl ?_
    refine wa_iload_n C (i := 3) dX4_see_40 rfl rfl ?_
    refine wa_callVi C lq_2 sh_2 rfl s_X4_101 i_X4_purposeHolds e_X4_purposeHolds dX4_see_41 (ok_X4_purposeHolds h) rfl rfl (Nat.le_of_ble_eq_true rfl) (by rw [hd]; decide) (fun v4 g3 h => ?_)
    refine wa_if_ne C (tgt := 61) dX4_see_44 (by decide) h (fun h => ?_) (fun h => ?_)
    · refine wa_aload_n C (i := 0) dX4_see_47 rfl rfl ?_
      refine wa_aload_n C (i := 1) dX4_see_48 rfl rfl ?_
      refine wa_iload_n C (i := 2) dX4_see_49 rfl rfl ?_
      refine wa_iload_n C (i := 3) dX4_see_50 rfl rfl ?_
      refine wa_callVv C lq_2 sh_2 rfl s_X4_109 i_X4_turnBack e_X4_turnBack dX4_see_51 (ok_X4_turnBack hc h) rfl rfl (Nat.le_of_ble_eq_true rfl) (by rw [hd]; decide) (fun g4 h => ?_)
      refine wa_aload_n C (i := 0) dX4_see_54 rfl rfl ?_
      refine wa_aload_n C (i := 1) dX4_see_55 rfl rfl ?_
      refine wa_iload_n C (i := 2) dX4_see_56 rfl rfl ?_
      refine wa_iload_n C (i := 3) dX4_see_57 rfl rfl ?_
      refine wa_callVv C lq_2 sh_2 rfl s_X4_112 i_X4_handle e_X4_handle dX4_see_58 (ok_X4_handle hc h) rfl rfl (Nat.le_of_ble_eq_true rfl) (by rw [hd]; decide) (fun g5 h => ?_)
      exact wa_vret C hv rfl dX4_see_61 h
    · exact wa_vret C hv rfl dX4_see_61 h
  · refine wa_aload_n C (i := 1) dX4_see_26 rfl rfl ?_
    refine wa_iload_n C (i := 2) dX4_see_27 rfl rfl ?_
    refine wa_iconst C (v := 4) dX4_see_28 (by decide) ?_
    refine wa_iload_n C (i := 3) dX4_see_29 rfl rfl ?_
    refine wa_callVv C (ltC0 hc) (shC hc) rfl s_X4_105 i_X0_finish e_X0_finish dX4_see_30 (ok_X0_finish hc h) rfl rfl (Nat.le_of_ble_eq_true rfl) (by rw [hd]; decide) (fun g6 h => ?_)
    refine wa_goto C (tgt := 61) dX4_see_33 (by decide) ?_
    exact wa_vret C hv rfl dX4_see_61 h

set_option maxRecDepth 20000 in
theorem ok_X4_passHour_29 {Z : fp_Z} (C : fp_C Z cX4_passHour RX4 ((Option.none : Option Jvm.ClassFile.FieldType))) (hv : fp_V Z true) (hn : Z.2.2.2.2.1 = 7) (hd : Z.2.2.2.2.2.1 = 7) {c : Nat} (hc : fp_isC c) {x2 : Int32} {x3 : Int32} : ∀ (n : Nat) (x4 : Int32) (g : fp_G), w_X4_passHour_29 n c x2 x3 x4 g Z.2.2.2.1 → WA Z 29 [some (.ref 2), some (.ref c), some (.int x2), some (.int x3), some (.int x4), none, none] [] g := by
  intro n
  induction n with
  | zero => intro x4 g h; exact h.elim
  | succ n ih =>
    intro x4 g h
    rw [w_X4_passHour_29] at h
    refine wa_iload C dX4_passHour_29 rfl ?_
    refine wa_iload_n C (i := 3) dX4_passHour_31 rfl rfl ?_
    refine wa_icmp_ge C (tgt := 98) dX4_passHour_32 (by decide) h (fun h => ?_) (fun h => ?_)
    · exact wa_vret C hv rfl dX4_passHour_98 h
    · refine wa_aload_n C (i := 0) dX4_passHour_35 rfl rfl ?_
      refine wa_getR C (j := 4) lq_2 sh_2 rfl in_X4 (by decide) rfl f_X4_39 dX4_passHour_36 ?_
      refine wa_iload C dX4_passHour_39 rfl ?_
      refine wa_iald C lq_3 sh_3 dX4_passHour_41 h (fun v4 h => ?_)
      refine wa_istore C (i := 5) dX4_passHour_42 (by rw [hn]; decide) rfl rfl ?_
      refine wa_aload_n C (i := 1) dX4_passHour_44 rfl rfl ?_
      refine wa_getR C (j := 1) (ltC0 hc) (shC hc) rfl in_X0 (by decide) rfl f_X4_82 dX4_passHour_45 ?_
      refine wa_iload C dX4_passHour_48 rfl ?_
      refine wa_iald C (ltC hc (by decide)) (shC_2 hc) dX4_passHour_50 h (fun v5 h => ?_)
      refine wa_istore C (i := 6) dX4_passHour_51 (by rw [hn]; decide) rfl rfl ?_
      refine wa_aload_n C (i := 0) dX4_passHour_53 rfl rfl ?_
      refine wa_getR C (j := 5) lq_2 sh_2 rfl in_X4 (by decide) rfl f_X4_43 dX4_passHour_54 ?_
      refine wa_iload C dX4_passHour_57 rfl ?_
      refine wa_iald C lq_4 sh_4 dX4_passHour_59 h (fun v6 h => ?_)
      refine wa_aload_n C (i := 0) dX4_passHour_60 rfl rfl ?_
      refine wa_getR C (j := 0) lq_2 sh_2 rfl in_X4 (by decide) rfl f_X4_12 dX4_passHour_61 ?_
      refine wa_getR C (j := 0) lq_6 sh_6 rfl in_X2 (by decide) rfl f_X4_85 dX4_passHour_64 ?_
      refine wa_iload C dX4_passHour_67 rfl ?_
      refine wa_iald C lq_7 sh_7 dX4_passHour_69 h (fun v7 h => ?_)
      refine fp_j0 (Q := fun g4 => WA Z 92 [some (.ref 2), some (.ref c), some (.int x2), some (.int x3), some (.int x4), none, none] [] g4) h (fun g4 h => ?_) (fun J92 hJ92 h => ?_)
      · refine wa_iinc C (i := 4) dX4_passHour_92 rfl (fp_inc1 _) (by rw [hn]; decide) rfl rfl ?_
        refine wa_goto C (tgt := 29) dX4_passHour_95 (by decide) ?_
        exact WA.weak (ih _ _ h) ⟨rfl, ⟨rfl, ⟨rfl, ⟨rfl, ⟨rfl, trivial⟩⟩⟩⟩⟩
      refine wa_icmp_ge C (tgt := 92) dX4_passHour_70 (by decide) h (fun h => ?_) (fun h => ?_)
      · exact WA.weak (hJ92 _ h) ⟨rfl, ⟨rfl, ⟨rfl, ⟨rfl, ⟨rfl, trivial⟩⟩⟩⟩⟩
      · refine wa_aload_n C (i := 0) dX4_passHour_73 rfl rfl ?_
        refine wa_getR C (j := 5) lq_2 sh_2 rfl in_X4 (by decide) rfl f_X4_43 dX4_passHour_74 ?_
        refine wa_iload C dX4_passHour_77 rfl ?_
        refine wa_dup2 C dX4_passHour_79 rfl rfl ?_
        refine wa_iald C lq_4 sh_4 dX4_passHour_80 h (fun v8 h => ?_)
        refine wa_iconst C (v := 1) dX4_passHour_81 (by decide) ?_
        refine wa_iadd C dX4_passHour_82 ?_
        refine wa_iast C lq_4 sh_4 dX4_passHour_83 h (fun g5 h => ?_)
        refine wa_aload_n C (i := 0) dX4_passHour_84 rfl rfl ?_
        refine wa_aload_n C (i := 1) dX4_passHour_85 rfl rfl ?_
        refine wa_iload C dX4_passHour_86 rfl ?_
        refine wa_iload_n C (i := 2) dX4_passHour_88 rfl rfl ?_
        refine wa_callVv C lq_2 sh_2 rfl s_X4_88 i_X4_see e_X4_see dX4_passHour_89 (ok_X4_see hc h) rfl rfl (Nat.le_of_ble_eq_true rfl) (by rw [hd]; decide) (fun g6 h => ?_)
        exact WA.weak (hJ92 _ h) ⟨rfl, ⟨rfl, ⟨rfl, ⟨rfl, ⟨rfl, trivial⟩⟩⟩⟩⟩

set_option maxRecDepth 20000 in
theorem ok_X4_passHour {l : Launch} {E : fp_E} {c : Nat} (hc : fp_isC c) {x2 : Int32} {g : fp_G} {K : Int32 → fp_G → Prop} (h : w_X4_passHour c x2 g K) : fp_M l E yX4_passHour cX4_passHour 7 ((Option.none : Option Jvm.ClassFile.FieldType)) true 7 [.ref 2, .ref c, .int x2] g K := by
  unfold w_X4_passHour at h
  refine fp_enter rfl [some (.ref 2), some (.ref c), some (.int x2), none, none, none, none] (Nat.le_of_ble_eq_true rfl) (fun q hq => hq) (fun Z hE hl hv hK hn hd C => ?_)
  subst hE hl hK
  refine wa_aload_n C (i := 1) dX4_passHour_0 rfl rfl ?_
  refine wa_aload_n C (i := 0) dX4_passHour_1 rfl rfl ?_
  refine wa_getR C (j := 3) lq_2 sh_2 rfl in_X4 (by decide) rfl f_X4_35 dX4_passHour_2 ?_
  refine wa_getI C (j := 5) lq_37 sh_37 rfl in_X1 (by decide) rfl f_X4_63 dX4_passHour_5 ?_
  refine wa_iload_n C (i := 2) dX4_passHour_8 rfl rfl ?_
  refine wa_callVv C (ltC0 hc) (shC hc) rfl s_X4_66 i_X0_arrive e_X0_arrive dX4_passHour_9 (ok_X0_arrive hc h) rfl rfl (Nat.le_of_ble_eq_true rfl) (by rw [hd]; decide) (fun g1 h => ?_)
  refine wa_aload_n C (i := 0) dX4_passHour_12 rfl rfl ?_
  refine wa_aload_n C (i := 1) dX4_passHour_13 rfl rfl ?_
  refine wa_callVi C lq_2 sh_2 rfl s_X4_72 i_X4_lineUp e_X4_lineUp dX4_passHour_14 (ok_X4_lineUp hc h) rfl rfl (Nat.le_of_ble_eq_true rfl) (by rw [hd]; decide) (fun v2 g2 h => ?_)
  refine wa_istore_n C (i := 3) dX4_passHour_17 rfl (by rw [hn]; decide) rfl rfl ?_
  refine wa_aload_n C (i := 0) dX4_passHour_18 rfl rfl ?_
  refine wa_getR C (j := 5) lq_2 sh_2 rfl in_X4 (by decide) rfl f_X4_43 dX4_passHour_19 ?_
  refine wa_iconst C (v := 0) dX4_passHour_22 (by decide) ?_
  refine wa_callSv C s_X4_76 t_J7_fill_53178 dX4_passHour_23 (ok_J7_fill_53178 ⟨lq_4, sh_4⟩ h) rfl rfl (Nat.le_of_ble_eq_true rfl) (by rw [hd]; decide) (fun g3 h => ?_)
  refine wa_iconst C (v := 0) dX4_passHour_26 (by decide) ?_
  refine wa_istore C (i := 4) dX4_passHour_27 (by rw [hn]; decide) rfl rfl ?_
  obtain ⟨n29, h⟩ := h
  exact WA.weak (ok_X4_passHour_29 C hv hn hd hc n29 _ _ h) ⟨rfl, ⟨rfl, ⟨rfl, ⟨rfl, ⟨rfl, trivial⟩⟩⟩⟩⟩

set_option maxRecDepth 20000 in
theorem ok_X6_hasMan {l : Launch} {E : fp_E} {x1 : Int32} {g : fp_G} {K : Int32 → fp_G → Prop} (h : w_X6_hasMan x1 g K) : fp_M l E yX6_hasMan cX6_hasMan 2 ((Option.some Jvm.ClassFile.FieldType.boolean)) false 1 [.ref 18, .int x1] g K := by
  unfold w_X6_hasMan at h
  refine fp_enter rfl [some (.ref 18), some (.int x1)] (Nat.le_of_ble_eq_true rfl) (fun q hq => hq) (fun Z hE hl hv hK hn hd C => ?_)
  subst hE hl hK
  refine wa_iload_n C (i := 1) dX6_hasMan_0 rfl rfl ?_
  refine fp_k0 (Q := WA Z 16 [none, none] [] g) h (fun  h => ?_) (fun J16 hJ16 h => ?_)
  · refine wa_iconst C (v := 0) dX6_hasMan_16 (by decide) ?_
    exact wa_zret C hv rfl rfl dX6_hasMan_17 h
  refine wa_if_lt C (tgt := 16) dX6_hasMan_1 (by decide) h (fun h => ?_) (fun h => ?_)
  · exact WA.weak (hJ16  h) trivial
  · refine wa_iload_n C (i := 1) dX6_hasMan_4 rfl rfl ?_
    refine wa_aload_n C (i := 0) dX6_hasMan_5 rfl rfl ?_
    refine wa_getI C (j := 7) lq_18 sh_18 rfl in_X6 (by decide) rfl f_X6_42 dX6_hasMan_6 ?_
    refine wa_icmp_ge C (tgt := 16) dX6_hasMan_9 (by decide) h (fun h => ?_) (fun h => ?_)
    · exact WA.weak (hJ16  h) trivial
    · refine wa_iconst C (v := 1) dX6_hasMan_12 (by decide) ?_
      refine wa_goto C (tgt := 17) dX6_hasMan_13 (by decide) ?_
      exact wa_zret C hv rfl rfl dX6_hasMan_17 h

set_option maxRecDepth 20000 in
theorem ok_X6_addMove {l : Launch} {E : fp_E} {x1 : Int32} {x2 : Int32} {x3 : Int32} {x4 : Int32} {g : fp_G} {K : Int32 → fp_G → Prop} (h : w_X6_addMove x1 x2 x3 x4 g K) : fp_M l E yX6_addMove cX6_addMove 5 ((Option.some Jvm.ClassFile.FieldType.int)) false 1 [.ref 18, .int x1, .int x2, .int x3, .int x4] g K := by
  unfold w_X6_addMove at h
  refine fp_enter rfl [some (.ref 18), some (.int x1), some (.int x2), some (.int x3), some (.int x4)] (Nat.le_of_ble_eq_true rfl) (fun q hq => hq) (fun Z hE hl hv hK hn hd C => ?_)
  subst hE hl hK
  refine wa_aload_n C (i := 0) dX6_addMove_0 rfl rfl ?_
  refine wa_getR C (j := 0) lq_18 sh_18 rfl in_X6 (by decide) rfl f_X6_9 dX6_addMove_1 ?_
  refine wa_aload_n C (i := 0) dX6_addMove_4 rfl rfl ?_
  refine wa_getI C (j := 4) lq_18 sh_18 rfl in_X6 (by decide) rfl f_X6_46 dX6_addMove_5 ?_
  refine wa_iload_n C (i := 1) dX6_addMove_8 rfl rfl ?_
  refine wa_iast C lq_19 sh_19 dX6_addMove_9 h (fun g1 h => ?_)
  refine wa_aload_n C (i := 0) dX6_addMove_10 rfl rfl ?_
  refine wa_getR C (j := 1) lq_18 sh_18 rfl in_X6 (by decide) rfl f_X6_15 dX6_addMove_11 ?_
  refine wa_aload_n C (i := 0) dX6_addMove_14 rfl rfl ?_
  refine wa_getI C (j := 4) lq_18 sh_18 rfl in_X6 (by decide) rfl f_X6_46 dX6_addMove_15 ?_
  refine wa_iload_n C (i := 2) dX6_addMove_18 rfl rfl ?_
  refine wa_iast C lq_20 sh_20 dX6_addMove_19 h (fun g2 h => ?_)
  refine wa_aload_n C (i := 0) dX6_addMove_20 rfl rfl ?_
  refine wa_getR C (j := 2) lq_18 sh_18 rfl in_X6 (by decide) rfl f_X6_18 dX6_addMove_21 ?_
  refine wa_aload_n C (i := 0) dX6_addMove_24 rfl rfl ?_
  refine wa_getI C (j := 4) lq_18 sh_18 rfl in_X6 (by decide) rfl f_X6_46 dX6_addMove_25 ?_
  refine wa_iload_n C (i := 3) dX6_addMove_28 rfl rfl ?_
  refine wa_iast C lq_21 sh_21 dX6_addMove_29 h (fun g3 h => ?_)
  refine wa_aload_n C (i := 0) dX6_addMove_30 rfl rfl ?_
  refine wa_getR C (j := 3) lq_18 sh_18 rfl in_X6 (by decide) rfl f_X6_21 dX6_addMove_31 ?_
  refine wa_aload_n C (i := 0) dX6_addMove_34 rfl rfl ?_
  refine wa_getI C (j := 4) lq_18 sh_18 rfl in_X6 (by decide) rfl f_X6_46 dX6_addMove_35 ?_
  refine wa_iload C dX6_addMove_38 rfl ?_
  refine wa_iast C lq_22 sh_22 dX6_addMove_40 h (fun g4 h => ?_)
  refine wa_aload_n C (i := 0) dX6_addMove_41 rfl rfl ?_
  refine wa_dup C dX6_addMove_42 rfl ?_
  refine wa_getI C (j := 4) lq_18 sh_18 rfl in_X6 (by decide) rfl f_X6_46 dX6_addMove_43 ?_
  refine wa_iconst C (v := 1) dX6_addMove_46 (by decide) ?_
  refine wa_iadd C dX6_addMove_47 ?_
  refine wa_putI C (j := 4) lq_18 sh_18 rfl in_X6 (by decide) tyX6 tyX6_ok nmX6 rfl rfl rfl f_X6_46 dX6_addMove_48 h (fun g5 h => ?_)
  refine wa_aload_n C (i := 0) dX6_addMove_51 rfl rfl ?_
  refine wa_getI C (j := 4) lq_18 sh_18 rfl in_X6 (by decide) rfl f_X6_46 dX6_addMove_52 ?_
  exact wa_iret C hv rfl dX6_addMove_55 h

set_option maxRecDepth 20000 in
theorem ok_X6_addMan {l : Launch} {E : fp_E} {x1 : Int32} {x2 : Int32} {g : fp_G} {K : Int32 → fp_G → Prop} (h : w_X6_addMan x1 x2 g K) : fp_M l E yX6_addMan cX6_addMan 3 ((Option.some Jvm.ClassFile.FieldType.int)) false 1 [.ref 18, .int x1, .int x2] g K := by
  unfold w_X6_addMan at h
  refine fp_enter rfl [some (.ref 18), some (.int x1), some (.int x2)] (Nat.le_of_ble_eq_true rfl) (fun q hq => hq) (fun Z hE hl hv hK hn hd C => ?_)
  subst hE hl hK
  refine wa_aload_n C (i := 0) dX6_addMan_0 rfl rfl ?_
  refine wa_getR C (j := 5) lq_18 sh_18 rfl in_X6 (by decide) rfl f_X6_24 dX6_addMan_1 ?_
  refine wa_aload_n C (i := 0) dX6_addMan_4 rfl rfl ?_
  refine wa_getI C (j := 7) lq_18 sh_18 rfl in_X6 (by decide) rfl f_X6_42 dX6_addMan_5 ?_
  refine wa_iload_n C (i := 1) dX6_addMan_8 rfl rfl ?_
  refine wa_iast C lq_23 sh_23 dX6_addMan_9 h (fun g1 h => ?_)
  refine wa_aload_n C (i := 0) dX6_addMan_10 rfl rfl ?_
  refine wa_getR C (j := 6) lq_18 sh_18 rfl in_X6 (by decide) rfl f_X6_27 dX6_addMan_11 ?_
  refine wa_aload_n C (i := 0) dX6_addMan_14 rfl rfl ?_
  refine wa_getI C (j := 7) lq_18 sh_18 rfl in_X6 (by decide) rfl f_X6_42 dX6_addMan_15 ?_
  refine wa_iload_n C (i := 2) dX6_addMan_18 rfl rfl ?_
  refine wa_iast C lq_24 sh_24 dX6_addMan_19 h (fun g2 h => ?_)
  refine wa_aload_n C (i := 0) dX6_addMan_20 rfl rfl ?_
  refine wa_dup C dX6_addMan_21 rfl ?_
  refine wa_getI C (j := 7) lq_18 sh_18 rfl in_X6 (by decide) rfl f_X6_42 dX6_addMan_22 ?_
  refine wa_iconst C (v := 1) dX6_addMan_25 (by decide) ?_
  refine wa_iadd C dX6_addMan_26 ?_
  refine wa_putI C (j := 7) lq_18 sh_18 rfl in_X6 (by decide) tyX6 tyX6_ok nmX6 rfl rfl rfl f_X6_42 dX6_addMan_27 h (fun g3 h => ?_)
  refine wa_aload_n C (i := 0) dX6_addMan_30 rfl rfl ?_
  refine wa_getI C (j := 7) lq_18 sh_18 rfl in_X6 (by decide) rfl f_X6_42 dX6_addMan_31 ?_
  refine wa_iconst C (v := 1) dX6_addMan_34 (by decide) ?_
  refine wa_isub C dX6_addMan_35 ?_
  exact wa_iret C hv rfl dX6_addMan_36 h

set_option maxRecDepth 20000 in
theorem ok_X6_addState {l : Launch} {E : fp_E} {x1 : Int32} {x2 : Int32} {x3 : Int32} {x4 : Int32} {g : fp_G} {K : Int32 → fp_G → Prop} (h : w_X6_addState x1 x2 x3 x4 g K) : fp_M l E yX6_addState cX6_addState 5 ((Option.some Jvm.ClassFile.FieldType.int)) false 1 [.ref 18, .int x1, .int x2, .int x3, .int x4] g K := by
  unfold w_X6_addState at h
  refine fp_enter rfl [some (.ref 18), some (.int x1), some (.int x2), some (.int x3), some (.int x4)] (Nat.le_of_ble_eq_true rfl) (fun q hq => hq) (fun Z hE hl hv hK hn hd C => ?_)
  subst hE hl hK
  refine wa_aload_n C (i := 0) dX6_addState_0 rfl rfl ?_
  refine wa_getR C (j := 8) lq_18 sh_18 rfl in_X6 (by decide) rfl f_X6_30 dX6_addState_1 ?_
  refine wa_aload_n C (i := 0) dX6_addState_4 rfl rfl ?_
  refine wa_getI C (j := 12) lq_18 sh_18 rfl in_X6 (by decide) rfl f_X6_49 dX6_addState_5 ?_
  refine wa_iload_n C (i := 1) dX6_addState_8 rfl rfl ?_
  refine wa_iast C lq_25 sh_25 dX6_addState_9 h (fun g1 h => ?_)
  refine wa_aload_n C (i := 0) dX6_addState_10 rfl rfl ?_
  refine wa_getR C (j := 9) lq_18 sh_18 rfl in_X6 (by decide) rfl f_X6_33 dX6_addState_11 ?_
  refine wa_aload_n C (i := 0) dX6_addState_14 rfl rfl ?_
  refine wa_getI C (j := 12) lq_18 sh_18 rfl in_X6 (by decide) rfl f_X6_49 dX6_addState_15 ?_
  refine wa_iload_n C (i := 2) dX6_addState_18 rfl rfl ?_
  refine wa_iast C lq_26 sh_26 dX6_addState_19 h (fun g2 h => ?_)
  refine wa_aload_n C (i := 0) dX6_addState_20 rfl rfl ?_
  refine wa_getR C (j := 10) lq_18 sh_18 rfl in_X6 (by decide) rfl f_X6_36 dX6_addState_21 ?_
  refine wa_aload_n C (i := 0) dX6_addState_24 rfl rfl ?_
  refine wa_getI C (j := 12) lq_18 sh_18 rfl in_X6 (by decide) rfl f_X6_49 dX6_addState_25 ?_
  refine wa_iload_n C (i := 3) dX6_addState_28 rfl rfl ?_
  refine wa_iast C lq_27 sh_27 dX6_addState_29 h (fun g3 h => ?_)
  refine wa_aload_n C (i := 0) dX6_addState_30 rfl rfl ?_
  refine wa_getR C (j := 11) lq_18 sh_18 rfl in_X6 (by decide) rfl f_X6_39 dX6_addState_31 ?_
  refine wa_aload_n C (i := 0) dX6_addState_34 rfl rfl ?_
  refine wa_getI C (j := 12) lq_18 sh_18 rfl in_X6 (by decide) rfl f_X6_49 dX6_addState_35 ?_
  refine wa_iload C dX6_addState_38 rfl ?_
  refine wa_iast C lq_28 sh_28 dX6_addState_40 h (fun g4 h => ?_)
  refine wa_aload_n C (i := 0) dX6_addState_41 rfl rfl ?_
  refine wa_dup C dX6_addState_42 rfl ?_
  refine wa_getI C (j := 12) lq_18 sh_18 rfl in_X6 (by decide) rfl f_X6_49 dX6_addState_43 ?_
  refine wa_iconst C (v := 1) dX6_addState_46 (by decide) ?_
  refine wa_iadd C dX6_addState_47 ?_
  refine wa_putI C (j := 12) lq_18 sh_18 rfl in_X6 (by decide) tyX6 tyX6_ok nmX6 rfl rfl rfl f_X6_49 dX6_addState_48 h (fun g5 h => ?_)
  refine wa_aload_n C (i := 0) dX6_addState_51 rfl rfl ?_
  refine wa_getI C (j := 12) lq_18 sh_18 rfl in_X6 (by decide) rfl f_X6_49 dX6_addState_52 ?_
  exact wa_iret C hv rfl dX6_addState_55 h

set_option maxRecDepth 20000 in
theorem ok_X6_fits_31 {Z : fp_Z} (C : fp_C Z cX6_fits RX6 ((Option.some Jvm.ClassFile.FieldType.boolean))) (hv : fp_V Z false) (hn : Z.2.2.2.2.1 = 8) (hd : Z.2.2.2.2.2.1 = 1) : ∀ (n : Nat) (x4 : Int32) (x5 : Int32) (x6 : Int32) (g : fp_G), w_X6_fits_31 n x4 x5 x6 g Z.2.2.2.1 → WA Z 31 [none, none, none, none, some (.int x4), some (.int x5), some (.int x6), none] [] g := by
  intro n
  induction n with
  | zero => intro x4 x5 x6 g h; exact h.elim
  | succ n ih =>
    intro x4 x5 x6 g h
    rw [w_X6_fits_31] at h
    refine wa_iload C dX6_fits_31 rfl ?_
    refine wa_iconst C (v := 4) dX6_fits_33 (by decide) ?_
    refine wa_icmp_ge C (tgt := 83) dX6_fits_34 (by decide) h (fun h => ?_) (fun h => ?_)
    · refine wa_iconst C (v := 1) dX6_fits_83 (by decide) ?_
      exact wa_zret C hv rfl rfl dX6_fits_84 h
    · refine wa_iload C dX6_fits_37 rfl ?_
      refine wa_bipush C (v := 11) dX6_fits_39 (by decide) ?_
      refine wa_irem C dX6_fits_41 h (fun h => ?_)
      refine wa_istore C (i := 7) dX6_fits_42 (by rw [hn]; decide) rfl rfl ?_
      refine wa_iload C dX6_fits_44 rfl ?_
      refine wa_bipush C (v := 10) dX6_fits_46 (by decide) ?_
      refine fp_k0 (Q := WA Z 63 [none, none, none, none, some (.int x4), some (.int x5), some (.int x6), none] [] g) h (fun  h => ?_) (fun J63 hJ63 h => ?_)
      · refine wa_iload C dX6_fits_63 rfl ?_
        refine wa_bipush C (v := 11) dX6_fits_65 (by decide) ?_
        refine wa_idiv C dX6_fits_67 h (fun h => ?_)
        refine wa_istore C (i := 5) dX6_fits_68 (by rw [hn]; decide) rfl rfl ?_
        refine wa_iload C dX6_fits_70 rfl ?_
        refine wa_bipush C (v := 10) dX6_fits_72 (by decide) ?_
        refine wa_idiv C dX6_fits_74 h (fun h => ?_)
        refine wa_istore C (i := 4) dX6_fits_75 (by rw [hn]; decide) rfl rfl ?_
        refine wa_iinc C (i := 6) dX6_fits_77 rfl (fp_inc1 _) (by rw [hn]; decide) rfl rfl ?_
        refine wa_goto C (tgt := 31) dX6_fits_80 (by decide) ?_
        exact WA.weak (ih _ _ _ _ h) ⟨rfl, ⟨rfl, ⟨rfl, trivial⟩⟩⟩
      refine wa_icmp_eq C (tgt := 63) dX6_fits_48 (by decide) h (fun h => ?_) (fun h => ?_)
      · exact WA.weak (hJ63  h) ⟨rfl, ⟨rfl, ⟨rfl, trivial⟩⟩⟩
      · refine wa_iload C dX6_fits_51 rfl ?_
        refine wa_iload C dX6_fits_53 rfl ?_
        refine wa_bipush C (v := 10) dX6_fits_55 (by decide) ?_
        refine wa_irem C dX6_fits_57 h (fun h => ?_)
        refine wa_icmp_eq C (tgt := 63) dX6_fits_58 (by decide) h (fun h => ?_) (fun h => ?_)
        · exact WA.weak (hJ63  h) ⟨rfl, ⟨rfl, ⟨rfl, trivial⟩⟩⟩
        · refine wa_iconst C (v := 0) dX6_fits_61 (by decide) ?_
          exact wa_zret C hv rfl rfl dX6_fits_62 h

set_option maxRecDepth 20000 in
theorem ok_X6_fits {l : Launch} {E : fp_E} {x1 : Int32} {x2 : Int32} {x3 : Int32} {g : fp_G} {K : Int32 → fp_G → Prop} (h : w_X6_fits x1 x2 x3 g K) : fp_M l E yX6_fits cX6_fits 8 ((Option.some Jvm.ClassFile.FieldType.boolean)) false 1 [.ref 18, .int x1, .int x2, .int x3] g K := by
  unfold w_X6_fits at h
  refine fp_enter rfl [some (.ref 18), some (.int x1), some (.int x2), some (.int x3), none, none, none, none] (Nat.le_of_ble_eq_true rfl) (fun q hq => hq) (fun Z hE hl hv hK hn hd C => ?_)
  subst hE hl hK
  refine wa_iload_n C (i := 2) dX6_fits_0 rfl rfl ?_
  refine wa_iconst C (v := (-1)) dX6_fits_1 (by decide) ?_
  refine fp_k0 (Q := WA Z 17 [some (.ref 18), some (.int x1), none, some (.int x3), none, none, none, none] [] g) h (fun  h => ?_) (fun J17 hJ17 h => ?_)
  · refine wa_aload_n C (i := 0) dX6_fits_17 rfl rfl ?_
    refine wa_getR C (j := 6) lq_18 sh_18 rfl in_X6 (by decide) rfl f_X6_27 dX6_fits_18 ?_
    refine wa_iload_n C (i := 1) dX6_fits_21 rfl rfl ?_
    refine wa_iald C lq_24 sh_24 dX6_fits_22 h (fun v1 h => ?_)
    refine wa_istore C (i := 4) dX6_fits_23 (by rw [hn]; decide) rfl rfl ?_
    refine wa_iload_n C (i := 3) dX6_fits_25 rfl rfl ?_
    refine wa_istore C (i := 5) dX6_fits_26 (by rw [hn]; decide) rfl rfl ?_
    refine wa_iconst C (v := 0) dX6_fits_28 (by decide) ?_
    refine wa_istore C (i := 6) dX6_fits_29 (by rw [hn]; decide) rfl rfl ?_
    obtain ⟨n31, h⟩ := h
    exact WA.weak (ok_X6_fits_31 C hv hn hd n31 _ _ _ _ h) ⟨rfl, ⟨rfl, ⟨rfl, trivial⟩⟩⟩
  refine wa_icmp_eq C (tgt := 17) dX6_fits_2 (by decide) h (fun h => ?_) (fun h => ?_)
  · exact WA.weak (hJ17  h) ⟨rfl, ⟨rfl, ⟨rfl, trivial⟩⟩⟩
  · refine wa_aload_n C (i := 0) dX6_fits_5 rfl rfl ?_
    refine wa_getR C (j := 5) lq_18 sh_18 rfl in_X6 (by decide) rfl f_X6_24 dX6_fits_6 ?_
    refine wa_iload_n C (i := 1) dX6_fits_9 rfl rfl ?_
    refine wa_iald C lq_23 sh_23 dX6_fits_10 h (fun v2 h => ?_)
    refine wa_iload_n C (i := 2) dX6_fits_11 rfl rfl ?_
    refine wa_icmp_eq C (tgt := 17) dX6_fits_12 (by decide) h (fun h => ?_) (fun h => ?_)
    · exact WA.weak (hJ17  h) ⟨rfl, ⟨rfl, ⟨rfl, trivial⟩⟩⟩
    · refine wa_iconst C (v := 0) dX6_fits_15 (by decide) ?_
      exact wa_zret C hv rfl rfl dX6_fits_16 h

set_option maxRecDepth 20000 in
theorem ok_X6_fitting_5 {Z : fp_Z} (C : fp_C Z cX6_fitting RX6 ((Option.some Jvm.ClassFile.FieldType.int))) (hv : fp_V Z false) (hn : Z.2.2.2.2.1 = 5) (hd : Z.2.2.2.2.2.1 = 2) {x1 : Int32} {x2 : Int32} : ∀ (n : Nat) (x3 : Int32) (x4 : Int32) (g : fp_G), w_X6_fitting_5 n x1 x2 x3 x4 g Z.2.2.2.1 → WA Z 5 [some (.ref 18), some (.int x1), some (.int x2), some (.int x3), some (.int x4)] [] g := by
  intro n
  induction n with
  | zero => intro x3 x4 g h; exact h.elim
  | succ n ih =>
    intro x3 x4 g h
    rw [w_X6_fitting_5] at h
    refine wa_iload C dX6_fitting_5 rfl ?_
    refine wa_aload_n C (i := 0) dX6_fitting_7 rfl rfl ?_
    refine wa_getI C (j := 7) lq_18 sh_18 rfl in_X6 (by decide) rfl f_X6_42 dX6_fitting_8 ?_
    refine wa_icmp_ge C (tgt := 34) dX6_fitting_11 (by decide) h (fun h => ?_) (fun h => ?_)
    · refine wa_iload_n C (i := 3) dX6_fitting_34 rfl rfl ?_
      exact wa_iret C hv rfl dX6_fitting_35 h
    · refine wa_aload_n C (i := 0) dX6_fitting_14 rfl rfl ?_
      refine wa_iload C dX6_fitting_15 rfl ?_
      refine wa_iload_n C (i := 1) dX6_fitting_17 rfl rfl ?_
      refine wa_iload_n C (i := 2) dX6_fitting_18 rfl rfl ?_
      refine wa_callVi C lq_18 sh_18 rfl s_X6_59 i_X6_fits e_X6_fits dX6_fitting_19 (ok_X6_fits h) rfl rfl (Nat.le_of_ble_eq_true rfl) (by rw [hd]; decide) (fun v1 g1 h => ?_)
      refine fp_k1 (Q := fun x3j28 => WA Z 28 [some (.ref 18), some (.int x1), some (.int x2), some (.int x3j28), some (.int x4)] [] g1) h (fun x3j28 h => ?_) (fun J28 hJ28 h => ?_)
      · refine wa_iinc C (i := 4) dX6_fitting_28 rfl (fp_inc1 _) (by rw [hn]; decide) rfl rfl ?_
        refine wa_goto C (tgt := 5) dX6_fitting_31 (by decide) ?_
        exact WA.weak (ih _ _ _ h) ⟨rfl, ⟨rfl, ⟨rfl, ⟨rfl, ⟨rfl, trivial⟩⟩⟩⟩⟩
      refine wa_if_eq C (tgt := 28) dX6_fitting_22 (by decide) h (fun h => ?_) (fun h => ?_)
      · exact WA.weak (hJ28 _ h) ⟨rfl, ⟨rfl, ⟨rfl, ⟨rfl, ⟨rfl, trivial⟩⟩⟩⟩⟩
      · refine wa_iinc C (i := 3) dX6_fitting_25 rfl (fp_inc1 _) (by rw [hn]; decide) rfl rfl ?_
        exact WA.weak (hJ28 _ h) ⟨rfl, ⟨rfl, ⟨rfl, ⟨rfl, ⟨rfl, trivial⟩⟩⟩⟩⟩

set_option maxRecDepth 20000 in
theorem ok_X6_fitting {l : Launch} {E : fp_E} {x1 : Int32} {x2 : Int32} {g : fp_G} {K : Int32 → fp_G → Prop} (h : w_X6_fitting x1 x2 g K) : fp_M l E yX6_fitting cX6_fitting 5 ((Option.some Jvm.ClassFile.FieldType.int)) false 2 [.ref 18, .int x1, .int x2] g K := by
  unfold w_X6_fitting at h
  refine fp_enter rfl [some (.ref 18), some (.int x1), some (.int x2), none, none] (Nat.le_of_ble_eq_true rfl) (fun q hq => hq) (fun Z hE hl hv hK hn hd C => ?_)
  subst hE hl hK
  refine wa_iconst C (v := 0) dX6_fitting_0 (by decide) ?_
  refine wa_istore_n C (i := 3) dX6_fitting_1 rfl (by rw [hn]; decide) rfl rfl ?_
  refine wa_iconst C (v := 0) dX6_fitting_2 (by decide) ?_
  refine wa_istore C (i := 4) dX6_fitting_3 (by rw [hn]; decide) rfl rfl ?_
  obtain ⟨n5, h⟩ := h
  exact WA.weak (ok_X6_fitting_5 C hv hn hd n5 _ _ _ h) ⟨rfl, ⟨rfl, ⟨rfl, ⟨rfl, ⟨rfl, trivial⟩⟩⟩⟩⟩

set_option maxRecDepth 20000 in
theorem ok_X6_firstFitting_2 {Z : fp_Z} (C : fp_C Z cX6_firstFitting RX6 ((Option.some Jvm.ClassFile.FieldType.int))) (hv : fp_V Z false) (hn : Z.2.2.2.2.1 = 4) (hd : Z.2.2.2.2.2.1 = 2) {x1 : Int32} {x2 : Int32} : ∀ (n : Nat) (x3 : Int32) (g : fp_G), w_X6_firstFitting_2 n x1 x2 x3 g Z.2.2.2.1 → WA Z 2 [some (.ref 18), some (.int x1), some (.int x2), some (.int x3)] [] g := by
  intro n
  induction n with
  | zero => intro x3 g h; exact h.elim
  | succ n ih =>
    intro x3 g h
    rw [w_X6_firstFitting_2] at h
    refine wa_iload_n C (i := 3) dX6_firstFitting_2 rfl rfl ?_
    refine wa_aload_n C (i := 0) dX6_firstFitting_3 rfl rfl ?_
    refine wa_getI C (j := 7) lq_18 sh_18 rfl in_X6 (by decide) rfl f_X6_42 dX6_firstFitting_4 ?_
    refine wa_icmp_ge C (tgt := 28) dX6_firstFitting_7 (by decide) h (fun h => ?_) (fun h => ?_)
    · refine wa_bipush C (v := (-9)) dX6_firstFitting_28 (by decide) ?_
      exact wa_iret C hv rfl dX6_firstFitting_30 h
    · refine wa_aload_n C (i := 0) dX6_firstFitting_10 rfl rfl ?_
      refine wa_iload_n C (i := 3) dX6_firstFitting_11 rfl rfl ?_
      refine wa_iload_n C (i := 1) dX6_firstFitting_12 rfl rfl ?_
      refine wa_iload_n C (i := 2) dX6_firstFitting_13 rfl rfl ?_
      refine wa_callVi C lq_18 sh_18 rfl s_X6_59 i_X6_fits e_X6_fits dX6_firstFitting_14 (ok_X6_fits h) rfl rfl (Nat.le_of_ble_eq_true rfl) (by rw [hd]; decide) (fun v1 g1 h => ?_)
      refine wa_if_eq C (tgt := 22) dX6_firstFitting_17 (by decide) h (fun h => ?_) (fun h => ?_)
      · refine wa_iinc C (i := 3) dX6_firstFitting_22 rfl (fp_inc1 _) (by rw [hn]; decide) rfl rfl ?_
        refine wa_goto C (tgt := 2) dX6_firstFitting_25 (by decide) ?_
        exact WA.weak (ih _ _ h) ⟨rfl, ⟨rfl, ⟨rfl, ⟨rfl, trivial⟩⟩⟩⟩
      · refine wa_iload_n C (i := 3) dX6_firstFitting_20 rfl rfl ?_
        exact wa_iret C hv rfl dX6_firstFitting_21 h

set_option maxRecDepth 20000 in
theorem ok_X6_firstFitting {l : Launch} {E : fp_E} {x1 : Int32} {x2 : Int32} {g : fp_G} {K : Int32 → fp_G → Prop} (h : w_X6_firstFitting x1 x2 g K) : fp_M l E yX6_firstFitting cX6_firstFitting 4 ((Option.some Jvm.ClassFile.FieldType.int)) false 2 [.ref 18, .int x1, .int x2] g K := by
  unfold w_X6_firstFitting at h
  refine fp_enter rfl [some (.ref 18), some (.int x1), some (.int x2), none] (Nat.le_of_ble_eq_true rfl) (fun q hq => hq) (fun Z hE hl hv hK hn hd C => ?_)
  subst hE hl hK
  refine wa_iconst C (v := 0) dX6_firstFitting_0 (by decide) ?_
  refine wa_istore_n C (i := 3) dX6_firstFitting_1 rfl (by rw [hn]; decide) rfl rfl ?_
  obtain ⟨n2, h⟩ := h
  exact WA.weak (ok_X6_firstFitting_2 C hv hn hd n2 _ _ h) ⟨rfl, ⟨rfl, ⟨rfl, ⟨rfl, trivial⟩⟩⟩⟩

set_option maxRecDepth 20000 in
theorem ok_X7_addSack_36 {Z : fp_Z} (C : fp_C Z cX7_addSack RX7 ((Option.some Jvm.ClassFile.FieldType.int))) (hv : fp_V Z false) (hn : Z.2.2.2.2.1 = 5) (hd : Z.2.2.2.2.2.1 = 1) {x2 : Int32} : ∀ (n : Nat) (x4 : Int32) (g : fp_G), w_X7_addSack_36 n x2 x4 g Z.2.2.2.1 → WA Z 36 [some (.ref 61), none, some (.int x2), none, some (.int x4)] [] g := by
  intro n
  induction n with
  | zero => intro x4 g h; exact h.elim
  | succ n ih =>
    intro x4 g h
    rw [w_X7_addSack_36] at h
    refine wa_iload C dX7_addSack_36 rfl ?_
    refine fp_k0 (Q := WA Z 81 [some (.ref 61), none, none, none, some (.int x4)] [] g) h (fun  h => ?_) (fun J81 hJ81 h => ?_)
    · refine wa_aload_n C (i := 0) dX7_addSack_81 rfl rfl ?_
      refine wa_getR C (j := 4) lq_61 sh_61 rfl in_X7 (by decide) rfl f_X7_21 dX7_addSack_82 ?_
      refine wa_iload C dX7_addSack_85 rfl ?_
      refine wa_aload_n C (i := 0) dX7_addSack_87 rfl rfl ?_
      refine wa_getI C (j := 3) lq_61 sh_61 rfl in_X7 (by decide) rfl f_X7_27 dX7_addSack_88 ?_
      refine wa_iast C lq_65 sh_65 dX7_addSack_91 h (fun g4 h => ?_)
      refine wa_aload_n C (i := 0) dX7_addSack_92 rfl rfl ?_
      refine wa_dup C dX7_addSack_93 rfl ?_
      refine wa_getI C (j := 3) lq_61 sh_61 rfl in_X7 (by decide) rfl f_X7_27 dX7_addSack_94 ?_
      refine wa_iconst C (v := 1) dX7_addSack_97 (by decide) ?_
      refine wa_iadd C dX7_addSack_98 ?_
      refine wa_putI C (j := 3) lq_61 sh_61 rfl in_X7 (by decide) tyX7 tyX7_ok nmX7 rfl rfl rfl f_X7_27 dX7_addSack_99 h (fun g5 h => ?_)
      refine wa_aload_n C (i := 0) dX7_addSack_102 rfl rfl ?_
      refine wa_getI C (j := 3) lq_61 sh_61 rfl in_X7 (by decide) rfl f_X7_27 dX7_addSack_103 ?_
      refine wa_iconst C (v := 1) dX7_addSack_106 (by decide) ?_
      refine wa_isub C dX7_addSack_107 ?_
      exact wa_iret C hv rfl dX7_addSack_108 h
    refine wa_if_le C (tgt := 81) dX7_addSack_38 (by decide) h (fun h => ?_) (fun h => ?_)
    · exact WA.weak (hJ81  h) ⟨rfl, ⟨rfl, trivial⟩⟩
    · refine wa_aload_n C (i := 0) dX7_addSack_41 rfl rfl ?_
      refine wa_getR C (j := 1) lq_61 sh_61 rfl in_X7 (by decide) rfl f_X7_15 dX7_addSack_42 ?_
      refine wa_aload_n C (i := 0) dX7_addSack_45 rfl rfl ?_
      refine wa_getR C (j := 4) lq_61 sh_61 rfl in_X7 (by decide) rfl f_X7_21 dX7_addSack_46 ?_
      refine wa_iload C dX7_addSack_49 rfl ?_
      refine wa_iconst C (v := 1) dX7_addSack_51 (by decide) ?_
      refine wa_isub C dX7_addSack_52 ?_
      refine wa_iald C lq_65 sh_65 dX7_addSack_53 h (fun v1 h => ?_)
      refine wa_iald C lq_63 sh_63 dX7_addSack_54 h (fun v2 h => ?_)
      refine wa_iload_n C (i := 2) dX7_addSack_55 rfl rfl ?_
      refine wa_icmp_le C (tgt := 81) dX7_addSack_56 (by decide) h (fun h => ?_) (fun h => ?_)
      · exact WA.weak (hJ81  h) ⟨rfl, ⟨rfl, trivial⟩⟩
      · refine wa_aload_n C (i := 0) dX7_addSack_59 rfl rfl ?_
        refine wa_getR C (j := 4) lq_61 sh_61 rfl in_X7 (by decide) rfl f_X7_21 dX7_addSack_60 ?_
        refine wa_iload C dX7_addSack_63 rfl ?_
        refine wa_aload_n C (i := 0) dX7_addSack_65 rfl rfl ?_
        refine wa_getR C (j := 4) lq_61 sh_61 rfl in_X7 (by decide) rfl f_X7_21 dX7_addSack_66 ?_
        refine wa_iload C dX7_addSack_69 rfl ?_
        refine wa_iconst C (v := 1) dX7_addSack_71 (by decide) ?_
        refine wa_isub C dX7_addSack_72 ?_
        refine wa_iald C lq_65 sh_65 dX7_addSack_73 h (fun v3 h => ?_)
        refine wa_iast C lq_65 sh_65 dX7_addSack_74 h (fun g6 h => ?_)
        refine wa_iinc C (i := 4) dX7_addSack_75 rfl (fp_incm1 _) (by rw [hn]; decide) rfl rfl ?_
        refine wa_goto C (tgt := 36) dX7_addSack_78 (by decide) ?_
        exact WA.weak (ih _ _ h) ⟨rfl, ⟨rfl, ⟨rfl, trivial⟩⟩⟩

set_option maxRecDepth 20000 in
theorem ok_X7_addSack {l : Launch} {E : fp_E} {x1 : Int32} {x2 : Int32} {x3 : Int32} {g : fp_G} {K : Int32 → fp_G → Prop} (h : w_X7_addSack x1 x2 x3 g K) : fp_M l E yX7_addSack cX7_addSack 5 ((Option.some Jvm.ClassFile.FieldType.int)) false 1 [.ref 61, .int x1, .int x2, .int x3] g K := by
  unfold w_X7_addSack at h
  refine fp_enter rfl [some (.ref 61), some (.int x1), some (.int x2), some (.int x3), none] (Nat.le_of_ble_eq_true rfl) (fun q hq => hq) (fun Z hE hl hv hK hn hd C => ?_)
  subst hE hl hK
  refine wa_aload_n C (i := 0) dX7_addSack_0 rfl rfl ?_
  refine wa_getR C (j := 0) lq_61 sh_61 rfl in_X7 (by decide) rfl f_X7_9 dX7_addSack_1 ?_
  refine wa_aload_n C (i := 0) dX7_addSack_4 rfl rfl ?_
  refine wa_getI C (j := 3) lq_61 sh_61 rfl in_X7 (by decide) rfl f_X7_27 dX7_addSack_5 ?_
  refine wa_iload_n C (i := 1) dX7_addSack_8 rfl rfl ?_
  refine wa_iast C lq_62 sh_62 dX7_addSack_9 h (fun g1 h => ?_)
  refine wa_aload_n C (i := 0) dX7_addSack_10 rfl rfl ?_
  refine wa_getR C (j := 1) lq_61 sh_61 rfl in_X7 (by decide) rfl f_X7_15 dX7_addSack_11 ?_
  refine wa_aload_n C (i := 0) dX7_addSack_14 rfl rfl ?_
  refine wa_getI C (j := 3) lq_61 sh_61 rfl in_X7 (by decide) rfl f_X7_27 dX7_addSack_15 ?_
  refine wa_iload_n C (i := 2) dX7_addSack_18 rfl rfl ?_
  refine wa_iast C lq_63 sh_63 dX7_addSack_19 h (fun g2 h => ?_)
  refine wa_aload_n C (i := 0) dX7_addSack_20 rfl rfl ?_
  refine wa_getR C (j := 2) lq_61 sh_61 rfl in_X7 (by decide) rfl f_X7_18 dX7_addSack_21 ?_
  refine wa_aload_n C (i := 0) dX7_addSack_24 rfl rfl ?_
  refine wa_getI C (j := 3) lq_61 sh_61 rfl in_X7 (by decide) rfl f_X7_27 dX7_addSack_25 ?_
  refine wa_iload_n C (i := 3) dX7_addSack_28 rfl rfl ?_
  refine wa_iast C lq_64 sh_64 dX7_addSack_29 h (fun g3 h => ?_)
  refine wa_aload_n C (i := 0) dX7_addSack_30 rfl rfl ?_
  refine wa_getI C (j := 3) lq_61 sh_61 rfl in_X7 (by decide) rfl f_X7_27 dX7_addSack_31 ?_
  refine wa_istore C (i := 4) dX7_addSack_34 (by rw [hn]; decide) rfl rfl ?_
  obtain ⟨n36, h⟩ := h
  exact WA.weak (ok_X7_addSack_36 C hv hn hd n36 _ _ h) ⟨rfl, ⟨rfl, ⟨rfl, trivial⟩⟩⟩

set_option maxRecDepth 20000 in
theorem ok_X7_addToRow {l : Launch} {E : fp_E} {x1 : Int32} {g : fp_G} {K : Int32 → fp_G → Prop} (h : w_X7_addToRow x1 g K) : fp_M l E yX7_addToRow cX7_addToRow 2 ((Option.some Jvm.ClassFile.FieldType.int)) false 1 [.ref 61, .int x1] g K := by
  unfold w_X7_addToRow at h
  refine fp_enter rfl [some (.ref 61), some (.int x1)] (Nat.le_of_ble_eq_true rfl) (fun q hq => hq) (fun Z hE hl hv hK hn hd C => ?_)
  subst hE hl hK
  refine wa_aload_n C (i := 0) dX7_addToRow_0 rfl rfl ?_
  refine wa_getR C (j := 5) lq_61 sh_61 rfl in_X7 (by decide) rfl f_X7_24 dX7_addToRow_1 ?_
  refine wa_aload_n C (i := 0) dX7_addToRow_4 rfl rfl ?_
  refine wa_getI C (j := 6) lq_61 sh_61 rfl in_X7 (by decide) rfl f_X7_31 dX7_addToRow_5 ?_
  refine wa_iload_n C (i := 1) dX7_addToRow_8 rfl rfl ?_
  refine wa_iast C lq_66 sh_66 dX7_addToRow_9 h (fun g1 h => ?_)
  refine wa_aload_n C (i := 0) dX7_addToRow_10 rfl rfl ?_
  refine wa_dup C dX7_addToRow_11 rfl ?_
  refine wa_getI C (j := 6) lq_61 sh_61 rfl in_X7 (by decide) rfl f_X7_31 dX7_addToRow_12 ?_
  refine wa_iconst C (v := 1) dX7_addToRow_15 (by decide) ?_
  refine wa_iadd C dX7_addToRow_16 ?_
  refine wa_putI C (j := 6) lq_61 sh_61 rfl in_X7 (by decide) tyX7 tyX7_ok nmX7 rfl rfl rfl f_X7_31 dX7_addToRow_17 h (fun g2 h => ?_)
  refine wa_aload_n C (i := 0) dX7_addToRow_20 rfl rfl ?_
  refine wa_getI C (j := 6) lq_61 sh_61 rfl in_X7 (by decide) rfl f_X7_31 dX7_addToRow_21 ?_
  exact wa_iret C hv rfl dX7_addToRow_24 h

set_option maxRecDepth 20000 in
theorem ok_X7_isIn {l : Launch} {E : fp_E} {x0 : Int32} {x1 : Int32} {g : fp_G} {K : Int32 → fp_G → Prop} (h : w_X7_isIn x0 x1 g K) : fp_M l E yX7_isIn cX7_isIn 2 ((Option.some Jvm.ClassFile.FieldType.boolean)) false 1 [.int x0, .int x1] g K := by
  unfold w_X7_isIn at h
  refine fp_enter rfl [some (.int x0), some (.int x1)] (Nat.le_of_ble_eq_true rfl) (fun q hq => hq) (fun Z hE hl hv hK hn hd C => ?_)
  subst hE hl hK
  refine wa_iload_n C (i := 1) dX7_isIn_0 rfl rfl ?_
  refine wa_iload_n C (i := 0) dX7_isIn_1 rfl rfl ?_
  refine wa_ishr C dX7_isIn_2 ?_
  refine wa_iconst C (v := 1) dX7_isIn_3 (by decide) ?_
  refine wa_iand C dX7_isIn_4 ?_
  refine wa_iconst C (v := 1) dX7_isIn_5 (by decide) ?_
  refine wa_icmp_ne C (tgt := 13) dX7_isIn_6 (by decide) h (fun h => ?_) (fun h => ?_)
  · refine wa_iconst C (v := 1) dX7_isIn_9 (by decide) ?_
    refine wa_goto C (tgt := 14) dX7_isIn_10 (by decide) ?_
    exact wa_zret C hv rfl rfl dX7_isIn_14 h
  · refine wa_iconst C (v := 0) dX7_isIn_13 (by decide) ?_
    exact wa_zret C hv rfl rfl dX7_isIn_14 h
