set_option maxRecDepth 20000 in
theorem ok_X0_copyFrom {l : Launch} {E : fp_E} {c : Nat} (hc : fp_isC c) {x2 : Int32} {g : fp_G} {K : Int32 → fp_G → Prop} (h : w_X0_copyFrom c x2 g K) : fp_M l E yX0_copyFrom cX0_copyFrom 3 ((Option.none : Option Jvm.ClassFile.FieldType)) true 1 [.ref c, .ref 43, .int x2] g K := by
  unfold w_X0_copyFrom at h
  refine fp_enter rfl [some (.ref c), some (.ref 43), some (.int x2)] (Nat.le_of_ble_eq_true rfl) (fun q hq => hq) (fun Z hE hl hv hK hn hd C => ?_)
  subst hE hl hK
  refine wa_aload_n C (i := 1) dX0_copyFrom_0 rfl rfl ?_
  refine wa_getR C (j := 0) lq_43 sh_43 rfl in_X0 (by decide) rfl f_X0_9 dX0_copyFrom_1 ?_
  refine wa_iconst C (v := 0) dX0_copyFrom_4 (by decide) ?_
  refine wa_aload_n C (i := 0) dX0_copyFrom_5 rfl rfl ?_
  refine wa_getR C (j := 0) (ltC0 hc) (shC hc) rfl in_X0 (by decide) rfl f_X0_9 dX0_copyFrom_6 ?_
  refine wa_iconst C (v := 0) dX0_copyFrom_9 (by decide) ?_
  refine wa_iload_n C (i := 2) dX0_copyFrom_10 rfl rfl ?_
  refine wa_copy C (t0 := 0) lq_44 sh_44 (ltC hc (by decide)) (shC_1 hc) rfl rfl q_X0_44 (by rw [hd]; decide) (Nat.le_of_ble_eq_true rfl) dX0_copyFrom_11 h (fun g1 h => ?_)
  refine wa_aload_n C (i := 1) dX0_copyFrom_14 rfl rfl ?_
  refine wa_getR C (j := 1) lq_43 sh_43 rfl in_X0 (by decide) rfl f_X0_15 dX0_copyFrom_15 ?_
  refine wa_iconst C (v := 0) dX0_copyFrom_18 (by decide) ?_
  refine wa_aload_n C (i := 0) dX0_copyFrom_19 rfl rfl ?_
  refine wa_getR C (j := 1) (ltC0 hc) (shC hc) rfl in_X0 (by decide) rfl f_X0_15 dX0_copyFrom_20 ?_
  refine wa_iconst C (v := 0) dX0_copyFrom_23 (by decide) ?_
  refine wa_iload_n C (i := 2) dX0_copyFrom_24 rfl rfl ?_
  refine wa_copy C (t0 := 0) lq_45 sh_45 (ltC hc (by decide)) (shC_2 hc) rfl rfl q_X0_44 (by rw [hd]; decide) (Nat.le_of_ble_eq_true rfl) dX0_copyFrom_25 h (fun g2 h => ?_)
  refine wa_aload_n C (i := 1) dX0_copyFrom_28 rfl rfl ?_
  refine wa_getR C (j := 2) lq_43 sh_43 rfl in_X0 (by decide) rfl f_X0_18 dX0_copyFrom_29 ?_
  refine wa_iconst C (v := 0) dX0_copyFrom_32 (by decide) ?_
  refine wa_aload_n C (i := 0) dX0_copyFrom_33 rfl rfl ?_
  refine wa_getR C (j := 2) (ltC0 hc) (shC hc) rfl in_X0 (by decide) rfl f_X0_18 dX0_copyFrom_34 ?_
  refine wa_iconst C (v := 0) dX0_copyFrom_37 (by decide) ?_
  refine wa_iload_n C (i := 2) dX0_copyFrom_38 rfl rfl ?_
  refine wa_copy C (t0 := 0) lq_46 sh_46 (ltC hc (by decide)) (shC_3 hc) rfl rfl q_X0_44 (by rw [hd]; decide) (Nat.le_of_ble_eq_true rfl) dX0_copyFrom_39 h (fun g3 h => ?_)
  refine wa_aload_n C (i := 1) dX0_copyFrom_42 rfl rfl ?_
  refine wa_getR C (j := 3) lq_43 sh_43 rfl in_X0 (by decide) rfl f_X0_21 dX0_copyFrom_43 ?_
  refine wa_iconst C (v := 0) dX0_copyFrom_46 (by decide) ?_
  refine wa_aload_n C (i := 0) dX0_copyFrom_47 rfl rfl ?_
  refine wa_getR C (j := 3) (ltC0 hc) (shC hc) rfl in_X0 (by decide) rfl f_X0_21 dX0_copyFrom_48 ?_
  refine wa_iconst C (v := 0) dX0_copyFrom_51 (by decide) ?_
  refine wa_iload_n C (i := 2) dX0_copyFrom_52 rfl rfl ?_
  refine wa_copy C (t0 := 1) lq_47 sh_47 (ltC hc (by decide)) (shC_4 hc) rfl rfl q_X0_44 (by rw [hd]; decide) (Nat.le_of_ble_eq_true rfl) dX0_copyFrom_53 h (fun g4 h => ?_)
  refine wa_aload_n C (i := 1) dX0_copyFrom_56 rfl rfl ?_
  refine wa_getR C (j := 4) lq_43 sh_43 rfl in_X0 (by decide) rfl f_X0_25 dX0_copyFrom_57 ?_
  refine wa_iconst C (v := 0) dX0_copyFrom_60 (by decide) ?_
  refine wa_aload_n C (i := 0) dX0_copyFrom_61 rfl rfl ?_
  refine wa_getR C (j := 4) (ltC0 hc) (shC hc) rfl in_X0 (by decide) rfl f_X0_25 dX0_copyFrom_62 ?_
  refine wa_iconst C (v := 0) dX0_copyFrom_65 (by decide) ?_
  refine wa_iload_n C (i := 2) dX0_copyFrom_66 rfl rfl ?_
  refine wa_copy C (t0 := 0) lq_48 sh_48 (ltC hc (by decide)) (shC_5 hc) rfl rfl q_X0_44 (by rw [hd]; decide) (Nat.le_of_ble_eq_true rfl) dX0_copyFrom_67 h (fun g5 h => ?_)
  refine wa_aload_n C (i := 1) dX0_copyFrom_70 rfl rfl ?_
  refine wa_getR C (j := 5) lq_43 sh_43 rfl in_X0 (by decide) rfl f_X0_28 dX0_copyFrom_71 ?_
  refine wa_iconst C (v := 0) dX0_copyFrom_74 (by decide) ?_
  refine wa_aload_n C (i := 0) dX0_copyFrom_75 rfl rfl ?_
  refine wa_getR C (j := 5) (ltC0 hc) (shC hc) rfl in_X0 (by decide) rfl f_X0_28 dX0_copyFrom_76 ?_
  refine wa_iconst C (v := 0) dX0_copyFrom_79 (by decide) ?_
  refine wa_iload_n C (i := 2) dX0_copyFrom_80 rfl rfl ?_
  refine wa_copy C (t0 := 0) lq_49 sh_49 (ltC hc (by decide)) (shC_6 hc) rfl rfl q_X0_44 (by rw [hd]; decide) (Nat.le_of_ble_eq_true rfl) dX0_copyFrom_81 h (fun g6 h => ?_)
  refine wa_aload_n C (i := 1) dX0_copyFrom_84 rfl rfl ?_
  refine wa_getR C (j := 6) lq_43 sh_43 rfl in_X0 (by decide) rfl f_X0_31 dX0_copyFrom_85 ?_
  refine wa_iconst C (v := 0) dX0_copyFrom_88 (by decide) ?_
  refine wa_aload_n C (i := 0) dX0_copyFrom_89 rfl rfl ?_
  refine wa_getR C (j := 6) (ltC0 hc) (shC hc) rfl in_X0 (by decide) rfl f_X0_31 dX0_copyFrom_90 ?_
  refine wa_iconst C (v := 0) dX0_copyFrom_93 (by decide) ?_
  refine wa_iload_n C (i := 2) dX0_copyFrom_94 rfl rfl ?_
  refine wa_copy C (t0 := 1) lq_50 sh_50 (ltC hc (by decide)) (shC_7 hc) rfl rfl q_X0_44 (by rw [hd]; decide) (Nat.le_of_ble_eq_true rfl) dX0_copyFrom_95 h (fun g7 h => ?_)
  exact wa_vret C hv rfl dX0_copyFrom_98 h

set_option maxRecDepth 20000 in
theorem ok_X0_come {l : Launch} {E : fp_E} {c : Nat} (hc : fp_isC c) {x1 : Int32} {g : fp_G} {K : Int32 → fp_G → Prop} (h : w_X0_come c x1 g K) : fp_M l E yX0_come cX0_come 3 ((Option.none : Option Jvm.ClassFile.FieldType)) true 1 [.ref c, .int x1] g K := by
  unfold w_X0_come at h
  refine fp_enter rfl [some (.ref c), some (.int x1), none] (Nat.le_of_ble_eq_true rfl) (fun q hq => hq) (fun Z hE hl hv hK hn hd C => ?_)
  subst hE hl hK
  refine wa_aload_n C (i := 0) dX0_come_0 rfl rfl ?_
  refine wa_getR C (j := 0) (ltC0 hc) (shC hc) rfl in_X0 (by decide) rfl f_X0_9 dX0_come_1 ?_
  refine wa_iload_n C (i := 1) dX0_come_4 rfl rfl ?_
  refine wa_iconst C (v := 0) dX0_come_5 (by decide) ?_
  refine wa_iast C (ltC hc (by decide)) (shC_1 hc) dX0_come_6 h (fun g1 h => ?_)
  refine wa_iload_n C (i := 1) dX0_come_7 rfl rfl ?_
  refine wa_bipush C (v := 40) dX0_come_8 (by decide) ?_
  refine wa_imul C dX0_come_10 ?_
  refine wa_aload_n C (i := 0) dX0_come_11 rfl rfl ?_
  refine wa_getR C (j := 5) (ltC0 hc) (shC hc) rfl in_X0 (by decide) rfl f_X0_28 dX0_come_12 ?_
  refine wa_iload_n C (i := 1) dX0_come_15 rfl rfl ?_
  refine wa_iald C (ltC hc (by decide)) (shC_6 hc) dX0_come_16 h (fun v1 h => ?_)
  refine wa_iadd C dX0_come_17 ?_
  refine wa_istore_n C (i := 2) dX0_come_18 rfl (by rw [hn]; decide) rfl rfl ?_
  refine wa_aload_n C (i := 0) dX0_come_19 rfl rfl ?_
  refine wa_getR C (j := 5) (ltC0 hc) (shC hc) rfl in_X0 (by decide) rfl f_X0_28 dX0_come_20 ?_
  refine wa_iload_n C (i := 1) dX0_come_23 rfl rfl ?_
  refine wa_iald C (ltC hc (by decide)) (shC_6 hc) dX0_come_24 h (fun v2 h => ?_)
  refine wa_bipush C (v := 40) dX0_come_25 (by decide) ?_
  refine fp_j0 (Q := fun g2 => WA Z 52 [some (.ref c), some (.int x1), none] [] g2) h (fun g2 h => ?_) (fun J52 hJ52 h => ?_)
  · refine wa_aload_n C (i := 0) dX0_come_52 rfl rfl ?_
    refine wa_getR C (j := 5) (ltC0 hc) (shC hc) rfl in_X0 (by decide) rfl f_X0_28 dX0_come_53 ?_
    refine wa_iload_n C (i := 1) dX0_come_56 rfl rfl ?_
    refine wa_dup2 C dX0_come_57 rfl rfl ?_
    refine wa_iald C (ltC hc (by decide)) (shC_6 hc) dX0_come_58 h (fun v3 h => ?_)
    refine wa_iconst C (v := 1) dX0_come_59 (by decide) ?_
    refine wa_iadd C dX0_come_60 ?_
    refine wa_iast C (ltC hc (by decide)) (shC_6 hc) dX0_come_61 h (fun g3 h => ?_)
    exact wa_vret C hv rfl dX0_come_62 h
  refine wa_icmp_ge C (tgt := 52) dX0_come_27 (by decide) h (fun h => ?_) (fun h => ?_)
  · exact WA.weak (hJ52 _ h) ⟨rfl, ⟨rfl, trivial⟩⟩
  · refine wa_iload_n C (i := 2) dX0_come_30 rfl rfl ?_
    refine wa_aload_n C (i := 0) dX0_come_31 rfl rfl ?_
    refine wa_getR C (j := 7) (ltC0 hc) (shC hc) rfl in_X0 (by decide) rfl f_X0_40 dX0_come_32 ?_
    refine wa_alen C (t0 := 2) (v := Int32.ofNat (fp_trl c)) (ltC hc (by decide)) (shC_8 hc) rfl rfl dX0_come_35 ?_
    refine wa_icmp_ge C (tgt := 52) dX0_come_36 (by decide) h (fun h => ?_) (fun h => ?_)
    · exact WA.weak (hJ52 _ h) ⟨rfl, ⟨rfl, trivial⟩⟩
    · refine wa_aload_n C (i := 0) dX0_come_39 rfl rfl ?_
      refine wa_getR C (j := 7) (ltC0 hc) (shC hc) rfl in_X0 (by decide) rfl f_X0_40 dX0_come_40 ?_
      refine wa_iload_n C (i := 2) dX0_come_43 rfl rfl ?_
      refine wa_aload_n C (i := 0) dX0_come_44 rfl rfl ?_
      refine wa_getR C (j := 1) (ltC0 hc) (shC hc) rfl in_X0 (by decide) rfl f_X0_15 dX0_come_45 ?_
      refine wa_iload_n C (i := 1) dX0_come_48 rfl rfl ?_
      refine wa_iald C (ltC hc (by decide)) (shC_2 hc) dX0_come_49 h (fun v4 h => ?_)
      refine wa_i2b C dX0_come_50 ?_
      refine wa_bast C (ltC hc (by decide)) (shC_8 hc) dX0_come_51 h (fun g4 h => ?_)
      exact WA.weak (hJ52 _ h) ⟨rfl, ⟨rfl, trivial⟩⟩

set_option maxRecDepth 20000 in
theorem ok_X0_begin {l : Launch} {E : fp_E} {c : Nat} (hc : fp_isC c) {x1 : Int32} {x2 : Int32} {x3 : Int32} {g : fp_G} {K : Int32 → fp_G → Prop} (h : w_X0_begin c x1 x2 x3 g K) : fp_M l E yX0_begin cX0_begin 4 ((Option.none : Option Jvm.ClassFile.FieldType)) true 2 [.ref c, .int x1, .int x2, .int x3] g K := by
  unfold w_X0_begin at h
  refine fp_enter rfl [some (.ref c), some (.int x1), some (.int x2), some (.int x3)] (Nat.le_of_ble_eq_true rfl) (fun q hq => hq) (fun Z hE hl hv hK hn hd C => ?_)
  subst hE hl hK
  refine wa_aload_n C (i := 0) dX0_begin_0 rfl rfl ?_
  refine wa_getR C (j := 1) (ltC0 hc) (shC hc) rfl in_X0 (by decide) rfl f_X0_15 dX0_begin_1 ?_
  refine wa_iload_n C (i := 1) dX0_begin_4 rfl rfl ?_
  refine wa_iload_n C (i := 2) dX0_begin_5 rfl rfl ?_
  refine wa_iast C (ltC hc (by decide)) (shC_2 hc) dX0_begin_6 h (fun g1 h => ?_)
  refine wa_aload_n C (i := 0) dX0_begin_7 rfl rfl ?_
  refine wa_getR C (j := 2) (ltC0 hc) (shC hc) rfl in_X0 (by decide) rfl f_X0_18 dX0_begin_8 ?_
  refine wa_iload_n C (i := 1) dX0_begin_11 rfl rfl ?_
  refine wa_iload_n C (i := 3) dX0_begin_12 rfl rfl ?_
  refine wa_iast C (ltC hc (by decide)) (shC_3 hc) dX0_begin_13 h (fun g2 h => ?_)
  refine wa_aload_n C (i := 0) dX0_begin_14 rfl rfl ?_
  refine wa_iload_n C (i := 1) dX0_begin_15 rfl rfl ?_
  refine wa_callVv C (ltC0 hc) (shC hc) rfl s_X0_50 i_X0_come e_X0_come dX0_begin_16 (ok_X0_come hc h) rfl rfl (Nat.le_of_ble_eq_true rfl) (by rw [hd]; decide) (fun g3 h => ?_)
  exact wa_vret C hv rfl dX0_begin_19 h

set_option maxRecDepth 20000 in
theorem ok_X0_arrive_2 {Z : fp_Z} (C : fp_C Z cX0_arrive RX0 ((Option.none : Option Jvm.ClassFile.FieldType))) (hv : fp_V Z true) (hn : Z.2.2.2.2.1 = 4) (hd : Z.2.2.2.2.2.1 = 2) {c : Nat} (hc : fp_isC c) {x1 : Int32} {x2 : Int32} : ∀ (n : Nat) (x3 : Int32) (g : fp_G), w_X0_arrive_2 n c x1 x2 x3 g Z.2.2.2.1 → WA Z 2 [some (.ref c), some (.int x1), some (.int x2), some (.int x3)] [] g := by
  intro n
  induction n with
  | zero => intro x3 g h; exact h.elim
  | succ n ih =>
    intro x3 g h
    rw [w_X0_arrive_2] at h
    refine wa_iload_n C (i := 3) dX0_arrive_2 rfl rfl ?_
    refine wa_iload_n C (i := 1) dX0_arrive_3 rfl rfl ?_
    refine wa_icmp_ge C (tgt := 38) dX0_arrive_4 (by decide) h (fun h => ?_) (fun h => ?_)
    · exact wa_vret C hv rfl dX0_arrive_38 h
    · refine wa_aload_n C (i := 0) dX0_arrive_7 rfl rfl ?_
      refine wa_getR C (j := 0) (ltC0 hc) (shC hc) rfl in_X0 (by decide) rfl f_X0_9 dX0_arrive_8 ?_
      refine wa_iload_n C (i := 3) dX0_arrive_11 rfl rfl ?_
      refine wa_iald C (ltC hc (by decide)) (shC_1 hc) dX0_arrive_12 h (fun v1 h => ?_)
      refine wa_iconst C (v := 1) dX0_arrive_13 (by decide) ?_
      refine fp_j0 (Q := fun g1 => WA Z 32 [some (.ref c), some (.int x1), some (.int x2), some (.int x3)] [] g1) h (fun g1 h => ?_) (fun J32 hJ32 h => ?_)
      · refine wa_iinc C (i := 3) dX0_arrive_32 rfl (fp_inc1 _) (by rw [hn]; decide) rfl rfl ?_
        refine wa_goto C (tgt := 2) dX0_arrive_35 (by decide) ?_
        exact WA.weak (ih _ _ h) ⟨rfl, ⟨rfl, ⟨rfl, ⟨rfl, trivial⟩⟩⟩⟩
      refine wa_icmp_ne C (tgt := 32) dX0_arrive_14 (by decide) h (fun h => ?_) (fun h => ?_)
      · refine wa_aload_n C (i := 0) dX0_arrive_17 rfl rfl ?_
        refine wa_getR C (j := 2) (ltC0 hc) (shC hc) rfl in_X0 (by decide) rfl f_X0_18 dX0_arrive_18 ?_
        refine wa_iload_n C (i := 3) dX0_arrive_21 rfl rfl ?_
        refine wa_iald C (ltC hc (by decide)) (shC_3 hc) dX0_arrive_22 h (fun v2 h => ?_)
        refine wa_iload_n C (i := 2) dX0_arrive_23 rfl rfl ?_
        refine wa_icmp_ne C (tgt := 32) dX0_arrive_24 (by decide) h (fun h => ?_) (fun h => ?_)
        · refine wa_aload_n C (i := 0) dX0_arrive_27 rfl rfl ?_
          refine wa_iload_n C (i := 3) dX0_arrive_28 rfl rfl ?_
          refine wa_callVv C (ltC0 hc) (shC hc) rfl s_X0_50 i_X0_come e_X0_come dX0_arrive_29 (ok_X0_come hc h) rfl rfl (Nat.le_of_ble_eq_true rfl) (by rw [hd]; decide) (fun g2 h => ?_)
          exact WA.weak (hJ32 _ h) ⟨rfl, ⟨rfl, ⟨rfl, ⟨rfl, trivial⟩⟩⟩⟩
        · exact WA.weak (hJ32 _ h) ⟨rfl, ⟨rfl, ⟨rfl, ⟨rfl, trivial⟩⟩⟩⟩
      · exact WA.weak (hJ32 _ h) ⟨rfl, ⟨rfl, ⟨rfl, ⟨rfl, trivial⟩⟩⟩⟩

set_option maxRecDepth 20000 in
theorem ok_X0_arrive {l : Launch} {E : fp_E} {c : Nat} (hc : fp_isC c) {x1 : Int32} {x2 : Int32} {g : fp_G} {K : Int32 → fp_G → Prop} (h : w_X0_arrive c x1 x2 g K) : fp_M l E yX0_arrive cX0_arrive 4 ((Option.none : Option Jvm.ClassFile.FieldType)) true 2 [.ref c, .int x1, .int x2] g K := by
  unfold w_X0_arrive at h
  refine fp_enter rfl [some (.ref c), some (.int x1), some (.int x2), none] (Nat.le_of_ble_eq_true rfl) (fun q hq => hq) (fun Z hE hl hv hK hn hd C => ?_)
  subst hE hl hK
  refine wa_iconst C (v := 0) dX0_arrive_0 (by decide) ?_
  refine wa_istore_n C (i := 3) dX0_arrive_1 rfl (by rw [hn]; decide) rfl rfl ?_
  obtain ⟨n2, h⟩ := h
  exact WA.weak (ok_X0_arrive_2 C hv hn hd hc n2 _ _ h) ⟨rfl, ⟨rfl, ⟨rfl, ⟨rfl, trivial⟩⟩⟩⟩

set_option maxRecDepth 20000 in
theorem ok_X0_send {l : Launch} {E : fp_E} {c : Nat} (hc : fp_isC c) {x1 : Int32} {x2 : Int32} {x3 : Int32} {g : fp_G} {K : Int32 → fp_G → Prop} (h : w_X0_send c x1 x2 x3 g K) : fp_M l E yX0_send cX0_send 4 ((Option.none : Option Jvm.ClassFile.FieldType)) true 1 [.ref c, .int x1, .int x2, .int x3] g K := by
  unfold w_X0_send at h
  refine fp_enter rfl [some (.ref c), some (.int x1), some (.int x2), some (.int x3)] (Nat.le_of_ble_eq_true rfl) (fun q hq => hq) (fun Z hE hl hv hK hn hd C => ?_)
  subst hE hl hK
  refine wa_aload_n C (i := 0) dX0_send_0 rfl rfl ?_
  refine wa_getR C (j := 0) (ltC0 hc) (shC hc) rfl in_X0 (by decide) rfl f_X0_9 dX0_send_1 ?_
  refine wa_iload_n C (i := 1) dX0_send_4 rfl rfl ?_
  refine wa_iconst C (v := 1) dX0_send_5 (by decide) ?_
  refine wa_iast C (ltC hc (by decide)) (shC_1 hc) dX0_send_6 h (fun g1 h => ?_)
  refine wa_aload_n C (i := 0) dX0_send_7 rfl rfl ?_
  refine wa_getR C (j := 1) (ltC0 hc) (shC hc) rfl in_X0 (by decide) rfl f_X0_15 dX0_send_8 ?_
  refine wa_iload_n C (i := 1) dX0_send_11 rfl rfl ?_
  refine wa_iload_n C (i := 2) dX0_send_12 rfl rfl ?_
  refine wa_iast C (ltC hc (by decide)) (shC_2 hc) dX0_send_13 h (fun g2 h => ?_)
  refine wa_aload_n C (i := 0) dX0_send_14 rfl rfl ?_
  refine wa_getR C (j := 2) (ltC0 hc) (shC hc) rfl in_X0 (by decide) rfl f_X0_18 dX0_send_15 ?_
  refine wa_iload_n C (i := 1) dX0_send_18 rfl rfl ?_
  refine wa_iload_n C (i := 3) dX0_send_19 rfl rfl ?_
  refine wa_iast C (ltC hc (by decide)) (shC_3 hc) dX0_send_20 h (fun g3 h => ?_)
  exact wa_vret C hv rfl dX0_send_21 h

set_option maxRecDepth 20000 in
theorem ok_X0_turn {l : Launch} {E : fp_E} {c : Nat} (hc : fp_isC c) {x1 : Int32} {x2 : Int32} {g : fp_G} {K : Int32 → fp_G → Prop} (h : w_X0_turn c x1 x2 g K) : fp_M l E yX0_turn cX0_turn 3 ((Option.none : Option Jvm.ClassFile.FieldType)) true 1 [.ref c, .int x1, .int x2] g K := by
  unfold w_X0_turn at h
  refine fp_enter rfl [some (.ref c), some (.int x1), some (.int x2)] (Nat.le_of_ble_eq_true rfl) (fun q hq => hq) (fun Z hE hl hv hK hn hd C => ?_)
  subst hE hl hK
  refine wa_aload_n C (i := 0) dX0_turn_0 rfl rfl ?_
  refine wa_getR C (j := 3) (ltC0 hc) (shC hc) rfl in_X0 (by decide) rfl f_X0_21 dX0_turn_1 ?_
  refine wa_iload_n C (i := 1) dX0_turn_4 rfl rfl ?_
  refine wa_iconst C (v := 1) dX0_turn_5 (by decide) ?_
  refine wa_zast C (ltC hc (by decide)) (shC_4 hc) dX0_turn_6 h (fun g1 h => ?_)
  refine wa_aload_n C (i := 0) dX0_turn_7 rfl rfl ?_
  refine wa_getR C (j := 4) (ltC0 hc) (shC hc) rfl in_X0 (by decide) rfl f_X0_25 dX0_turn_8 ?_
  refine wa_iload_n C (i := 1) dX0_turn_11 rfl rfl ?_
  refine wa_iload_n C (i := 2) dX0_turn_12 rfl rfl ?_
  refine wa_iast C (ltC hc (by decide)) (shC_5 hc) dX0_turn_13 h (fun g2 h => ?_)
  exact wa_vret C hv rfl dX0_turn_14 h

set_option maxRecDepth 20000 in
theorem ok_X0_finish {l : Launch} {E : fp_E} {c : Nat} (hc : fp_isC c) {x1 : Int32} {x2 : Int32} {x3 : Int32} {g : fp_G} {K : Int32 → fp_G → Prop} (h : w_X0_finish c x1 x2 x3 g K) : fp_M l E yX0_finish cX0_finish 4 ((Option.none : Option Jvm.ClassFile.FieldType)) true 1 [.ref c, .int x1, .int x2, .int x3] g K := by
  unfold w_X0_finish at h
  refine fp_enter rfl [some (.ref c), some (.int x1), some (.int x2), some (.int x3)] (Nat.le_of_ble_eq_true rfl) (fun q hq => hq) (fun Z hE hl hv hK hn hd C => ?_)
  subst hE hl hK
  refine wa_aload_n C (i := 0) dX0_finish_0 rfl rfl ?_
  refine wa_getR C (j := 0) (ltC0 hc) (shC hc) rfl in_X0 (by decide) rfl f_X0_9 dX0_finish_1 ?_
  refine wa_iload_n C (i := 1) dX0_finish_4 rfl rfl ?_
  refine wa_iload_n C (i := 2) dX0_finish_5 rfl rfl ?_
  refine wa_iast C (ltC hc (by decide)) (shC_1 hc) dX0_finish_6 h (fun g1 h => ?_)
  refine wa_aload_n C (i := 0) dX0_finish_7 rfl rfl ?_
  refine wa_getR C (j := 2) (ltC0 hc) (shC hc) rfl in_X0 (by decide) rfl f_X0_18 dX0_finish_8 ?_
  refine wa_iload_n C (i := 1) dX0_finish_11 rfl rfl ?_
  refine wa_iload_n C (i := 3) dX0_finish_12 rfl rfl ?_
  refine wa_iast C (ltC hc (by decide)) (shC_3 hc) dX0_finish_13 h (fun g2 h => ?_)
  exact wa_vret C hv rfl dX0_finish_14 h

set_option maxRecDepth 20000 in
theorem ok_X0_ended {l : Launch} {E : fp_E} {c : Nat} (hc : fp_isC c) {x1 : Int32} {g : fp_G} {K : Int32 → fp_G → Prop} (h : w_X0_ended c x1 g K) : fp_M l E yX0_ended cX0_ended 2 ((Option.some Jvm.ClassFile.FieldType.boolean)) false 1 [.ref c, .int x1] g K := by
  unfold w_X0_ended at h
  refine fp_enter rfl [some (.ref c), some (.int x1)] (Nat.le_of_ble_eq_true rfl) (fun q hq => hq) (fun Z hE hl hv hK hn hd C => ?_)
  subst hE hl hK
  refine wa_aload_n C (i := 0) dX0_ended_0 rfl rfl ?_
  refine wa_getR C (j := 0) (ltC0 hc) (shC hc) rfl in_X0 (by decide) rfl f_X0_9 dX0_ended_1 ?_
  refine wa_iload_n C (i := 1) dX0_ended_4 rfl rfl ?_
  refine wa_iald C (ltC hc (by decide)) (shC_1 hc) dX0_ended_5 h (fun v1 h => ?_)
  refine wa_iconst C (v := 2) dX0_ended_6 (by decide) ?_
  refine wa_icmp_lt C (tgt := 14) dX0_ended_7 (by decide) h (fun h => ?_) (fun h => ?_)
  · refine wa_iconst C (v := 0) dX0_ended_14 (by decide) ?_
    exact wa_zret C hv rfl rfl dX0_ended_15 h
  · refine wa_iconst C (v := 1) dX0_ended_10 (by decide) ?_
    refine wa_goto C (tgt := 15) dX0_ended_11 (by decide) ?_
    exact wa_zret C hv rfl rfl dX0_ended_15 h

set_option maxRecDepth 20000 in
theorem ok_X0_howMany_5 {Z : fp_Z} (C : fp_C Z cX0_howMany RX0 ((Option.some Jvm.ClassFile.FieldType.int))) (hv : fp_V Z false) (hn : Z.2.2.2.2.1 = 5) (hd : Z.2.2.2.2.2.1 = 1) {c : Nat} (hc : fp_isC c) {x1 : Int32} {x2 : Int32} : ∀ (n : Nat) (x3 : Int32) (x4 : Int32) (g : fp_G), w_X0_howMany_5 n c x1 x2 x3 x4 g Z.2.2.2.1 → WA Z 5 [some (.ref c), some (.int x1), some (.int x2), some (.int x3), some (.int x4)] [] g := by
  intro n
  induction n with
  | zero => intro x3 x4 g h; exact h.elim
  | succ n ih =>
    intro x3 x4 g h
    rw [w_X0_howMany_5] at h
    refine wa_iload C dX0_howMany_5 rfl ?_
    refine wa_iload_n C (i := 2) dX0_howMany_7 rfl rfl ?_
    refine wa_icmp_ge C (tgt := 31) dX0_howMany_8 (by decide) h (fun h => ?_) (fun h => ?_)
    · refine wa_iload_n C (i := 3) dX0_howMany_31 rfl rfl ?_
      exact wa_iret C hv rfl dX0_howMany_32 h
    · refine wa_aload_n C (i := 0) dX0_howMany_11 rfl rfl ?_
      refine wa_getR C (j := 0) (ltC0 hc) (shC hc) rfl in_X0 (by decide) rfl f_X0_9 dX0_howMany_12 ?_
      refine wa_iload C dX0_howMany_15 rfl ?_
      refine wa_iald C (ltC hc (by decide)) (shC_1 hc) dX0_howMany_17 h (fun v1 h => ?_)
      refine wa_iload_n C (i := 1) dX0_howMany_18 rfl rfl ?_
      refine fp_k1 (Q := fun x3j25 => WA Z 25 [some (.ref c), some (.int x1), some (.int x2), some (.int x3j25), some (.int x4)] [] g) h (fun x3j25 h => ?_) (fun J25 hJ25 h => ?_)
      · refine wa_iinc C (i := 4) dX0_howMany_25 rfl (fp_inc1 _) (by rw [hn]; decide) rfl rfl ?_
        refine wa_goto C (tgt := 5) dX0_howMany_28 (by decide) ?_
        exact WA.weak (ih _ _ _ h) ⟨rfl, ⟨rfl, ⟨rfl, ⟨rfl, ⟨rfl, trivial⟩⟩⟩⟩⟩
      refine wa_icmp_ne C (tgt := 25) dX0_howMany_19 (by decide) h (fun h => ?_) (fun h => ?_)
      · refine wa_iinc C (i := 3) dX0_howMany_22 rfl (fp_inc1 _) (by rw [hn]; decide) rfl rfl ?_
        exact WA.weak (hJ25 _ h) ⟨rfl, ⟨rfl, ⟨rfl, ⟨rfl, ⟨rfl, trivial⟩⟩⟩⟩⟩
      · exact WA.weak (hJ25 _ h) ⟨rfl, ⟨rfl, ⟨rfl, ⟨rfl, ⟨rfl, trivial⟩⟩⟩⟩⟩

set_option maxRecDepth 20000 in
theorem ok_X0_howMany {l : Launch} {E : fp_E} {c : Nat} (hc : fp_isC c) {x1 : Int32} {x2 : Int32} {g : fp_G} {K : Int32 → fp_G → Prop} (h : w_X0_howMany c x1 x2 g K) : fp_M l E yX0_howMany cX0_howMany 5 ((Option.some Jvm.ClassFile.FieldType.int)) false 1 [.ref c, .int x1, .int x2] g K := by
  unfold w_X0_howMany at h
  refine fp_enter rfl [some (.ref c), some (.int x1), some (.int x2), none, none] (Nat.le_of_ble_eq_true rfl) (fun q hq => hq) (fun Z hE hl hv hK hn hd C => ?_)
  subst hE hl hK
  refine wa_iconst C (v := 0) dX0_howMany_0 (by decide) ?_
  refine wa_istore_n C (i := 3) dX0_howMany_1 rfl (by rw [hn]; decide) rfl rfl ?_
  refine wa_iconst C (v := 0) dX0_howMany_2 (by decide) ?_
  refine wa_istore C (i := 4) dX0_howMany_3 (by rw [hn]; decide) rfl rfl ?_
  obtain ⟨n5, h⟩ := h
  exact WA.weak (ok_X0_howMany_5 C hv hn hd hc n5 _ _ _ h) ⟨rfl, ⟨rfl, ⟨rfl, ⟨rfl, ⟨rfl, trivial⟩⟩⟩⟩⟩

set_option maxRecDepth 20000 in
theorem ok_X0_howManySpoilt_4 {Z : fp_Z} (C : fp_C Z cX0_howManySpoilt RX0 ((Option.some Jvm.ClassFile.FieldType.int))) (hv : fp_V Z false) (hn : Z.2.2.2.2.1 = 4) (hd : Z.2.2.2.2.2.1 = 1) {c : Nat} (hc : fp_isC c) {x1 : Int32} : ∀ (n : Nat) (x2 : Int32) (x3 : Int32) (g : fp_G), w_X0_howManySpoilt_4 n c x1 x2 x3 g Z.2.2.2.1 → WA Z 4 [some (.ref c), some (.int x1), some (.int x2), some (.int x3)] [] g := by
  intro n
  induction n with
  | zero => intro x2 x3 g h; exact h.elim
  | succ n ih =>
    intro x2 x3 g h
    rw [w_X0_howManySpoilt_4] at h
    refine wa_iload_n C (i := 3) dX0_howManySpoilt_4 rfl rfl ?_
    refine wa_iload_n C (i := 1) dX0_howManySpoilt_5 rfl rfl ?_
    refine wa_icmp_ge C (tgt := 27) dX0_howManySpoilt_6 (by decide) h (fun h => ?_) (fun h => ?_)
    · refine wa_iload_n C (i := 2) dX0_howManySpoilt_27 rfl rfl ?_
      exact wa_iret C hv rfl dX0_howManySpoilt_28 h
    · refine wa_aload_n C (i := 0) dX0_howManySpoilt_9 rfl rfl ?_
      refine wa_getR C (j := 6) (ltC0 hc) (shC hc) rfl in_X0 (by decide) rfl f_X0_31 dX0_howManySpoilt_10 ?_
      refine wa_iload_n C (i := 3) dX0_howManySpoilt_13 rfl rfl ?_
      refine wa_zald C (ltC hc (by decide)) (shC_7 hc) dX0_howManySpoilt_14 h (fun v1 h => ?_)
      refine fp_k1 (Q := fun x2j21 => WA Z 21 [some (.ref c), some (.int x1), some (.int x2j21), some (.int x3)] [] g) h (fun x2j21 h => ?_) (fun J21 hJ21 h => ?_)
      · refine wa_iinc C (i := 3) dX0_howManySpoilt_21 rfl (fp_inc1 _) (by rw [hn]; decide) rfl rfl ?_
        refine wa_goto C (tgt := 4) dX0_howManySpoilt_24 (by decide) ?_
        exact WA.weak (ih _ _ _ h) ⟨rfl, ⟨rfl, ⟨rfl, ⟨rfl, trivial⟩⟩⟩⟩
      refine wa_if_eq C (tgt := 21) dX0_howManySpoilt_15 (by decide) h (fun h => ?_) (fun h => ?_)
      · exact WA.weak (hJ21 _ h) ⟨rfl, ⟨rfl, ⟨rfl, ⟨rfl, trivial⟩⟩⟩⟩
      · refine wa_iinc C (i := 2) dX0_howManySpoilt_18 rfl (fp_inc1 _) (by rw [hn]; decide) rfl rfl ?_
        exact WA.weak (hJ21 _ h) ⟨rfl, ⟨rfl, ⟨rfl, ⟨rfl, trivial⟩⟩⟩⟩

set_option maxRecDepth 20000 in
theorem ok_X0_howManySpoilt {l : Launch} {E : fp_E} {c : Nat} (hc : fp_isC c) {x1 : Int32} {g : fp_G} {K : Int32 → fp_G → Prop} (h : w_X0_howManySpoilt c x1 g K) : fp_M l E yX0_howManySpoilt cX0_howManySpoilt 4 ((Option.some Jvm.ClassFile.FieldType.int)) false 1 [.ref c, .int x1] g K := by
  unfold w_X0_howManySpoilt at h
  refine fp_enter rfl [some (.ref c), some (.int x1), none, none] (Nat.le_of_ble_eq_true rfl) (fun q hq => hq) (fun Z hE hl hv hK hn hd C => ?_)
  subst hE hl hK
  refine wa_iconst C (v := 0) dX0_howManySpoilt_0 (by decide) ?_
  refine wa_istore_n C (i := 2) dX0_howManySpoilt_1 rfl (by rw [hn]; decide) rfl rfl ?_
  refine wa_iconst C (v := 0) dX0_howManySpoilt_2 (by decide) ?_
  refine wa_istore_n C (i := 3) dX0_howManySpoilt_3 rfl (by rw [hn]; decide) rfl rfl ?_
  obtain ⟨n4, h⟩ := h
  exact WA.weak (ok_X0_howManySpoilt_4 C hv hn hd hc n4 _ _ _ h) ⟨rfl, ⟨rfl, ⟨rfl, ⟨rfl, trivial⟩⟩⟩⟩

set_option maxRecDepth 20000 in
theorem ok_X0_traced {l : Launch} {E : fp_E} {c : Nat} (hc : fp_isC c) {x1 : Int32} {x2 : Int32} {g : fp_G} {K : Int32 → fp_G → Prop} (h : w_X0_traced c x1 x2 g K) : fp_M l E yX0_traced cX0_traced 4 ((Option.some Jvm.ClassFile.FieldType.int)) false 1 [.ref c, .int x1, .int x2] g K := by
  unfold w_X0_traced at h
  refine fp_enter rfl [some (.ref c), some (.int x1), some (.int x2), none] (Nat.le_of_ble_eq_true rfl) (fun q hq => hq) (fun Z hE hl hv hK hn hd C => ?_)
  subst hE hl hK
  refine wa_iload_n C (i := 1) dX0_traced_0 rfl rfl ?_
  refine wa_bipush C (v := 40) dX0_traced_1 (by decide) ?_
  refine wa_imul C dX0_traced_3 ?_
  refine wa_iload_n C (i := 2) dX0_traced_4 rfl rfl ?_
  refine wa_iadd C dX0_traced_5 ?_
  refine wa_istore_n C (i := 3) dX0_traced_6 rfl (by rw [hn]; decide) rfl rfl ?_
  refine wa_iload_n C (i := 2) dX0_traced_7 rfl rfl ?_
  refine wa_if_lt C (tgt := 36) dX0_traced_8 (by decide) h (fun h => ?_) (fun h => ?_)
  · refine wa_bipush C (v := (-9)) dX0_traced_36 (by decide) ?_
    exact wa_iret C hv rfl dX0_traced_38 h
  · refine wa_iload_n C (i := 2) dX0_traced_11 rfl rfl ?_
    refine wa_aload_n C (i := 0) dX0_traced_12 rfl rfl ?_
    refine wa_getR C (j := 5) (ltC0 hc) (shC hc) rfl in_X0 (by decide) rfl f_X0_28 dX0_traced_13 ?_
    refine wa_iload_n C (i := 1) dX0_traced_16 rfl rfl ?_
    refine wa_iald C (ltC hc (by decide)) (shC_6 hc) dX0_traced_17 h (fun v1 h => ?_)
    refine wa_icmp_ge C (tgt := 36) dX0_traced_18 (by decide) h (fun h => ?_) (fun h => ?_)
    · refine wa_bipush C (v := (-9)) dX0_traced_36 (by decide) ?_
      exact wa_iret C hv rfl dX0_traced_38 h
    · refine wa_iload_n C (i := 2) dX0_traced_21 rfl rfl ?_
      refine wa_bipush C (v := 40) dX0_traced_22 (by decide) ?_
      refine wa_icmp_ge C (tgt := 36) dX0_traced_24 (by decide) h (fun h => ?_) (fun h => ?_)
      · refine wa_bipush C (v := (-9)) dX0_traced_36 (by decide) ?_
        exact wa_iret C hv rfl dX0_traced_38 h
      · refine wa_iload_n C (i := 3) dX0_traced_27 rfl rfl ?_
        refine wa_aload_n C (i := 0) dX0_traced_28 rfl rfl ?_
        refine wa_getR C (j := 7) (ltC0 hc) (shC hc) rfl in_X0 (by decide) rfl f_X0_40 dX0_traced_29 ?_
        refine wa_alen C (t0 := 2) (v := Int32.ofNat (fp_trl c)) (ltC hc (by decide)) (shC_8 hc) rfl rfl dX0_traced_32 ?_
        refine wa_icmp_lt C (tgt := 39) dX0_traced_33 (by decide) h (fun h => ?_) (fun h => ?_)
        · refine wa_aload_n C (i := 0) dX0_traced_39 rfl rfl ?_
          refine wa_getR C (j := 7) (ltC0 hc) (shC hc) rfl in_X0 (by decide) rfl f_X0_40 dX0_traced_40 ?_
          refine wa_iload_n C (i := 3) dX0_traced_43 rfl rfl ?_
          refine wa_bald C (ltC hc (by decide)) (shC_8 hc) dX0_traced_44 h (fun v2 h => ?_)
          exact wa_iret C hv rfl dX0_traced_45 h
        · refine wa_bipush C (v := (-9)) dX0_traced_36 (by decide) ?_
          exact wa_iret C hv rfl dX0_traced_38 h

set_option maxRecDepth 20000 in
theorem ok_X0_toAndFro_14 {Z : fp_Z} (C : fp_C Z cX0_toAndFro RX0 ((Option.some Jvm.ClassFile.FieldType.int))) (hv : fp_V Z false) (hn : Z.2.2.2.2.1 = 5) (hd : Z.2.2.2.2.2.1 = 2) {c : Nat} (hc : fp_isC c) {x1 : Int32} {x2 : Int32} : ∀ (n : Nat) (x3 : Int32) (g : fp_G), w_X0_toAndFro_14 n c x1 x2 x3 g Z.2.2.2.1 → WA Z 14 [some (.ref c), some (.int x1), some (.int x2), some (.int x3), none] [] g := by
  intro n
  induction n with
  | zero => intro x3 g h; exact h.elim
  | succ n ih =>
    intro x3 g h
    rw [w_X0_toAndFro_14] at h
    refine wa_iload_n C (i := 3) dX0_toAndFro_14 rfl rfl ?_
    refine wa_iconst C (v := 3) dX0_toAndFro_15 (by decide) ?_
    refine wa_iadd C dX0_toAndFro_16 ?_
    refine wa_iload_n C (i := 2) dX0_toAndFro_17 rfl rfl ?_
    refine wa_icmp_ge C (tgt := 77) dX0_toAndFro_18 (by decide) h (fun h => ?_) (fun h => ?_)
    · refine wa_bipush C (v := (-9)) dX0_toAndFro_77 (by decide) ?_
      exact wa_iret C hv rfl dX0_toAndFro_79 h
    · refine wa_aload_n C (i := 0) dX0_toAndFro_21 rfl rfl ?_
      refine wa_iload_n C (i := 1) dX0_toAndFro_22 rfl rfl ?_
      refine wa_iload_n C (i := 3) dX0_toAndFro_23 rfl rfl ?_
      refine wa_callVi C (ltC0 hc) (shC hc) rfl s_X0_57 i_X0_traced e_X0_traced dX0_toAndFro_24 (ok_X0_traced hc h) rfl rfl (Nat.le_of_ble_eq_true rfl) (by rw [hd]; decide) (fun v2 g1 h => ?_)
      refine wa_aload_n C (i := 0) dX0_toAndFro_27 rfl rfl ?_
      refine wa_iload_n C (i := 1) dX0_toAndFro_28 rfl rfl ?_
      refine wa_iload_n C (i := 3) dX0_toAndFro_29 rfl rfl ?_
      refine wa_iconst C (v := 2) dX0_toAndFro_30 (by decide) ?_
      refine wa_iadd C dX0_toAndFro_31 ?_
      refine wa_callVi C (ltC0 hc) (shC hc) rfl s_X0_57 i_X0_traced e_X0_traced dX0_toAndFro_32 (ok_X0_traced hc h) rfl rfl (Nat.le_of_ble_eq_true rfl) (by rw [hd]; decide) (fun v3 g2 h => ?_)
      refine fp_k1 (Q := fun z0j43 => WA Z 43 [some (.ref c), some (.int x1), some (.int x2), some (.int x3), none] [.int z0j43] g2) h (fun z0j43 h => ?_) (fun J43 hJ43 h => ?_)
      · refine wa_istore C (i := 4) dX0_toAndFro_43 (by rw [hn]; decide) rfl rfl ?_
        refine wa_iload C dX0_toAndFro_45 rfl ?_
        refine fp_j0 (Q := fun g3 => WA Z 71 [some (.ref c), some (.int x1), some (.int x2), some (.int x3), none] [] g3) h (fun g3 h => ?_) (fun J71 hJ71 h => ?_)
        · refine wa_iinc C (i := 3) dX0_toAndFro_71 rfl (fp_inc1 _) (by rw [hn]; decide) rfl rfl ?_
          refine wa_goto C (tgt := 14) dX0_toAndFro_74 (by decide) ?_
          exact WA.weak (ih _ _ h) ⟨rfl, ⟨rfl, ⟨rfl, ⟨rfl, trivial⟩⟩⟩⟩
        refine wa_if_eq C (tgt := 71) dX0_toAndFro_47 (by decide) h (fun h => ?_) (fun h => ?_)
        · exact WA.weak (hJ71 _ h) ⟨rfl, ⟨rfl, ⟨rfl, ⟨rfl, trivial⟩⟩⟩⟩
        · refine wa_aload_n C (i := 0) dX0_toAndFro_50 rfl rfl ?_
          refine wa_iload_n C (i := 1) dX0_toAndFro_51 rfl rfl ?_
          refine wa_iload_n C (i := 3) dX0_toAndFro_52 rfl rfl ?_
          refine wa_iconst C (v := 1) dX0_toAndFro_53 (by decide) ?_
          refine wa_iadd C dX0_toAndFro_54 ?_
          refine wa_callVi C (ltC0 hc) (shC hc) rfl s_X0_57 i_X0_traced e_X0_traced dX0_toAndFro_55 (ok_X0_traced hc h) rfl rfl (Nat.le_of_ble_eq_true rfl) (by rw [hd]; decide) (fun v4 g4 h => ?_)
          refine wa_aload_n C (i := 0) dX0_toAndFro_58 rfl rfl ?_
          refine wa_iload_n C (i := 1) dX0_toAndFro_59 rfl rfl ?_
          refine wa_iload_n C (i := 3) dX0_toAndFro_60 rfl rfl ?_
          refine wa_iconst C (v := 3) dX0_toAndFro_61 (by decide) ?_
          refine wa_iadd C dX0_toAndFro_62 ?_
          refine wa_callVi C (ltC0 hc) (shC hc) rfl s_X0_57 i_X0_traced e_X0_traced dX0_toAndFro_63 (ok_X0_traced hc h) rfl rfl (Nat.le_of_ble_eq_true rfl) (by rw [hd]; decide) (fun v5 g5 h => ?_)
          refine wa_icmp_ne C (tgt := 71) dX0_toAndFro_66 (by decide) h (fun h => ?_) (fun h => ?_)
          · refine wa_iload_n C (i := 3) dX0_toAndFro_69 rfl rfl ?_
            exact wa_iret C hv rfl dX0_toAndFro_70 h
          · exact WA.weak (hJ71 _ h) ⟨rfl, ⟨rfl, ⟨rfl, ⟨rfl, trivial⟩⟩⟩⟩
      refine wa_icmp_ne C (tgt := 42) dX0_toAndFro_35 (by decide) h (fun h => ?_) (fun h => ?_)
      · refine wa_iconst C (v := 1) dX0_toAndFro_38 (by decide) ?_
        refine wa_goto C (tgt := 43) dX0_toAndFro_39 (by decide) ?_
        exact WA.weak (hJ43 _ h) ⟨rfl, ⟨rfl, ⟨rfl, ⟨rfl, trivial⟩⟩⟩⟩
      · refine wa_iconst C (v := 0) dX0_toAndFro_42 (by decide) ?_
        exact WA.weak (hJ43 _ h) ⟨rfl, ⟨rfl, ⟨rfl, ⟨rfl, trivial⟩⟩⟩⟩

set_option maxRecDepth 20000 in
theorem ok_X0_toAndFro {l : Launch} {E : fp_E} {c : Nat} (hc : fp_isC c) {x1 : Int32} {g : fp_G} {K : Int32 → fp_G → Prop} (h : w_X0_toAndFro c x1 g K) : fp_M l E yX0_toAndFro cX0_toAndFro 5 ((Option.some Jvm.ClassFile.FieldType.int)) false 2 [.ref c, .int x1] g K := by
  unfold w_X0_toAndFro at h
  refine fp_enter rfl [some (.ref c), some (.int x1), none, none, none] (Nat.le_of_ble_eq_true rfl) (fun q hq => hq) (fun Z hE hl hv hK hn hd C => ?_)
  subst hE hl hK
  refine wa_aload_n C (i := 0) dX0_toAndFro_0 rfl rfl ?_
  refine wa_getR C (j := 5) (ltC0 hc) (shC hc) rfl in_X0 (by decide) rfl f_X0_28 dX0_toAndFro_1 ?_
  refine wa_iload_n C (i := 1) dX0_toAndFro_4 rfl rfl ?_
  refine wa_iald C (ltC hc (by decide)) (shC_6 hc) dX0_toAndFro_5 h (fun v1 h => ?_)
  refine wa_bipush C (v := 40) dX0_toAndFro_6 (by decide) ?_
  refine wa_mmin C q_X0_54 (by rw [hd]; omega) (Nat.le_of_ble_eq_true rfl) dX0_toAndFro_8 ?_
  refine wa_istore_n C (i := 2) dX0_toAndFro_11 rfl (by rw [hn]; decide) rfl rfl ?_
  refine wa_iconst C (v := 0) dX0_toAndFro_12 (by decide) ?_
  refine wa_istore_n C (i := 3) dX0_toAndFro_13 rfl (by rw [hn]; decide) rfl rfl ?_
  obtain ⟨n14, h⟩ := h
  exact WA.weak (ok_X0_toAndFro_14 C hv hn hd hc n14 _ _ h) ⟨rfl, ⟨rfl, ⟨rfl, ⟨rfl, trivial⟩⟩⟩⟩

set_option maxRecDepth 20000 in
theorem ok_X1_has {l : Launch} {E : fp_E} {x1 : Int32} {g : fp_G} {K : Int32 → fp_G → Prop} (h : w_X1_has x1 g K) : fp_M l E yX1_has cX1_has 2 ((Option.some Jvm.ClassFile.FieldType.boolean)) false 1 [.ref 37, .int x1] g K := by
  unfold w_X1_has at h
  refine fp_enter rfl [some (.ref 37), some (.int x1)] (Nat.le_of_ble_eq_true rfl) (fun q hq => hq) (fun Z hE hl hv hK hn hd C => ?_)
  subst hE hl hK
  refine wa_iload_n C (i := 1) dX1_has_0 rfl rfl ?_
  refine fp_k0 (Q := WA Z 16 [none, none] [] g) h (fun  h => ?_) (fun J16 hJ16 h => ?_)
  · refine wa_iconst C (v := 0) dX1_has_16 (by decide) ?_
    exact wa_zret C hv rfl rfl dX1_has_17 h
  refine wa_if_lt C (tgt := 16) dX1_has_1 (by decide) h (fun h => ?_) (fun h => ?_)
  · exact WA.weak (hJ16  h) trivial
  · refine wa_iload_n C (i := 1) dX1_has_4 rfl rfl ?_
    refine wa_aload_n C (i := 0) dX1_has_5 rfl rfl ?_
    refine wa_getI C (j := 5) lq_37 sh_37 rfl in_X1 (by decide) rfl f_X1_27 dX1_has_6 ?_
    refine wa_icmp_ge C (tgt := 16) dX1_has_9 (by decide) h (fun h => ?_) (fun h => ?_)
    · exact WA.weak (hJ16  h) trivial
    · refine wa_iconst C (v := 1) dX1_has_12 (by decide) ?_
      refine wa_goto C (tgt := 17) dX1_has_13 (by decide) ?_
      exact wa_zret C hv rfl rfl dX1_has_17 h

set_option maxRecDepth 20000 in
theorem ok_X1_add {l : Launch} {E : fp_E} {x1 : Int32} {x2 : Int32} {x3 : Int32} {x4 : Int32} {x5 : Int32} {g : fp_G} {K : Int32 → fp_G → Prop} (h : w_X1_add x1 x2 x3 x4 x5 g K) : fp_M l E yX1_add cX1_add 6 ((Option.some Jvm.ClassFile.FieldType.int)) false 1 [.ref 37, .int x1, .int x2, .int x3, .int x4, .int x5] g K := by
  unfold w_X1_add at h
  refine fp_enter rfl [some (.ref 37), some (.int x1), some (.int x2), some (.int x3), some (.int x4), some (.int x5)] (Nat.le_of_ble_eq_true rfl) (fun q hq => hq) (fun Z hE hl hv hK hn hd C => ?_)
  subst hE hl hK
  refine wa_aload_n C (i := 0) dX1_add_0 rfl rfl ?_
  refine wa_getR C (j := 0) lq_37 sh_37 rfl in_X1 (by decide) rfl f_X1_9 dX1_add_1 ?_
  refine wa_aload_n C (i := 0) dX1_add_4 rfl rfl ?_
  refine wa_getI C (j := 5) lq_37 sh_37 rfl in_X1 (by decide) rfl f_X1_27 dX1_add_5 ?_
  refine wa_iload_n C (i := 1) dX1_add_8 rfl rfl ?_
  refine wa_iast C lq_38 sh_38 dX1_add_9 h (fun g1 h => ?_)
  refine wa_aload_n C (i := 0) dX1_add_10 rfl rfl ?_
  refine wa_getR C (j := 1) lq_37 sh_37 rfl in_X1 (by decide) rfl f_X1_15 dX1_add_11 ?_
  refine wa_aload_n C (i := 0) dX1_add_14 rfl rfl ?_
  refine wa_getI C (j := 5) lq_37 sh_37 rfl in_X1 (by decide) rfl f_X1_27 dX1_add_15 ?_
  refine wa_iload_n C (i := 2) dX1_add_18 rfl rfl ?_
  refine wa_iast C lq_39 sh_39 dX1_add_19 h (fun g2 h => ?_)
  refine wa_aload_n C (i := 0) dX1_add_20 rfl rfl ?_
  refine wa_getR C (j := 2) lq_37 sh_37 rfl in_X1 (by decide) rfl f_X1_18 dX1_add_21 ?_
  refine wa_aload_n C (i := 0) dX1_add_24 rfl rfl ?_
  refine wa_getI C (j := 5) lq_37 sh_37 rfl in_X1 (by decide) rfl f_X1_27 dX1_add_25 ?_
  refine wa_iload_n C (i := 3) dX1_add_28 rfl rfl ?_
  refine wa_iast C lq_40 sh_40 dX1_add_29 h (fun g3 h => ?_)
  refine wa_aload_n C (i := 0) dX1_add_30 rfl rfl ?_
  refine wa_getR C (j := 3) lq_37 sh_37 rfl in_X1 (by decide) rfl f_X1_21 dX1_add_31 ?_
  refine wa_aload_n C (i := 0) dX1_add_34 rfl rfl ?_
  refine wa_getI C (j := 5) lq_37 sh_37 rfl in_X1 (by decide) rfl f_X1_27 dX1_add_35 ?_
  refine wa_iload C dX1_add_38 rfl ?_
  refine wa_iast C lq_41 sh_41 dX1_add_40 h (fun g4 h => ?_)
  refine wa_aload_n C (i := 0) dX1_add_41 rfl rfl ?_
  refine wa_getR C (j := 4) lq_37 sh_37 rfl in_X1 (by decide) rfl f_X1_24 dX1_add_42 ?_
  refine wa_aload_n C (i := 0) dX1_add_45 rfl rfl ?_
  refine wa_getI C (j := 5) lq_37 sh_37 rfl in_X1 (by decide) rfl f_X1_27 dX1_add_46 ?_
  refine wa_iload C dX1_add_49 rfl ?_
  refine wa_iast C lq_42 sh_42 dX1_add_51 h (fun g5 h => ?_)
  refine wa_aload_n C (i := 0) dX1_add_52 rfl rfl ?_
  refine wa_dup C dX1_add_53 rfl ?_
  refine wa_getI C (j := 5) lq_37 sh_37 rfl in_X1 (by decide) rfl f_X1_27 dX1_add_54 ?_
  refine wa_iconst C (v := 1) dX1_add_57 (by decide) ?_
  refine wa_iadd C dX1_add_58 ?_
  refine wa_putI C (j := 5) lq_37 sh_37 rfl in_X1 (by decide) tyX1 tyX1_ok nmX1 rfl rfl rfl f_X1_27 dX1_add_59 h (fun g6 h => ?_)
  refine wa_aload_n C (i := 0) dX1_add_62 rfl rfl ?_
  refine wa_getI C (j := 5) lq_37 sh_37 rfl in_X1 (by decide) rfl f_X1_27 dX1_add_63 ?_
  refine wa_iconst C (v := 1) dX1_add_66 (by decide) ?_
  refine wa_isub C dX1_add_67 ?_
  exact wa_iret C hv rfl dX1_add_68 h

set_option maxRecDepth 20000 in
theorem ok_X2_hasOffice {l : Launch} {E : fp_E} {x1 : Int32} {g : fp_G} {K : Int32 → fp_G → Prop} (h : w_X2_hasOffice x1 g K) : fp_M l E yX2_hasOffice cX2_hasOffice 2 ((Option.some Jvm.ClassFile.FieldType.boolean)) false 1 [.ref 6, .int x1] g K := by
  unfold w_X2_hasOffice at h
  refine fp_enter rfl [some (.ref 6), some (.int x1)] (Nat.le_of_ble_eq_true rfl) (fun q hq => hq) (fun Z hE hl hv hK hn hd C => ?_)
  subst hE hl hK
  refine wa_iload_n C (i := 1) dX2_hasOffice_0 rfl rfl ?_
  refine fp_k0 (Q := WA Z 16 [none, none] [] g) h (fun  h => ?_) (fun J16 hJ16 h => ?_)
  · refine wa_iconst C (v := 0) dX2_hasOffice_16 (by decide) ?_
    exact wa_zret C hv rfl rfl dX2_hasOffice_17 h
  refine wa_if_lt C (tgt := 16) dX2_hasOffice_1 (by decide) h (fun h => ?_) (fun h => ?_)
  · exact WA.weak (hJ16  h) trivial
  · refine wa_iload_n C (i := 1) dX2_hasOffice_4 rfl rfl ?_
    refine wa_aload_n C (i := 0) dX2_hasOffice_5 rfl rfl ?_
    refine wa_getI C (j := 3) lq_6 sh_6 rfl in_X2 (by decide) rfl f_X2_53 dX2_hasOffice_6 ?_
    refine wa_icmp_ge C (tgt := 16) dX2_hasOffice_9 (by decide) h (fun h => ?_) (fun h => ?_)
    · exact WA.weak (hJ16  h) trivial
    · refine wa_iconst C (v := 1) dX2_hasOffice_12 (by decide) ?_
      refine wa_goto C (tgt := 17) dX2_hasOffice_13 (by decide) ?_
      exact wa_zret C hv rfl rfl dX2_hasOffice_17 h

set_option maxRecDepth 20000 in
theorem ok_X2_hasWay {l : Launch} {E : fp_E} {x1 : Int32} {g : fp_G} {K : Int32 → fp_G → Prop} (h : w_X2_hasWay x1 g K) : fp_M l E yX2_hasWay cX2_hasWay 2 ((Option.some Jvm.ClassFile.FieldType.boolean)) false 1 [.ref 6, .int x1] g K := by
  unfold w_X2_hasWay at h
  refine fp_enter rfl [some (.ref 6), some (.int x1)] (Nat.le_of_ble_eq_true rfl) (fun q hq => hq) (fun Z hE hl hv hK hn hd C => ?_)
  subst hE hl hK
  refine wa_iload_n C (i := 1) dX2_hasWay_0 rfl rfl ?_
  refine fp_k0 (Q := WA Z 16 [none, none] [] g) h (fun  h => ?_) (fun J16 hJ16 h => ?_)
  · refine wa_iconst C (v := 0) dX2_hasWay_16 (by decide) ?_
    exact wa_zret C hv rfl rfl dX2_hasWay_17 h
  refine wa_if_lt C (tgt := 16) dX2_hasWay_1 (by decide) h (fun h => ?_) (fun h => ?_)
  · exact WA.weak (hJ16  h) trivial
  · refine wa_iload_n C (i := 1) dX2_hasWay_4 rfl rfl ?_
    refine wa_aload_n C (i := 0) dX2_hasWay_5 rfl rfl ?_
    refine wa_getI C (j := 9) lq_6 sh_6 rfl in_X2 (by decide) rfl f_X2_57 dX2_hasWay_6 ?_
    refine wa_icmp_ge C (tgt := 16) dX2_hasWay_9 (by decide) h (fun h => ?_) (fun h => ?_)
    · exact WA.weak (hJ16  h) trivial
    · refine wa_iconst C (v := 1) dX2_hasWay_12 (by decide) ?_
      refine wa_goto C (tgt := 17) dX2_hasWay_13 (by decide) ?_
      exact wa_zret C hv rfl rfl dX2_hasWay_17 h

set_option maxRecDepth 20000 in
theorem ok_X2_addOffice {l : Launch} {E : fp_E} {x1 : Int32} {x2 : Int32} {g : fp_G} {K : Int32 → fp_G → Prop} (h : w_X2_addOffice x1 x2 g K) : fp_M l E yX2_addOffice cX2_addOffice 3 ((Option.some Jvm.ClassFile.FieldType.int)) false 1 [.ref 6, .int x1, .int x2] g K := by
  unfold w_X2_addOffice at h
  refine fp_enter rfl [some (.ref 6), some (.int x1), some (.int x2)] (Nat.le_of_ble_eq_true rfl) (fun q hq => hq) (fun Z hE hl hv hK hn hd C => ?_)
  subst hE hl hK
  refine wa_aload_n C (i := 0) dX2_addOffice_0 rfl rfl ?_
  refine wa_getR C (j := 0) lq_6 sh_6 rfl in_X2 (by decide) rfl f_X2_9 dX2_addOffice_1 ?_
  refine wa_aload_n C (i := 0) dX2_addOffice_4 rfl rfl ?_
  refine wa_getI C (j := 3) lq_6 sh_6 rfl in_X2 (by decide) rfl f_X2_53 dX2_addOffice_5 ?_
  refine wa_iload_n C (i := 1) dX2_addOffice_8 rfl rfl ?_
  refine wa_iast C lq_7 sh_7 dX2_addOffice_9 h (fun g1 h => ?_)
  refine wa_aload_n C (i := 0) dX2_addOffice_10 rfl rfl ?_
  refine wa_getR C (j := 1) lq_6 sh_6 rfl in_X2 (by decide) rfl f_X2_15 dX2_addOffice_11 ?_
  refine wa_aload_n C (i := 0) dX2_addOffice_14 rfl rfl ?_
  refine wa_getI C (j := 3) lq_6 sh_6 rfl in_X2 (by decide) rfl f_X2_53 dX2_addOffice_15 ?_
  refine wa_iload_n C (i := 2) dX2_addOffice_18 rfl rfl ?_
  refine wa_zast C lq_8 sh_8 dX2_addOffice_19 h (fun g2 h => ?_)
  refine wa_aload_n C (i := 0) dX2_addOffice_20 rfl rfl ?_
  refine wa_dup C dX2_addOffice_21 rfl ?_
  refine wa_getI C (j := 3) lq_6 sh_6 rfl in_X2 (by decide) rfl f_X2_53 dX2_addOffice_22 ?_
  refine wa_iconst C (v := 1) dX2_addOffice_25 (by decide) ?_
  refine wa_iadd C dX2_addOffice_26 ?_
  refine wa_putI C (j := 3) lq_6 sh_6 rfl in_X2 (by decide) tyX2 tyX2_ok nmX2 rfl rfl rfl f_X2_53 dX2_addOffice_27 h (fun g3 h => ?_)
  refine wa_aload_n C (i := 0) dX2_addOffice_30 rfl rfl ?_
  refine wa_getI C (j := 3) lq_6 sh_6 rfl in_X2 (by decide) rfl f_X2_53 dX2_addOffice_31 ?_
  refine wa_iconst C (v := 1) dX2_addOffice_34 (by decide) ?_
  refine wa_isub C dX2_addOffice_35 ?_
  exact wa_iret C hv rfl dX2_addOffice_36 h

set_option maxRecDepth 20000 in
theorem ok_X2_setOffice {l : Launch} {E : fp_E} {x1 : Int32} {x2 : Int32} {x3 : Int32} {g : fp_G} {K : Int32 → fp_G → Prop} (h : w_X2_setOffice x1 x2 x3 g K) : fp_M l E yX2_setOffice cX2_setOffice 5 ((Option.some Jvm.ClassFile.FieldType.int)) false 1 [.ref 6, .int x1, .int x2, .int x3] g K := by
  unfold w_X2_setOffice at h
  refine fp_enter rfl [some (.ref 6), some (.int x1), some (.int x2), some (.int x3), none] (Nat.le_of_ble_eq_true rfl) (fun q hq => hq) (fun Z hE hl hv hK hn hd C => ?_)
  subst hE hl hK
  refine wa_aload_n C (i := 0) dX2_setOffice_0 rfl rfl ?_
  refine wa_getR C (j := 0) lq_6 sh_6 rfl in_X2 (by decide) rfl f_X2_9 dX2_setOffice_1 ?_
  refine wa_iload_n C (i := 1) dX2_setOffice_4 rfl rfl ?_
  refine wa_iald C lq_7 sh_7 dX2_setOffice_5 h (fun v1 h => ?_)
  refine wa_istore C (i := 4) dX2_setOffice_6 (by rw [hn]; decide) rfl rfl ?_
  refine wa_aload_n C (i := 0) dX2_setOffice_8 rfl rfl ?_
  refine wa_getR C (j := 0) lq_6 sh_6 rfl in_X2 (by decide) rfl f_X2_9 dX2_setOffice_9 ?_
  refine wa_iload_n C (i := 1) dX2_setOffice_12 rfl rfl ?_
  refine wa_iload_n C (i := 2) dX2_setOffice_13 rfl rfl ?_
  refine wa_iast C lq_7 sh_7 dX2_setOffice_14 h (fun g1 h => ?_)
  refine wa_aload_n C (i := 0) dX2_setOffice_15 rfl rfl ?_
  refine wa_getR C (j := 1) lq_6 sh_6 rfl in_X2 (by decide) rfl f_X2_15 dX2_setOffice_16 ?_
  refine wa_iload_n C (i := 1) dX2_setOffice_19 rfl rfl ?_
  refine wa_iload_n C (i := 3) dX2_setOffice_20 rfl rfl ?_
  refine wa_zast C lq_8 sh_8 dX2_setOffice_21 h (fun g2 h => ?_)
  refine wa_iload C dX2_setOffice_22 rfl ?_
  exact wa_iret C hv rfl dX2_setOffice_24 h

set_option maxRecDepth 20000 in
theorem ok_X2_farBetween {l : Launch} {E : fp_E} {x1 : Int32} {x2 : Int32} {g : fp_G} {K : Int32 → fp_G → Prop} (h : w_X2_farBetween x1 x2 g K) : fp_M l E yX2_farBetween cX2_farBetween 3 ((Option.some Jvm.ClassFile.FieldType.int)) false 1 [.ref 6, .int x1, .int x2] g K := by
  unfold w_X2_farBetween at h
  refine fp_enter rfl [some (.ref 6), some (.int x1), some (.int x2)] (Nat.le_of_ble_eq_true rfl) (fun q hq => hq) (fun Z hE hl hv hK hn hd C => ?_)
  subst hE hl hK
  refine wa_aload_n C (i := 0) dX2_farBetween_0 rfl rfl ?_
  refine wa_getR C (j := 2) lq_6 sh_6 rfl in_X2 (by decide) rfl f_X2_19 dX2_farBetween_1 ?_
  refine wa_iload_n C (i := 1) dX2_farBetween_4 rfl rfl ?_
  refine wa_bipush C (v := 12) dX2_farBetween_5 (by decide) ?_
  refine wa_imul C dX2_farBetween_7 ?_
  refine wa_iload_n C (i := 2) dX2_farBetween_8 rfl rfl ?_
  refine wa_iadd C dX2_farBetween_9 ?_
  refine wa_iald C lq_9 sh_9 dX2_farBetween_10 h (fun v1 h => ?_)
  exact wa_iret C hv rfl dX2_farBetween_11 h

set_option maxRecDepth 20000 in
theorem ok_X2_shorten_15 {Z : fp_Z} (C : fp_C Z cX2_shorten RX2 ((Option.none : Option Jvm.ClassFile.FieldType))) (hv : fp_V Z true) (hn : Z.2.2.2.2.1 = 9) (hd : Z.2.2.2.2.2.1 = 2) {x1 : Int32} {x2 : Int32} {x3 : Int32} {x4 : Int32} {E105 : fp_G → Prop} (hE105 : ∀ g, E105 g → WA Z 105 [some (.ref 6), some (.int x1), some (.int x2), some (.int x3), some (.int x4), none, none, none, none] [] g) : ∀ (n : Nat) (x5 : Int32) (g : fp_G), w_X2_shorten_15 n x1 x2 x3 x4 x5 g Z.2.2.2.1 E105 → WA Z 15 [some (.ref 6), some (.int x1), some (.int x2), some (.int x3), some (.int x4), some (.int x5), none, none, none] [] g := by
  intro n
  induction n with
  | zero => intro x5 g h; exact h.elim
  | succ n ih =>
    intro x5 g h
    rw [w_X2_shorten_15] at h
    refine wa_iload C dX2_shorten_15 rfl ?_
    refine wa_aload_n C (i := 0) dX2_shorten_17 rfl rfl ?_
    refine wa_getI C (j := 3) lq_6 sh_6 rfl in_X2 (by decide) rfl f_X2_53 dX2_shorten_18 ?_
    refine wa_icmp_ge C (tgt := 105) dX2_shorten_21 (by decide) h (fun h => ?_) (fun h => ?_)
    · exact WA.weak (hE105 _ h) ⟨rfl, ⟨rfl, ⟨rfl, ⟨rfl, ⟨rfl, trivial⟩⟩⟩⟩⟩
    · refine wa_aload_n C (i := 0) dX2_shorten_24 rfl rfl ?_
      refine wa_iload C dX2_shorten_25 rfl ?_
      refine wa_iload_n C (i := 1) dX2_shorten_27 rfl rfl ?_
      refine wa_callVi C lq_6 sh_6 rfl s_X2_64 i_X2_farBetween e_X2_farBetween dX2_shorten_28 (ok_X2_farBetween h) rfl rfl (Nat.le_of_ble_eq_true rfl) (by rw [hd]; decide) (fun v1 g1 h => ?_)
      refine wa_iload_n C (i := 3) dX2_shorten_31 rfl rfl ?_
      refine wa_iadd C dX2_shorten_32 ?_
      refine wa_aload_n C (i := 0) dX2_shorten_33 rfl rfl ?_
      refine wa_iload_n C (i := 2) dX2_shorten_34 rfl rfl ?_
      refine wa_iload C dX2_shorten_35 rfl ?_
      refine wa_callVi C lq_6 sh_6 rfl s_X2_64 i_X2_farBetween e_X2_farBetween dX2_shorten_37 (ok_X2_farBetween h) rfl rfl (Nat.le_of_ble_eq_true rfl) (by rw [hd]; decide) (fun v2 g2 h => ?_)
      refine wa_iadd C dX2_shorten_40 ?_
      refine wa_istore C (i := 6) dX2_shorten_41 (by rw [hn]; decide) rfl rfl ?_
      refine wa_aload_n C (i := 0) dX2_shorten_43 rfl rfl ?_
      refine wa_iload C dX2_shorten_44 rfl ?_
      refine wa_iload_n C (i := 2) dX2_shorten_46 rfl rfl ?_
      refine wa_callVi C lq_6 sh_6 rfl s_X2_64 i_X2_farBetween e_X2_farBetween dX2_shorten_47 (ok_X2_farBetween h) rfl rfl (Nat.le_of_ble_eq_true rfl) (by rw [hd]; decide) (fun v3 g3 h => ?_)
      refine wa_iload_n C (i := 3) dX2_shorten_50 rfl rfl ?_
      refine wa_iadd C dX2_shorten_51 ?_
      refine wa_aload_n C (i := 0) dX2_shorten_52 rfl rfl ?_
      refine wa_iload_n C (i := 1) dX2_shorten_53 rfl rfl ?_
      refine wa_iload C dX2_shorten_54 rfl ?_
      refine wa_callVi C lq_6 sh_6 rfl s_X2_64 i_X2_farBetween e_X2_farBetween dX2_shorten_56 (ok_X2_farBetween h) rfl rfl (Nat.le_of_ble_eq_true rfl) (by rw [hd]; decide) (fun v4 g4 h => ?_)
      refine wa_iadd C dX2_shorten_59 ?_
      refine wa_istore C (i := 7) dX2_shorten_60 (by rw [hn]; decide) rfl rfl ?_
      refine wa_iload C dX2_shorten_62 rfl ?_
      refine wa_iload C dX2_shorten_64 rfl ?_
      refine wa_mmin C q_X2_68 (by rw [hd]; omega) (Nat.le_of_ble_eq_true rfl) dX2_shorten_66 ?_
      refine wa_istore C (i := 8) dX2_shorten_69 (by rw [hn]; decide) rfl rfl ?_
      refine wa_iload C dX2_shorten_71 rfl ?_
      refine wa_aload_n C (i := 0) dX2_shorten_73 rfl rfl ?_
      refine wa_iload C dX2_shorten_74 rfl ?_
      refine wa_iload C dX2_shorten_76 rfl ?_
      refine wa_callVi C lq_6 sh_6 rfl s_X2_64 i_X2_farBetween e_X2_farBetween dX2_shorten_78 (ok_X2_farBetween h) rfl rfl (Nat.le_of_ble_eq_true rfl) (by rw [hd]; decide) (fun v5 g5 h => ?_)
      refine fp_j0 (Q := fun g6 => WA Z 99 [some (.ref 6), some (.int x1), some (.int x2), some (.int x3), some (.int x4), some (.int x5), none, none, none] [] g6) h (fun g6 h => ?_) (fun J99 hJ99 h => ?_)
      · refine wa_iinc C (i := 5) dX2_shorten_99 rfl (fp_inc1 _) (by rw [hn]; decide) rfl rfl ?_
        refine wa_goto C (tgt := 15) dX2_shorten_102 (by decide) ?_
        exact WA.weak (ih _ _ h) ⟨rfl, ⟨rfl, ⟨rfl, ⟨rfl, ⟨rfl, ⟨rfl, trivial⟩⟩⟩⟩⟩⟩
      refine wa_icmp_ge C (tgt := 99) dX2_shorten_81 (by decide) h (fun h => ?_) (fun h => ?_)
      · exact WA.weak (hJ99 _ h) ⟨rfl, ⟨rfl, ⟨rfl, ⟨rfl, ⟨rfl, ⟨rfl, trivial⟩⟩⟩⟩⟩⟩
      · refine wa_aload_n C (i := 0) dX2_shorten_84 rfl rfl ?_
        refine wa_getR C (j := 2) lq_6 sh_6 rfl in_X2 (by decide) rfl f_X2_19 dX2_shorten_85 ?_
        refine wa_iload C dX2_shorten_88 rfl ?_
        refine wa_bipush C (v := 12) dX2_shorten_90 (by decide) ?_
        refine wa_imul C dX2_shorten_92 ?_
        refine wa_iload C dX2_shorten_93 rfl ?_
        refine wa_iadd C dX2_shorten_95 ?_
        refine wa_iload C dX2_shorten_96 rfl ?_
        refine wa_iast C lq_9 sh_9 dX2_shorten_98 h (fun g7 h => ?_)
        exact WA.weak (hJ99 _ h) ⟨rfl, ⟨rfl, ⟨rfl, ⟨rfl, ⟨rfl, ⟨rfl, trivial⟩⟩⟩⟩⟩⟩

set_option maxRecDepth 20000 in
theorem ok_X2_shorten_3 {Z : fp_Z} (C : fp_C Z cX2_shorten RX2 ((Option.none : Option Jvm.ClassFile.FieldType))) (hv : fp_V Z true) (hn : Z.2.2.2.2.1 = 9) (hd : Z.2.2.2.2.2.1 = 2) {x1 : Int32} {x2 : Int32} {x3 : Int32} : ∀ (n : Nat) (x4 : Int32) (g : fp_G), w_X2_shorten_3 n x1 x2 x3 x4 g Z.2.2.2.1 → WA Z 3 [some (.ref 6), some (.int x1), some (.int x2), some (.int x3), some (.int x4), none, none, none, none] [] g := by
  intro n
  induction n with
  | zero => intro x4 g h; exact h.elim
  | succ n ih =>
    intro x4 g h
    rw [w_X2_shorten_3] at h
    refine wa_iload C dX2_shorten_3 rfl ?_
    refine wa_aload_n C (i := 0) dX2_shorten_5 rfl rfl ?_
    refine wa_getI C (j := 3) lq_6 sh_6 rfl in_X2 (by decide) rfl f_X2_53 dX2_shorten_6 ?_
    refine wa_icmp_ge C (tgt := 111) dX2_shorten_9 (by decide) h (fun h => ?_) (fun h => ?_)
    · exact wa_vret C hv rfl dX2_shorten_111 h
    · refine wa_iconst C (v := 0) dX2_shorten_12 (by decide) ?_
      refine wa_istore C (i := 5) dX2_shorten_13 (by rw [hn]; decide) rfl rfl ?_
      obtain ⟨n15, h⟩ := h
      refine WA.weak (ok_X2_shorten_15 C hv hn hd (fun g8 h => ?_) n15 _ _ h) ⟨rfl, ⟨rfl, ⟨rfl, ⟨rfl, ⟨rfl, ⟨rfl, trivial⟩⟩⟩⟩⟩⟩
      · refine wa_iinc C (i := 4) dX2_shorten_105 rfl (fp_inc1 _) (by rw [hn]; decide) rfl rfl ?_
        refine wa_goto C (tgt := 3) dX2_shorten_108 (by decide) ?_
        exact WA.weak (ih _ _ h) ⟨rfl, ⟨rfl, ⟨rfl, ⟨rfl, ⟨rfl, trivial⟩⟩⟩⟩⟩

set_option maxRecDepth 20000 in
theorem ok_X2_shorten {l : Launch} {E : fp_E} {x1 : Int32} {x2 : Int32} {x3 : Int32} {g : fp_G} {K : Int32 → fp_G → Prop} (h : w_X2_shorten x1 x2 x3 g K) : fp_M l E yX2_shorten cX2_shorten 9 ((Option.none : Option Jvm.ClassFile.FieldType)) true 2 [.ref 6, .int x1, .int x2, .int x3] g K := by
  unfold w_X2_shorten at h
  refine fp_enter rfl [some (.ref 6), some (.int x1), some (.int x2), some (.int x3), none, none, none, none, none] (Nat.le_of_ble_eq_true rfl) (fun q hq => hq) (fun Z hE hl hv hK hn hd C => ?_)
  subst hE hl hK
  refine wa_iconst C (v := 0) dX2_shorten_0 (by decide) ?_
  refine wa_istore C (i := 4) dX2_shorten_1 (by rw [hn]; decide) rfl rfl ?_
  obtain ⟨n3, h⟩ := h
  exact WA.weak (ok_X2_shorten_3 C hv hn hd n3 _ _ h) ⟨rfl, ⟨rfl, ⟨rfl, ⟨rfl, ⟨rfl, trivial⟩⟩⟩⟩⟩

set_option maxRecDepth 20000 in
theorem ok_X2_addWay {l : Launch} {E : fp_E} {x1 : Int32} {x2 : Int32} {x3 : Int32} {x4 : Int32} {x5 : Int32} {g : fp_G} {K : Int32 → fp_G → Prop} (h : w_X2_addWay x1 x2 x3 x4 x5 g K) : fp_M l E yX2_addWay cX2_addWay 6 ((Option.some Jvm.ClassFile.FieldType.int)) false 3 [.ref 6, .int x1, .int x2, .int x3, .int x4, .int x5] g K := by
  unfold w_X2_addWay at h
  refine fp_enter rfl [some (.ref 6), some (.int x1), some (.int x2), some (.int x3), some (.int x4), some (.int x5)] (Nat.le_of_ble_eq_true rfl) (fun q hq => hq) (fun Z hE hl hv hK hn hd C => ?_)
  subst hE hl hK
  refine wa_aload_n C (i := 0) dX2_addWay_0 rfl rfl ?_
  refine wa_getR C (j := 4) lq_6 sh_6 rfl in_X2 (by decide) rfl f_X2_22 dX2_addWay_1 ?_
  refine wa_aload_n C (i := 0) dX2_addWay_4 rfl rfl ?_
  refine wa_getI C (j := 9) lq_6 sh_6 rfl in_X2 (by decide) rfl f_X2_57 dX2_addWay_5 ?_
  refine wa_iload_n C (i := 1) dX2_addWay_8 rfl rfl ?_
  refine wa_iast C lq_10 sh_10 dX2_addWay_9 h (fun g1 h => ?_)
  refine wa_aload_n C (i := 0) dX2_addWay_10 rfl rfl ?_
  refine wa_getR C (j := 5) lq_6 sh_6 rfl in_X2 (by decide) rfl f_X2_25 dX2_addWay_11 ?_
  refine wa_aload_n C (i := 0) dX2_addWay_14 rfl rfl ?_
  refine wa_getI C (j := 9) lq_6 sh_6 rfl in_X2 (by decide) rfl f_X2_57 dX2_addWay_15 ?_
  refine wa_iload_n C (i := 2) dX2_addWay_18 rfl rfl ?_
  refine wa_iast C lq_11 sh_11 dX2_addWay_19 h (fun g2 h => ?_)
  refine wa_aload_n C (i := 0) dX2_addWay_20 rfl rfl ?_
  refine wa_getR C (j := 6) lq_6 sh_6 rfl in_X2 (by decide) rfl f_X2_28 dX2_addWay_21 ?_
  refine wa_aload_n C (i := 0) dX2_addWay_24 rfl rfl ?_
  refine wa_getI C (j := 9) lq_6 sh_6 rfl in_X2 (by decide) rfl f_X2_57 dX2_addWay_25 ?_
  refine wa_iload_n C (i := 3) dX2_addWay_28 rfl rfl ?_
  refine wa_iast C lq_12 sh_12 dX2_addWay_29 h (fun g3 h => ?_)
  refine wa_aload_n C (i := 0) dX2_addWay_30 rfl rfl ?_
  refine wa_getR C (j := 7) lq_6 sh_6 rfl in_X2 (by decide) rfl f_X2_31 dX2_addWay_31 ?_
  refine wa_aload_n C (i := 0) dX2_addWay_34 rfl rfl ?_
  refine wa_getI C (j := 9) lq_6 sh_6 rfl in_X2 (by decide) rfl f_X2_57 dX2_addWay_35 ?_
  refine wa_iload C dX2_addWay_38 rfl ?_
  refine wa_iast C lq_13 sh_13 dX2_addWay_40 h (fun g4 h => ?_)
  refine wa_aload_n C (i := 0) dX2_addWay_41 rfl rfl ?_
  refine wa_getR C (j := 8) lq_6 sh_6 rfl in_X2 (by decide) rfl f_X2_34 dX2_addWay_42 ?_
  refine wa_aload_n C (i := 0) dX2_addWay_45 rfl rfl ?_
  refine wa_getI C (j := 9) lq_6 sh_6 rfl in_X2 (by decide) rfl f_X2_57 dX2_addWay_46 ?_
  refine wa_iload C dX2_addWay_49 rfl ?_
  refine wa_iast C lq_14 sh_14 dX2_addWay_51 h (fun g5 h => ?_)
  refine wa_aload_n C (i := 0) dX2_addWay_52 rfl rfl ?_
  refine wa_dup C dX2_addWay_53 rfl ?_
  refine wa_getI C (j := 9) lq_6 sh_6 rfl in_X2 (by decide) rfl f_X2_57 dX2_addWay_54 ?_
  refine wa_iconst C (v := 1) dX2_addWay_57 (by decide) ?_
  refine wa_iadd C dX2_addWay_58 ?_
  refine wa_putI C (j := 9) lq_6 sh_6 rfl in_X2 (by decide) tyX2 tyX2_ok nmX2 rfl rfl rfl f_X2_57 dX2_addWay_59 h (fun g6 h => ?_)
  refine wa_aload_n C (i := 0) dX2_addWay_62 rfl rfl ?_
  refine wa_iload_n C (i := 1) dX2_addWay_63 rfl rfl ?_
  refine wa_iload_n C (i := 2) dX2_addWay_64 rfl rfl ?_
  refine wa_iload_n C (i := 3) dX2_addWay_65 rfl rfl ?_
  refine wa_callVv C lq_6 sh_6 rfl s_X2_60 i_X2_shorten e_X2_shorten dX2_addWay_66 (ok_X2_shorten h) rfl rfl (Nat.le_of_ble_eq_true rfl) (by rw [hd]; decide) (fun g7 h => ?_)
  refine wa_aload_n C (i := 0) dX2_addWay_69 rfl rfl ?_
  refine wa_getI C (j := 9) lq_6 sh_6 rfl in_X2 (by decide) rfl f_X2_57 dX2_addWay_70 ?_
  refine wa_iconst C (v := 1) dX2_addWay_73 (by decide) ?_
  refine wa_isub C dX2_addWay_74 ?_
  exact wa_iret C hv rfl dX2_addWay_75 h

set_option maxRecDepth 20000 in
theorem ok_X2_addShut {l : Launch} {E : fp_E} {x1 : Int32} {x2 : Int32} {x3 : Int32} {g : fp_G} {K : Int32 → fp_G → Prop} (h : w_X2_addShut x1 x2 x3 g K) : fp_M l E yX2_addShut cX2_addShut 4 ((Option.some Jvm.ClassFile.FieldType.int)) false 1 [.ref 6, .int x1, .int x2, .int x3] g K := by
  unfold w_X2_addShut at h
  refine fp_enter rfl [some (.ref 6), some (.int x1), some (.int x2), some (.int x3)] (Nat.le_of_ble_eq_true rfl) (fun q hq => hq) (fun Z hE hl hv hK hn hd C => ?_)
  subst hE hl hK
  refine wa_aload_n C (i := 0) dX2_addShut_0 rfl rfl ?_
  refine wa_getR C (j := 10) lq_6 sh_6 rfl in_X2 (by decide) rfl f_X2_37 dX2_addShut_1 ?_
  refine wa_aload_n C (i := 0) dX2_addShut_4 rfl rfl ?_
  refine wa_getI C (j := 13) lq_6 sh_6 rfl in_X2 (by decide) rfl f_X2_73 dX2_addShut_5 ?_
  refine wa_iload_n C (i := 1) dX2_addShut_8 rfl rfl ?_
  refine wa_iast C lq_15 sh_15 dX2_addShut_9 h (fun g1 h => ?_)
  refine wa_aload_n C (i := 0) dX2_addShut_10 rfl rfl ?_
  refine wa_getR C (j := 11) lq_6 sh_6 rfl in_X2 (by decide) rfl f_X2_40 dX2_addShut_11 ?_
  refine wa_aload_n C (i := 0) dX2_addShut_14 rfl rfl ?_
  refine wa_getI C (j := 13) lq_6 sh_6 rfl in_X2 (by decide) rfl f_X2_73 dX2_addShut_15 ?_
  refine wa_iload_n C (i := 2) dX2_addShut_18 rfl rfl ?_
  refine wa_iast C lq_16 sh_16 dX2_addShut_19 h (fun g2 h => ?_)
  refine wa_aload_n C (i := 0) dX2_addShut_20 rfl rfl ?_
  refine wa_getR C (j := 12) lq_6 sh_6 rfl in_X2 (by decide) rfl f_X2_43 dX2_addShut_21 ?_
  refine wa_aload_n C (i := 0) dX2_addShut_24 rfl rfl ?_
  refine wa_getI C (j := 13) lq_6 sh_6 rfl in_X2 (by decide) rfl f_X2_73 dX2_addShut_25 ?_
  refine wa_iload_n C (i := 3) dX2_addShut_28 rfl rfl ?_
  refine wa_iast C lq_17 sh_17 dX2_addShut_29 h (fun g3 h => ?_)
  refine wa_aload_n C (i := 0) dX2_addShut_30 rfl rfl ?_
  refine wa_dup C dX2_addShut_31 rfl ?_
  refine wa_getI C (j := 13) lq_6 sh_6 rfl in_X2 (by decide) rfl f_X2_73 dX2_addShut_32 ?_
  refine wa_iconst C (v := 1) dX2_addShut_35 (by decide) ?_
  refine wa_iadd C dX2_addShut_36 ?_
  refine wa_putI C (j := 13) lq_6 sh_6 rfl in_X2 (by decide) tyX2 tyX2_ok nmX2 rfl rfl rfl f_X2_73 dX2_addShut_37 h (fun g4 h => ?_)
  refine wa_aload_n C (i := 0) dX2_addShut_40 rfl rfl ?_
  refine wa_getI C (j := 13) lq_6 sh_6 rfl in_X2 (by decide) rfl f_X2_73 dX2_addShut_41 ?_
  exact wa_iret C hv rfl dX2_addShut_44 h
