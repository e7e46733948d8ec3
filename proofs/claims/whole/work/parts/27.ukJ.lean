set_option maxRecDepth 20000 in
theorem ok_J0_isLatin1_aae02 {l : Launch} {E : fp_E} {q : Nat} (hq : q < 2) {g : fp_G} {K : Int32 → fp_G → Prop} (h : w_J0_isLatin1_aae02 q g K) : fp_M l E yJ0_isLatin1_aae02 cJ0_isLatin1_aae02 1 ((Option.some Jvm.ClassFile.FieldType.boolean)) false 1 [.ref (fp_NC + q)] g K := by
  unfold w_J0_isLatin1_aae02 at h
  refine fp_enter rfl [some (.ref (fp_NC + q))] (Nat.le_of_ble_eq_true rfl) (fun q hq => hq) (fun Z hE hl hv hK hn hd C => ?_)
  subst hE hl hK
  refine wa_gets C hv j_J0_38 dJ0_isLatin1_aae02_0 ?_
  refine fp_k0 (Q := WA Z 17 [none] [] g) h (fun  h => ?_) (fun J17 hJ17 h => ?_)
  · refine wa_iconst C (v := 0) dJ0_isLatin1_aae02_17 (by decide) ?_
    exact wa_zret C hv rfl rfl dJ0_isLatin1_aae02_18 h
  refine wa_if_eq C (tgt := 17) dJ0_isLatin1_aae02_3 (by decide) h (fun h => ?_) (fun h => ?_)
  · exact WA.weak (hJ17  h) trivial
  · refine wa_aload_n C (i := 0) dJ0_isLatin1_aae02_6 rfl rfl ?_
    refine wa_scod C hv hq j_J0_15 dJ0_isLatin1_aae02_7 ?_
    refine wa_if_ne C (tgt := 17) dJ0_isLatin1_aae02_10 (by decide) h (fun h => ?_) (fun h => ?_)
    · refine wa_iconst C (v := 1) dJ0_isLatin1_aae02_13 (by decide) ?_
      refine wa_goto C (tgt := 18) dJ0_isLatin1_aae02_14 (by decide) ?_
      exact wa_zret C hv rfl rfl dJ0_isLatin1_aae02_18 h
    · exact WA.weak (hJ17  h) trivial

set_option maxRecDepth 20000 in
theorem ok_J0_coder_7d493 {l : Launch} {E : fp_E} {q : Nat} (hq : q < 2) {g : fp_G} {K : Int32 → fp_G → Prop} (h : w_J0_coder_7d493 q g K) : fp_M l E yJ0_coder_7d493 cJ0_coder_7d493 1 ((Option.some Jvm.ClassFile.FieldType.byte)) false 1 [.ref (fp_NC + q)] g K := by
  unfold w_J0_coder_7d493 at h
  refine fp_enter rfl [some (.ref (fp_NC + q))] (Nat.le_of_ble_eq_true rfl) (fun q hq => hq) (fun Z hE hl hv hK hn hd C => ?_)
  subst hE hl hK
  refine wa_gets C hv j_J0_38 dJ0_coder_7d493_0 ?_
  refine wa_if_eq C (tgt := 13) dJ0_coder_7d493_3 (by decide) h (fun h => ?_) (fun h => ?_)
  · refine wa_iconst C (v := 1) dJ0_coder_7d493_13 (by decide) ?_
    exact wa_zret C hv rfl rfl dJ0_coder_7d493_14 h
  · refine wa_aload_n C (i := 0) dJ0_coder_7d493_6 rfl rfl ?_
    refine wa_scod C hv hq j_J0_15 dJ0_coder_7d493_7 ?_
    refine wa_goto C (tgt := 14) dJ0_coder_7d493_10 (by decide) ?_
    exact wa_zret C hv rfl rfl dJ0_coder_7d493_14 h

set_option maxRecDepth 20000 in
theorem ok_J0_length_8abf5 {l : Launch} {E : fp_E} {q : Nat} (hq : q < 2) {g : fp_G} {K : Int32 → fp_G → Prop} (h : w_J0_length_8abf5 q g K) : fp_M l E yJ0_length_8abf5 cJ0_length_8abf5 1 ((Option.some Jvm.ClassFile.FieldType.int)) false 2 [.ref (fp_NC + q)] g K := by
  unfold w_J0_length_8abf5 at h
  refine fp_enter rfl [some (.ref (fp_NC + q))] (Nat.le_of_ble_eq_true rfl) (fun q hq => hq) (fun Z hE hl hv hK hn hd C => ?_)
  subst hE hl hK
  refine wa_aload_n C (i := 0) dJ0_length_8abf5_0 rfl rfl ?_
  refine wa_sval C hv hq j_J0_9 dJ0_length_8abf5_1 ?_
  refine wa_salen C hv hq dJ0_length_8abf5_4 ?_
  refine wa_aload_n C (i := 0) dJ0_length_8abf5_5 rfl rfl ?_
  refine wa_callTi C hv hq rfl s_J0_335 i_J0_coder_7d493 e_J0_coder_7d493 dJ0_length_8abf5_6 (ok_J0_coder_7d493 hq h) rfl rfl (Nat.le_of_ble_eq_true rfl) (by rw [hd]; decide) (fun v1 g1 h => ?_)
  refine wa_ishr C dJ0_length_8abf5_9 ?_
  exact wa_iret C hv rfl dJ0_length_8abf5_10 h

set_option maxRecDepth 20000 in
theorem ok_J1_canEncode_9a6ad {l : Launch} {E : fp_E} {x0 : Int32} {g : fp_G} {K : Int32 → fp_G → Prop} (h : w_J1_canEncode_9a6ad x0 g K) : fp_M l E yJ1_canEncode_9a6ad cJ1_canEncode_9a6ad 1 ((Option.some Jvm.ClassFile.FieldType.boolean)) false 1 [.int x0] g K := by
  unfold w_J1_canEncode_9a6ad at h
  refine fp_enter rfl [some (.int x0)] (Nat.le_of_ble_eq_true rfl) (fun q hq => hq) (fun Z hE hl hv hK hn hd C => ?_)
  subst hE hl hK
  refine wa_iload_n C (i := 0) dJ1_canEncode_9a6ad_0 rfl rfl ?_
  refine fp_k0 (Q := WA Z 15 [none] [] g) h (fun  h => ?_) (fun J15 hJ15 h => ?_)
  · refine wa_iconst C (v := 0) dJ1_canEncode_9a6ad_15 (by decide) ?_
    exact wa_zret C hv rfl rfl dJ1_canEncode_9a6ad_16 h
  refine wa_if_lt C (tgt := 15) dJ1_canEncode_9a6ad_1 (by decide) h (fun h => ?_) (fun h => ?_)
  · exact WA.weak (hJ15  h) trivial
  · refine wa_iload_n C (i := 0) dJ1_canEncode_9a6ad_4 rfl rfl ?_
    refine wa_sipush C (v := 255) dJ1_canEncode_9a6ad_5 (by decide) ?_
    refine wa_icmp_gt C (tgt := 15) dJ1_canEncode_9a6ad_8 (by decide) h (fun h => ?_) (fun h => ?_)
    · exact WA.weak (hJ15  h) trivial
    · refine wa_iconst C (v := 1) dJ1_canEncode_9a6ad_11 (by decide) ?_
      refine wa_goto C (tgt := 16) dJ1_canEncode_9a6ad_12 (by decide) ?_
      exact wa_zret C hv rfl rfl dJ1_canEncode_9a6ad_16 h

set_option maxRecDepth 20000 in
theorem ok_J1_indexOfChar_4cfef_7 {Z : fp_Z} (C : fp_C Z cJ1_indexOfChar_4cfef RJ1 ((Option.some Jvm.ClassFile.FieldType.int))) (hv : fp_V Z false) (hn : Z.2.2.2.2.1 = 6) (hd : Z.2.2.2.2.2.1 = 1) {q : Nat} (hq : q < 2) {x3 : Int32} {x4 : Int32} : ∀ (n : Nat) (x5 : Int32) (g : fp_G), w_J1_indexOfChar_4cfef_7 n q x3 x4 x5 g Z.2.2.2.1 → WA Z 7 [some (.ref (fp_NC + 2 + q)), none, none, some (.int x3), some (.int x4), some (.int x5)] [] g := by
  intro n
  induction n with
  | zero => intro x5 g h; exact h.elim
  | succ n ih =>
    intro x5 g h
    rw [w_J1_indexOfChar_4cfef_7] at h
    refine wa_iload C dJ1_indexOfChar_4cfef_7 rfl ?_
    refine wa_iload_n C (i := 3) dJ1_indexOfChar_4cfef_9 rfl rfl ?_
    refine wa_icmp_ge C (tgt := 31) dJ1_indexOfChar_4cfef_10 (by decide) h (fun h => ?_) (fun h => ?_)
    · refine wa_iconst C (v := (-1)) dJ1_indexOfChar_4cfef_31 (by decide) ?_
      exact wa_iret C hv rfl dJ1_indexOfChar_4cfef_32 h
    · refine wa_aload_n C (i := 0) dJ1_indexOfChar_4cfef_13 rfl rfl ?_
      refine wa_iload C dJ1_indexOfChar_4cfef_14 rfl ?_
      refine wa_sbald C hv hq dJ1_indexOfChar_4cfef_16 h (fun v1 h => ?_)
      refine wa_iload C dJ1_indexOfChar_4cfef_17 rfl ?_
      refine wa_icmp_ne C (tgt := 25) dJ1_indexOfChar_4cfef_19 (by decide) h (fun h => ?_) (fun h => ?_)
      · refine wa_iload C dJ1_indexOfChar_4cfef_22 rfl ?_
        exact wa_iret C hv rfl dJ1_indexOfChar_4cfef_24 h
      · refine wa_iinc C (i := 5) dJ1_indexOfChar_4cfef_25 rfl (fp_inc1 _) (by rw [hn]; decide) rfl rfl ?_
        refine wa_goto C (tgt := 7) dJ1_indexOfChar_4cfef_28 (by decide) ?_
        exact WA.weak (ih _ _ h) ⟨rfl, ⟨rfl, ⟨rfl, ⟨rfl, trivial⟩⟩⟩⟩

set_option maxRecDepth 20000 in
theorem ok_J1_indexOfChar_4cfef {l : Launch} {E : fp_E} {q : Nat} (hq : q < 2) {x1 : Int32} {x2 : Int32} {x3 : Int32} {g : fp_G} {K : Int32 → fp_G → Prop} (h : w_J1_indexOfChar_4cfef q x1 x2 x3 g K) : fp_M l E yJ1_indexOfChar_4cfef cJ1_indexOfChar_4cfef 6 ((Option.some Jvm.ClassFile.FieldType.int)) false 1 [.ref (fp_NC + 2 + q), .int x1, .int x2, .int x3] g K := by
  unfold w_J1_indexOfChar_4cfef at h
  refine fp_enter rfl [some (.ref (fp_NC + 2 + q)), some (.int x1), some (.int x2), some (.int x3), none, none] (Nat.le_of_ble_eq_true rfl) (fun q hq => hq) (fun Z hE hl hv hK hn hd C => ?_)
  subst hE hl hK
  refine wa_iload_n C (i := 1) dJ1_indexOfChar_4cfef_0 rfl rfl ?_
  refine wa_i2b C dJ1_indexOfChar_4cfef_1 ?_
  refine wa_istore C (i := 4) dJ1_indexOfChar_4cfef_2 (by rw [hn]; decide) rfl rfl ?_
  refine wa_iload_n C (i := 2) dJ1_indexOfChar_4cfef_4 rfl rfl ?_
  refine wa_istore C (i := 5) dJ1_indexOfChar_4cfef_5 (by rw [hn]; decide) rfl rfl ?_
  obtain ⟨n7, h⟩ := h
  exact WA.weak (ok_J1_indexOfChar_4cfef_7 C hv hn hd hq n7 _ _ h) ⟨rfl, ⟨rfl, ⟨rfl, ⟨rfl, trivial⟩⟩⟩⟩

set_option maxRecDepth 20000 in
theorem ok_J1_indexOf_4cfef {l : Launch} {E : fp_E} {q : Nat} (hq : q < 2) {x1 : Int32} {x2 : Int32} {x3 : Int32} {g : fp_G} {K : Int32 → fp_G → Prop} (h : w_J1_indexOf_4cfef q x1 x2 x3 g K) : fp_M l E yJ1_indexOf_4cfef cJ1_indexOf_4cfef 4 ((Option.some Jvm.ClassFile.FieldType.int)) false 2 [.ref (fp_NC + 2 + q), .int x1, .int x2, .int x3] g K := by
  unfold w_J1_indexOf_4cfef at h
  refine fp_enter rfl [some (.ref (fp_NC + 2 + q)), some (.int x1), some (.int x2), some (.int x3)] (Nat.le_of_ble_eq_true rfl) (fun q hq => hq) (fun Z hE hl hv hK hn hd C => ?_)
  subst hE hl hK
  refine wa_iload_n C (i := 1) dJ1_indexOf_4cfef_0 rfl rfl ?_
  refine wa_callSi C s_J1_88 t_J1_canEncode_9a6ad dJ1_indexOf_4cfef_1 (ok_J1_canEncode_9a6ad h) rfl rfl (Nat.le_of_ble_eq_true rfl) (by rw [hd]; decide) (fun v1 g1 h => ?_)
  refine wa_if_ne C (tgt := 9) dJ1_indexOf_4cfef_4 (by decide) h (fun h => ?_) (fun h => ?_)
  · refine wa_iconst C (v := (-1)) dJ1_indexOf_4cfef_7 (by decide) ?_
    exact wa_iret C hv rfl dJ1_indexOf_4cfef_8 h
  · refine wa_iload_n C (i := 2) dJ1_indexOf_4cfef_9 rfl rfl ?_
    refine wa_iconst C (v := 0) dJ1_indexOf_4cfef_10 (by decide) ?_
    refine wa_mmax C q_J1_92 (by rw [hd]; omega) (Nat.le_of_ble_eq_true rfl) dJ1_indexOf_4cfef_11 ?_
    refine wa_istore_n C (i := 2) dJ1_indexOf_4cfef_14 rfl (by rw [hn]; decide) rfl rfl ?_
    refine wa_iload_n C (i := 3) dJ1_indexOf_4cfef_15 rfl rfl ?_
    refine wa_aload_n C (i := 0) dJ1_indexOf_4cfef_16 rfl rfl ?_
    refine wa_salen C hv hq dJ1_indexOf_4cfef_17 ?_
    refine wa_mmin C q_J1_38 (by rw [hd]; omega) (Nat.le_of_ble_eq_true rfl) dJ1_indexOf_4cfef_18 ?_
    refine wa_istore_n C (i := 3) dJ1_indexOf_4cfef_21 rfl (by rw [hn]; decide) rfl rfl ?_
    refine wa_iload_n C (i := 2) dJ1_indexOf_4cfef_22 rfl rfl ?_
    refine wa_iload_n C (i := 3) dJ1_indexOf_4cfef_23 rfl rfl ?_
    refine wa_icmp_lt C (tgt := 29) dJ1_indexOf_4cfef_24 (by decide) h (fun h => ?_) (fun h => ?_)
    · refine wa_aload_n C (i := 0) dJ1_indexOf_4cfef_29 rfl rfl ?_
      refine wa_iload_n C (i := 1) dJ1_indexOf_4cfef_30 rfl rfl ?_
      refine wa_iload_n C (i := 2) dJ1_indexOf_4cfef_31 rfl rfl ?_
      refine wa_iload_n C (i := 3) dJ1_indexOf_4cfef_32 rfl rfl ?_
      refine wa_callSi C s_J1_95 t_J1_indexOfChar_4cfef dJ1_indexOf_4cfef_33 (ok_J1_indexOfChar_4cfef hq h) rfl rfl (Nat.le_of_ble_eq_true rfl) (by rw [hd]; decide) (fun v2 g2 h => ?_)
      exact wa_iret C hv rfl dJ1_indexOf_4cfef_36 h
    · refine wa_iconst C (v := (-1)) dJ1_indexOf_4cfef_27 (by decide) ?_
      exact wa_iret C hv rfl dJ1_indexOf_4cfef_28 h

set_option maxRecDepth 20000 in
theorem ok_J0_indexOf_7cf53 {l : Launch} {E : fp_E} {q : Nat} (hq : q < 2) {x1 : Int32} {x2 : Int32} {g : fp_G} {K : Int32 → fp_G → Prop} (h : w_J0_indexOf_7cf53 q x1 x2 g K) : fp_M l E yJ0_indexOf_7cf53 cJ0_indexOf_7cf53 3 ((Option.some Jvm.ClassFile.FieldType.int)) false 3 [.ref (fp_NC + q), .int x1, .int x2] g K := by
  unfold w_J0_indexOf_7cf53 at h
  refine fp_enter rfl [some (.ref (fp_NC + q)), some (.int x1), some (.int x2)] (Nat.le_of_ble_eq_true rfl) (fun q hq => hq) (fun Z hE hl hv hK hn hd C => ?_)
  subst hE hl hK
  refine wa_aload_n C (i := 0) dJ0_indexOf_7cf53_0 rfl rfl ?_
  refine wa_callTi C hv hq rfl s_J0_492 i_J0_isLatin1_aae02 e_J0_isLatin1_aae02 dJ0_indexOf_7cf53_1 (ok_J0_isLatin1_aae02 hq h) rfl rfl (Nat.le_of_ble_eq_true rfl) (by rw [hd]; decide) (fun v1 g1 h => ?_)
  refine wa_if_eq C (tgt := 23) dJ0_indexOf_7cf53_4 (by decide) h (fun h => ?_) (fun h => ?_)
  · refine wa_aload_n C (i := 0) dJ0_indexOf_7cf53_23 rfl rfl ?_
    refine wa_sval C hv hq j_J0_9 dJ0_indexOf_7cf53_24 ?_
    refine wa_iload_n C (i := 1) dJ0_indexOf_7cf53_27 rfl rfl ?_
    refine wa_iload_n C (i := 2) dJ0_indexOf_7cf53_28 rfl rfl ?_
    refine wa_aload_n C (i := 0) dJ0_indexOf_7cf53_29 rfl rfl ?_
    refine wa_callTi C hv hq rfl s_J0_505 i_J0_length_8abf5 e_J0_length_8abf5 dJ0_indexOf_7cf53_30 (ok_J0_length_8abf5 hq h) rfl rfl (Nat.le_of_ble_eq_true rfl) (by rw [hd]; decide) (fun v2 g2 h => ?_)
    exact h.elim
  · refine wa_aload_n C (i := 0) dJ0_indexOf_7cf53_7 rfl rfl ?_
    refine wa_sval C hv hq j_J0_9 dJ0_indexOf_7cf53_8 ?_
    refine wa_iload_n C (i := 1) dJ0_indexOf_7cf53_11 rfl rfl ?_
    refine wa_iload_n C (i := 2) dJ0_indexOf_7cf53_12 rfl rfl ?_
    refine wa_aload_n C (i := 0) dJ0_indexOf_7cf53_13 rfl rfl ?_
    refine wa_callTi C hv hq rfl s_J0_505 i_J0_length_8abf5 e_J0_length_8abf5 dJ0_indexOf_7cf53_14 (ok_J0_length_8abf5 hq h) rfl rfl (Nat.le_of_ble_eq_true rfl) (by rw [hd]; decide) (fun v3 g3 h => ?_)
    refine wa_callSi C s_J0_637 t_J1_indexOf_4cfef dJ0_indexOf_7cf53_17 (ok_J1_indexOf_4cfef hq h) rfl rfl (Nat.le_of_ble_eq_true rfl) (by rw [hd]; decide) (fun v4 g4 h => ?_)
    refine wa_goto C (tgt := 36) dJ0_indexOf_7cf53_20 (by decide) ?_
    exact wa_iret C hv rfl dJ0_indexOf_7cf53_36 h

set_option maxRecDepth 20000 in
theorem ok_J0_indexOf_0f7a4 {l : Launch} {E : fp_E} {q : Nat} (hq : q < 2) {x1 : Int32} {g : fp_G} {K : Int32 → fp_G → Prop} (h : w_J0_indexOf_0f7a4 q x1 g K) : fp_M l E yJ0_indexOf_0f7a4 cJ0_indexOf_0f7a4 2 ((Option.some Jvm.ClassFile.FieldType.int)) false 4 [.ref (fp_NC + q), .int x1] g K := by
  unfold w_J0_indexOf_0f7a4 at h
  refine fp_enter rfl [some (.ref (fp_NC + q)), some (.int x1)] (Nat.le_of_ble_eq_true rfl) (fun q hq => hq) (fun Z hE hl hv hK hn hd C => ?_)
  subst hE hl hK
  refine wa_aload_n C (i := 0) dJ0_indexOf_0f7a4_0 rfl rfl ?_
  refine wa_iload_n C (i := 1) dJ0_indexOf_0f7a4_1 rfl rfl ?_
  refine wa_iconst C (v := 0) dJ0_indexOf_0f7a4_2 (by decide) ?_
  refine wa_callTi C hv hq rfl s_J0_633 i_J0_indexOf_7cf53 e_J0_indexOf_7cf53 dJ0_indexOf_0f7a4_3 (ok_J0_indexOf_7cf53 hq h) rfl rfl (Nat.le_of_ble_eq_true rfl) (by rw [hd]; decide) (fun v1 g1 h => ?_)
  exact wa_iret C hv rfl dJ0_indexOf_0f7a4_6 h
