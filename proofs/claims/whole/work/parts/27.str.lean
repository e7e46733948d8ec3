/-! ===== the String constants: a walk of the JDK's own rows over them ===== -/
theorem fp_V.hS {Z : fp_Z} {b : Bool} (hv : fp_V Z b) {H : Heap} {locs : List Loc} (hS : va_S Z.2.2.2.2.2.2.2.2.2 Z.1.2.2.2.2.1.heap H locs) : va_S (fp_A Z.2.1) Z.1.2.2.2.2.1.heap H locs := by
  have e : Z.2.2.2.2.2.2.2.2.2 = fp_A Z.2.1 := congrArg (fun z => z.2.2.2) hv.2
  rw [e] at hS
  exact hS
section
variable {Z : fp_Z} {cc : ByteArray} {own : String} {ret : Option FieldType} {pc : Nat} {L : List (Option Value)} {S : List Value} {g : fp_G} {q : Nat}
theorem wa_gets (C : fp_C Z cc own ret) {vb : Bool} (hv : fp_V Z vb) {i : Nat} (hw : Cond.fieldLink own i RJ0 "COMPACT_STRINGS" "Z" ∈ fp_lw) (hd : decode cc pc = .ok (.getstatic i, 3)) (k : WA Z (pc + 3) L (.int 1 :: S) g) : WA Z pc L S g :=
  fun ls H locs hl hP hS => va_gets C.exec C.bytes (A := fp_A Z.2.1) C.2.2.2.2.2.1.2.2.2.2.2 (hv.hS hS) C.2.2.2.1 (C.word hw) (fun _ h => h) hd (k ls H locs hl hP hS)
theorem wa_sval (C : fp_C Z cc own ret) {vb : Bool} (hv : fp_V Z vb) {i : Nat} (hq : q < 2) (hw : Cond.fieldLink own i RJ0 "value" "[B" ∈ fp_lw) (hd : decode cc pc = .ok (.getfield i, 3)) (k : WA Z (pc + 3) L (.ref (fp_NC + 2 + q) :: S) g) : WA Z pc L (.ref (fp_NC + q) :: S) g :=
  fun ls H locs hl hP hS => vk_getf C.exec C.bytes (C.2.2.2.2.2.1.2.2.1.1 q hq).2.2.1 (hv.hS hS) C.2.2.2.1 (C.word hw) (fun _ h => h) hd (k ls H locs hl hP hS)
theorem wa_scod (C : fp_C Z cc own ret) {vb : Bool} (hv : fp_V Z vb) {i : Nat} (hq : q < 2) (hw : Cond.fieldLink own i RJ0 "coder" "B" ∈ fp_lw) (hd : decode cc pc = .ok (.getfield i, 3)) (k : WA Z (pc + 3) L (.int 0 :: S) g) : WA Z pc L (.ref (fp_NC + q) :: S) g :=
  fun ls H locs hl hP hS => vk_getf C.exec C.bytes (C.2.2.2.2.2.1.2.2.1.1 q hq).2.1 (hv.hS hS) C.2.2.2.1 (C.word hw) (fun _ h => h) hd (k ls H locs hl hP hS)
theorem wa_sbald (C : fp_C Z cc own ret) {vb : Bool} (hv : fp_V Z vb) {i : Int32} {P : Int32 → Prop} (hq : q < 2) (hd : decode cc pc = .ok (.baload, 1)) (h : fp_rs q i P) (k : ∀ v, P v → WA Z (pc + 1) L (.int v :: S) g) : WA Z pc L (.int i :: .ref (fp_NC + 2 + q) :: S) g :=
  fun ls H locs hl hP hS => va_tb C.exec C.bytes (C.2.2.2.2.2.1.2.2.1.1 q hq).2.2.2 (hv.hS hS) h.1 rfl hd (k _ h.2 ls H locs hl hP hS)
theorem wa_salen (C : fp_C Z cc own ret) {vb : Bool} (hv : fp_V Z vb) (hq : q < 2) (hd : decode cc pc = .ok (.arraylength, 1)) (k : WA Z (pc + 1) L (.int (Int32.ofNat (fp_len q)) :: S) g) : WA Z pc L (.ref (fp_NC + 2 + q) :: S) g :=
  fun ls H locs hl hP hS => va_tlen C.exec C.bytes (C.2.2.2.2.2.1.2.2.1.1 q hq).2.2.2 (hv.hS hS) rfl hd (k ls H locs hl hP hS)
theorem wa_callTi (C : fp_C Z cc own ret) {vb : Bool} (hv : fp_V Z vb) {y : MethodName} {bytes : ByteArray} {maxL i d2 n : Nat} {ret2 : Option FieldType} {P : Int32 → fp_G → Prop} {As S0 : List Value}
    (hq : q < 2) (hy : y.cls = RJ0) (hsite : fp_site own i y bytes maxL ret2 n) (hinst : Cond.instanceMethod y ∈ fp_lw) (hsel : Cond.selects RJ0 y y ∈ fp_lw)
    (hd : decode cc pc = .ok (.invokevirtual i, 3)) (hM : fp_M Z.1.2.1 Z.2.1 y bytes maxL ret2 false d2 (.ref (fp_NC + q) :: As) g P) (hn : As.length = n) (hst : As.reverse ++ .ref (fp_NC + q) :: S = S0) (hW : (S.map fun v => v.category).sum ≤ 8) (hdp : d2 < Z.2.2.2.2.2.1)
    (k : ∀ r g2, P r g2 → WA Z (pc + 3) L (.int r :: S) g2) : WA Z pc L S0 g := by
  intro ls H locs hl hP hS
  subst hst
  have hgo := vk_recv C.2.2.2.2.2.1.2.2.1 hq (hv.hS hS)
  obtain ⟨b, hb⟩ := C.2.2.2.2.1
  obtain ⟨h1, h2, h3, h4, h5⟩ := hsite
  have hR := fp_roomI hdp h4
  have hR : (fp_rm d2).frames + 1 ≤ Z.1.2.2.2.1.frames ∧ 8 + (maxL + 11) + (fp_rm d2).locals ≤ Z.1.2.2.2.1.locals := ⟨Nat.le_trans hR.1 C.room.1, Nat.le_trans hR.2 C.room.2.1⟩
  have cw := cwV (R := Z.1.2.2.2.1) (own := own) (index := i) (C := RJ0) (bytes := bytes) (maxL := maxL) (ret := ret2) (rm := fp_rm d2) (mc := 0) (ms := 0) n hb (fp_goodW (own := own) (C := RJ0) (idx := i) (ret := ret2) (maxL := maxL) h1 [.methodLink own i y, .instanceMethod y, .selects RJ0 y y, .initialized RJ0] (by
    intro w hw
    simp only [List.mem_cons, List.not_mem_nil, or_false] at hw
    rcases hw with rfl | rfl | rfl | rfl
    · exact h2
    · exact hinst
    · exact hsel
    · rw [← hy]; exact h3)) rfl rfl rfl ⟨hy, h5⟩ hR
  have hstk : (As.reverse ++ Value.ref (fp_NC + q) :: S).map (fp_rv Z.2.1.2.1) = (As.map (fp_rv Z.2.1.2.1)).reverse ++ Value.ref (Z.2.1.2.1 (fp_NC + q)) :: S.map (fp_rv Z.2.1.2.1) := by
    rw [List.map_append, List.map_reverse]; rfl
  rw [hstk]
  refine va_calli (va_runV (As := As.map (fp_rv Z.2.1.2.1)) (rest := S.map (fp_rv Z.2.1.2.1)) ⟨C.exec, C.bytes, C.2.2.1, C.2.2.2.1, hb⟩ hM cw ⟨fp_blind _ _ _, hgo, fun U hU hW2 => fp_pre C hP hS (.ref (fp_NC + q) :: As) U hU hW2⟩ rfl (by rw [List.length_map]; exact hn) hl.1 rfl (lv_room (by rw [fp_sum]; exact hW)) hd ⟨C.room.2.2.1, C.room.2.2.2⟩) hS (fun q _ h => C.sub q h) (fun q h => C.sub q h) (fun r g2 t H1 locs1 ht _ hp hB _ _ hS1 => k r g2 hp ls H1 locs1 hl (by have hB := hB; unfold fp_B at hB; rw [ht] at hB; exact hB) hS1)
end
