/-! ===== constructors: worlds that grow ===== -/
def fp_nests : List Cond := [.methodLinkNest RX8 9 yX4_init RX8, .methodLinkNest RX4 20 yX6_init RX8, .methodLinkNest RX4 27 yX3_init RX8, .methodLinkNest RX3 11 yX5_init RX8, .methodLinkNest RX4 34 yX1_init RX8, .methodLinkNest RX8 50 yX7_init RX8]
/-- what is known beside the cells while the objects are made -/
def fp_KN (E : fp_E) (lo : Nat) (U : State) (H : Heap) : Prop :=
  va_K E.1 vwCl [(E.2.2 .int, .int), (E.2.2 .boolean, .boolean), (E.2.2 .byte, .byte)] U ∧
  vk_S 2 [9, 3] [[107, 119, 97, 104, 115, 117, 111, 98, 99], [60, 61, 62]] (fun i => E.2.1 (fp_NC + i)) (fun i => E.2.1 (fp_NC + 2 + i)) (fun q => lo ≤ q) U H ∧
  vk_R RX4 48 "kwahsuobc" (E.2.1 fp_NC) U ∧ va_Z RJ0 "COMPACT_STRINGS" "Z" (.int 1) (fun q => lo ≤ q) U H ∧ ∀ w ∈ fp_nests, va_Nw w U
theorem fp_KN.same {E : fp_E} {lo : Nat} {u U : State} {H : Heap} (hv : U.vm = u.vm) (h : fp_KN E lo u H) : fp_KN E lo U H := by
  have hvm : u.vm.Alike U.vm := by rw [hv]; exact Vm.Alike.refl u.vm
  exact ⟨va_K.moved hvm h.1, vk_S.moved hvm h.2.1, vk_R.same hv h.2.2.1, va_Z.moved hvm h.2.2.2.1, fun w hw => va_Nw.same (by
    simp only [fp_nests, List.mem_cons, List.not_mem_nil, or_false] at hw
    rcases hw with rfl | rfl | rfl | rfl | rfl | rfl <;> rfl) hv.symm (h.2.2.2.2 w hw)⟩
theorem fp_KN.warm {E : fp_E} {lo : Nat} {s U : State} {H : Heap} (hW : s.WarmedH U.vm) (h : fp_KN E lo s H) : fp_KN E lo U H :=
  ⟨va_K.moved hW.alike h.1, vk_S.moved hW.alike h.2.1, vk_R.warm hW h.2.2.1, va_Z.moved hW.alike h.2.2.2.1, fun w hw => by
    have h2 := h.2.2.2.2 w hw
    simp only [fp_nests, List.mem_cons, List.not_mem_nil, or_false] at hw
    rcases hw with rfl | rfl | rfl | rfl | rfl | rfl <;> exact va_Nw.warmM hW h2⟩
theorem fp_KN.kept {E : fp_E} {lo : Nat} {s : State} {H H1 : Heap} (hq : ∀ a : Nat, a < H.size → ¬ lo ≤ a → H1[a]? = H[a]?) (h : fp_KN E lo s H) : fp_KN E lo s H1 :=
  ⟨h.1, h.2.1.kept hq, h.2.2.1, h.2.2.2.1.kept hq, h.2.2.2.2⟩
abbrev fp_Y : Type := (Program × Launch × Env × Room × State × MethodId × Array Value × List Frame × Method × Code) × fp_E × (Nat → Prop) × (State → Prop) × Nat × Nat
def WC (Y : fp_Y) (pc : Nat) (L : List (Option Value)) (S : List Value) (ws : va_W) (n1 n2 : Nat) : Prop :=
  ∀ (ls : Array Slot) (H : Heap) (locs : List Loc), lv_has ls Y.2.2.2.2.1 (fp_al id 0 L) → va_P Y.2.1.1 vwCl ws H → va_D Y.2.2.1 ws → va_S Y.2.2.1 Y.1.2.2.2.2.1.heap H locs →
    W Y.1.1 Y.1.2.1 Y.1.2.2.1 Y.1.2.2.2.1 Y.1.2.2.2.2.1 Y.1.2.2.2.2.2.1 Y.1.2.2.2.2.2.2.1 Y.1.2.2.2.2.2.2.2.1 Y.1.2.2.2.2.2.2.2.2.1 Y.1.2.2.2.2.2.2.2.2.2 H locs n1 n2 Y.2.2.2.1 (F0 Y.1.2.2.2.2.2.1 pc ls S)
def fp_CC (Y : fp_Y) (cc : ByteArray) (own : String) : Prop :=
  Y.1.1.tables.exec = Jvm.exec ∧ Y.1.2.2.2.2.2.2.2.2.2.code = cc ∧ Y.1.2.2.2.2.2.2.2.2.2.maxLocals = Y.2.2.2.2.1 ∧ Y.1.2.2.2.2.1.vm.findClass own = some Y.1.2.2.2.2.2.1.cls ∧
  (∃ b, ∀ w ∈ b :: fp_lw, w.before Y.1.2.2.2.2.2.2.1 Y.1.2.2.2.2.1 = true) ∧ fp_KN Y.2.1 Y.2.2.2.2.2 Y.1.2.2.2.2.1 Y.1.2.2.2.2.1.heap ∧ (∀ q, Y.1.2.2.2.2.1.heap.size ≤ q → Y.2.2.1 q) ∧ (∀ q, q < Y.2.2.2.2.2 → ¬ Y.2.2.1 q) ∧ Y.2.2.2.2.2 ≤ Y.1.2.2.2.2.1.heap.size
section
variable {Y : fp_Y} {cc : ByteArray} {own : String} {pc : Nat} {L : List (Option Value)} {S : List Value} {ws : va_W} {n1 n2 : Nat}
theorem fp_CC.word (h : fp_CC Y cc own) {w : Cond} (hw : w ∈ fp_lw) : w.before Y.1.2.2.2.2.2.2.1 Y.1.2.2.2.2.1 = true := by
  obtain ⟨b, hb⟩ := h.2.2.2.2.1
  exact hb w (List.mem_cons_of_mem _ hw)
theorem wc_aload_n (C : fp_CC Y cc own) {n : Fin 4} {i : Nat} {x : Nat} (hd : decode cc pc = .ok (.aload_n n, 1)) (hi : (n : Nat) = i) (hL : L[i]? = some (some (.ref x))) (k : WC Y (pc + 1) L (.ref x :: S) ws n1 n2) : WC Y pc L S ws n1 n2 :=
  fun ls H locs hl hP hD hS => lv_aload_n C.1 C.2.1 hd hi (fp_at (ad := id) hl hL) (k ls H locs hl hP hD hS)
theorem wc_iload_n (C : fp_CC Y cc own) {n : Fin 4} {i : Nat} {x : Int32} (hd : decode cc pc = .ok (.iload_n n, 1)) (hi : (n : Nat) = i) (hL : L[i]? = some (some (.int x))) (k : WC Y (pc + 1) L (.int x :: S) ws n1 n2) : WC Y pc L S ws n1 n2 :=
  fun ls H locs hl hP hD hS => lv_iload_n C.1 C.2.1 hd hi (fp_at (ad := id) hl hL) (k ls H locs hl hP hD hS)
theorem wc_istore_n (C : fp_CC Y cc own) {n : Fin 4} {i : Nat} {x : Int32} {L2 : List (Option Value)} (hd : decode cc pc = .ok (.istore_n n, 1)) (hi : (n : Nat) = i) (hn : i < Y.2.2.2.2.1) (h1 : fp_c1 L i = true) (hL : L.set i (some (.int x)) = L2) (k : WC Y (pc + 1) L2 S ws n1 n2) : WC Y pc L (.int x :: S) ws n1 n2 :=
  fun ls H locs hl hP hD hS => lv_istore_n C.1 C.2.1 hd hi hl hn rfl (fun ls2 h2 => k ls2 H locs (hL ▸ fp_st (ad := id) (v := .int x) h1 h2) hP hD hS)
theorem wc_astore_n (C : fp_CC Y cc own) {n : Fin 4} {i : Nat} {x : Nat} {L2 : List (Option Value)} (hd : decode cc pc = .ok (.astore_n n, 1)) (hi : (n : Nat) = i) (hn : i < Y.2.2.2.2.1) (h1 : fp_c1 L i = true) (hL : L.set i (some (.ref x)) = L2) (k : WC Y (pc + 1) L2 S ws n1 n2) : WC Y pc L (.ref x :: S) ws n1 n2 :=
  fun ls H locs hl hP hD hS => lv_astore_n C.1 C.2.1 hd hi hl hn rfl (fun ls2 h2 => k ls2 H locs (hL ▸ fp_st (ad := id) (v := .ref x) h1 h2) hP hD hS)
theorem wc_iinc (C : fp_CC Y cc own) {i : Nat} {n : Int} {x v : Int32} {L2 : List (Option Value)} (hd : decode cc pc = .ok (.iinc i n, 3)) (hx : L[i]? = some (some (.int x))) (hv : x + Int32.ofInt n = v) (hn : i < Y.2.2.2.2.1) (h1 : fp_c1 L i = true) (hL : L.set i (some (.int v)) = L2) (k : WC Y (pc + 3) L2 S ws n1 n2) : WC Y pc L S ws n1 n2 := by
  intro ls H locs hl hP hD hS
  obtain ⟨kk, hk⟩ := List.getElem?_of_mem ((fp_al_mem (ad := id) L 0 i (.int x)).mpr ⟨i, .int x, hx, by omega, rfl⟩)
  exact lv_iinc C.1 C.2.1 hd hl hk hv hn rfl (fun ls2 h2 => k ls2 H locs (hL ▸ fp_st (ad := id) (v := .int v) h1 h2) hP hD hS)
theorem wc_iconst (C : fp_CC Y cc own) {n : Int} {v : Int32} (hd : decode cc pc = .ok (.iconst n, 1)) (hv : Int32.ofInt n = v) (k : WC Y (pc + 1) L (.int v :: S) ws n1 n2) : WC Y pc L S ws n1 n2 := fun ls H locs hl hP hD hS => lv_iconst C.1 C.2.1 hd hv (k ls H locs hl hP hD hS)
theorem wc_bipush (C : fp_CC Y cc own) {n : Int} {v : Int32} (hd : decode cc pc = .ok (.bipush n, 2)) (hv : (Int8.ofInt n).toInt32 = v) (k : WC Y (pc + 2) L (.int v :: S) ws n1 n2) : WC Y pc L S ws n1 n2 := fun ls H locs hl hP hD hS => lv_bipush C.1 C.2.1 hd hv (k ls H locs hl hP hD hS)
theorem wc_sipush (C : fp_CC Y cc own) {n : Int} {v : Int32} (hd : decode cc pc = .ok (.sipush n, 3)) (hv : (Int16.ofInt n).toInt32 = v) (k : WC Y (pc + 3) L (.int v :: S) ws n1 n2) : WC Y pc L S ws n1 n2 := fun ls H locs hl hP hD hS => lv_sipush C.1 C.2.1 hd hv (k ls H locs hl hP hD hS)
theorem wc_ldc (C : fp_CC Y cc own) {i : Nat} {v : Int32} (hw : Cond.constant own i v ∈ fp_lw) (hd : decode cc pc = .ok (.ldc i, 2)) (k : WC Y (pc + 2) L (.int v :: S) ws n1 n2) : WC Y pc L S ws n1 n2 := fun ls H locs hl hP hD hS => lv_ldc C.1 C.2.1 C.2.2.2.1 (C.word hw) hd (k ls H locs hl hP hD hS)
theorem wc_iadd (C : fp_CC Y cc own) {x y : Int32} (hd : decode cc pc = .ok (.iadd, 1)) (k : WC Y (pc + 1) L (.int (x + y) :: S) ws n1 n2) : WC Y pc L (.int y :: .int x :: S) ws n1 n2 := fun ls H locs hl hP hD hS => lv_iadd C.1 C.2.1 hd (k ls H locs hl hP hD hS)
theorem wc_imul (C : fp_CC Y cc own) {x y : Int32} (hd : decode cc pc = .ok (.imul, 1)) (k : WC Y (pc + 1) L (.int (x * y) :: S) ws n1 n2) : WC Y pc L (.int y :: .int x :: S) ws n1 n2 := fun ls H locs hl hP hD hS => lv_imul C.1 C.2.1 hd (k ls H locs hl hP hD hS)
theorem wc_dup (C : fp_CC Y cc own) {v : Value} (hd : decode cc pc = .ok (.dup, 1)) (hv : v.category = 1) (k : WC Y (pc + 1) L (v :: v :: S) ws n1 n2) : WC Y pc L (v :: S) ws n1 n2 := fun ls H locs hl hP hD hS => lv_dup C.1 C.2.1 hd hv (k ls H locs hl hP hD hS)
theorem wc_goto (C : fp_CC Y cc own) {off : Int} {tgt : Nat} (hd : decode cc pc = .ok (.goto off, 3)) (ht : (pc : Int) + off = (tgt : Int)) (k : WC Y tgt L S ws n1 n2) : WC Y pc L S ws n1 n2 := fun ls H locs hl hP hD hS => lv_goto C.1 C.2.1 hd ht (k ls H locs hl hP hD hS)
theorem wc_icmp_ge (C : fp_CC Y cc own) {x y : Int32} {off : Int} {tgt : Nat} (hd : decode cc pc = .ok (.if_icmp .ge off, 3)) (ht : (pc : Int) + off = (tgt : Int)) (k1 : y ≤ x → WC Y tgt L S ws n1 n2) (k2 : ¬ y ≤ x → WC Y (pc + 3) L S ws n1 n2) : WC Y pc L (.int y :: .int x :: S) ws n1 n2 :=
  fun ls H locs hl hP hD hS => lv_icmp_ge C.1 C.2.1 hd ht (fun c => k1 c ls H locs hl hP hD hS) (fun c => k2 c ls H locs hl hP hD hS)
/-- Object.<init> -/
theorem wc_obj (C : fp_CC Y cc own) {a i : Nat} (hl1 : Cond.methodLink own i Lib.objectInit ∈ fp_lw) (hl2 : Cond.instanceMethod Lib.objectInit ∈ fp_lw) (hl3 : Cond.code Lib.objectInit ⟨#[0xb1]⟩ 1 none ∈ fp_lw) (hd : decode cc pc = .ok (.invokespecial i, 3)) (hf : 1 ≤ Y.1.2.2.2.1.frames) (hlo : 20 ≤ Y.1.2.2.2.1.locals) (hW : (S.map fun v => v.category).sum ≤ 8) (k : WC Y (pc + 3) L S ws n1 n2) : WC Y pc L (.ref a :: S) ws n1 n2 := by
  intro ls H locs hl hP hD hS
  refine W.objInit C.1 C.2.1 C.2.2.2.1 (C.word hl1) (C.word hl2) (C.word hl3) rfl (by rw [C.2.2.1]; exact hl.1) rfl hd hf (by show 2 * 0 + _ + 12 ≤ _; omega) ?_
  exact k ls H locs hl hP hD hS
theorem wc_newa (C : fp_CC Y cc own) {atype : ArrayType} {ty : FieldType} {t0 N : Nat} {n : Int32} (hty : newarray.typeOf atype = ty) (ht : ([(Y.2.1.2.2 .int, FieldType.int), (Y.2.1.2.2 .boolean, .boolean), (Y.2.1.2.2 .byte, .byte)] : List (ClassId × FieldType))[t0]? = some (Y.2.1.2.2 ty, ty)) (hra : ∀ U cA, va_RA U cA ty → U.vm.findClass ("[" ++ ty.toString) = some cA)
    (harr : Cond.arrayClass ty ∈ fp_lw) (ha : ∀ cA : ClassId, vp_cell cA (N, .inl (fun _ => 0)) = arrV cA N (fun _ => defaultValue ty)) (hn : ¬ n < 0) (hN : n.toNatClampNeg = N) (hbytes : N * componentBytes ty ≤ 536870912) (hcells : n1 + 1 ≤ Y.1.2.2.2.1.cells) (hslots : n2 + N ≤ Y.1.2.2.2.1.slots) (hd : decode cc pc = .ok (.newarray atype, 2))
    (k : ∀ q, WC Y (pc + 2) L (.ref q :: S) (ws ++ [(q, .inl (Y.2.1.2.2 ty, N, .inl fun _ => 0))]) (n1 + 1) (n2 + N)) : WC Y pc L (.int n :: S) ws n1 n2 := by
  intro ls H locs hl hP hD hS
  have hK := C.2.2.2.2.2.1.1
  refine va_newa (a0 := (N, .inl (fun _ => 0))) C.1 C.2.1 (by rw [hty]; exact C.word harr) hty hK hP hD hS C.2.2.2.2.2.2.1 ha hn hN hbytes hcells hslots hd (fun q cA H1 hK1 hP1 hD1 hS1 => ?_)
  have e : cA = Y.2.1.2.2 ty := by
    have h1 := hra _ _ (hK.2 t0 _ ht).2
    have h2 := hra _ _ (hK1.2 3 (cA, ty) rfl).2
    rw [h1] at h2
    exact (Option.some.inj h2).symm
  subst e
  exact k q ls H1 locs hl hP1 hD1 hS1
theorem wc_new (C : fp_CC Y cc own) {Cn : String} {T : u_T} {N ci i : Nat} {fs : List Value} (hc : vwCl[ci]? = some (Cn, T, N)) (hin : ∀ w ∈ u_ws Cn T N, w ∈ fp_lw) (ty : Nat → FieldType) (hty : ∀ k, k < N → parseFieldDescriptor (T k).2.2.1 = some (ty k)) (hcl : Cond.classLink own i Cn ∈ fp_lw) (hinst : Cond.instantiable Cn N ∈ fp_lw) (hini : Cond.initialized Cn ∈ fp_lw) (hfs : ∀ j, j < N → defaultValue (ty j) = vp_V fs j) (hcells : n1 + 1 ≤ Y.1.2.2.2.1.cells) (hslots : n2 + N ≤ Y.1.2.2.2.1.slots) (hd : decode cc pc = .ok (.new i, 3))
    (k : ∀ q, WC Y (pc + 3) L (.ref q :: S) (ws ++ [(q, .inr (ci, fs))]) (n1 + 1) (n2 + N)) : WC Y pc L S ws n1 n2 :=
  fun ls H locs hl hP hD hS => va_new C.1 C.2.1 (fun w hw => C.word hw) hin ty hty C.2.2.2.1 (C.word hcl) (C.word hinst) (C.word hini) C.2.2.2.2.2.1.1 hP hD hS C.2.2.2.2.2.2.1 hc hfs hcells hslots hd (fun q H1 hP1 hD1 hS1 => k q ls H1 locs hl hP1 hD1 hS1)
theorem wc_getR (C : fp_CC Y cc own) {a ci j i N p : Nat} {fs : List Value} {v : Value} {T : u_T} {Cn : String} (he : ws[p]? = some (a, .inr (ci, fs))) (hc : vwCl[ci]? = some (Cn, T, N)) (hin : ∀ w ∈ u_ws Cn T N, w ∈ fp_lw) (hk : j < N) (hv : fs[j]? = some v) (hlink : Cond.fieldLink own i (T j).1 (T j).2.1 (T j).2.2.1 ∈ fp_lw) (hd : decode cc pc = .ok (.getfield i, 3)) (k : WC Y (pc + 3) L (v :: S) ws n1 n2) : WC Y pc L (.ref a :: S) ws n1 n2 :=
  fun ls H locs hl hP hD hS => va_get (ci := ci) C.1 C.2.1 (fun w hw => C.word hw) hin C.2.2.2.1 C.2.2.2.2.2.1.1 hP p he hc j hk (C.word hlink) (fun _ h => h) hv hd (k ls H locs hl hP hD hS)
theorem wc_putF (C : fp_CC Y cc own) {a ci j i N p : Nat} {fs : List Value} {v : Value} {ty : FieldType} {T : u_T} {Cn : String} (hin2 : Y.1.2.2.2.2.2.2.2.2.1.name = "<init>") (he : ws[p]? = some (a, .inr (ci, fs))) (hc : vwCl[ci]? = some (Cn, T, N)) (hin : ∀ w ∈ u_ws Cn T N, w ∈ fp_lw) (hk : j < N) (ty0 : Nat → FieldType) (hty : ∀ k, k < N → parseFieldDescriptor (T k).2.2.1 = some (ty0 k)) (hnm : ∀ a, a < N → ∀ b, b < N → a ≠ b → (T a).2.1 ≠ (T b).2.1) (hlink : Cond.fieldLink own i (T j).1 (T j).2.1 (T j).2.2.1 ∈ fp_lw) (hfin : (T j).2.2.2 = true) (hdecl : (T j).1 = own) (hpd : parseFieldDescriptor (T j).2.2.1 = some ty) (hn : narrow ty v = v) (hfit : fits ty v = true) (hl2 : j < fs.length) (hd : decode cc pc = .ok (.putfield i, 3))
    (k : WC Y (pc + 3) L S (ws.set p (a, .inr (ci, fs.set j v))) n1 n2) : WC Y pc L (v :: .ref a :: S) ws n1 n2 :=
  fun ls H locs hl hP hD hS => va_putF (ci := ci) C.1 C.2.1 (fun w hw => C.word hw) hin ty0 hty hnm C.2.2.2.1 C.2.2.2.2.2.1.1 hP hD hS p he hc j hk (C.word hlink) (fun _ h => h) hfin hin2 hdecl hpd hn hfit hl2 hd (fun H1 locs1 hP1 hD1 hS1 => k ls H1 locs1 hl hP1 hD1 hS1)
theorem wc_putI (C : fp_CC Y cc own) {a ci j i N p : Nat} {fs : List Value} {x : Int32} {T : u_T} {Cn : String} (he : ws[p]? = some (a, .inr (ci, fs))) (hc : vwCl[ci]? = some (Cn, T, N)) (hin : ∀ w ∈ u_ws Cn T N, w ∈ fp_lw) (hk : j < N) (ty0 : Nat → FieldType) (hty : ∀ k, k < N → parseFieldDescriptor (T k).2.2.1 = some (ty0 k)) (hnm : ∀ a, a < N → ∀ b, b < N → a ≠ b → (T a).2.1 ≠ (T b).2.1) (hlink : Cond.fieldLink own i (T j).1 (T j).2.1 (T j).2.2.1 ∈ fp_lw) (hfin : (T j).2.2.2 = false) (hpd : parseFieldDescriptor (T j).2.2.1 = some .int) (hl2 : j < fs.length) (hd : decode cc pc = .ok (.putfield i, 3))
    (k : WC Y (pc + 3) L S (ws.set p (a, .inr (ci, fs.set j (.int x)))) n1 n2) : WC Y pc L (.int x :: .ref a :: S) ws n1 n2 :=
  fun ls H locs hl hP hD hS => va_put (ci := ci) (v := .int x) (ty := .int) C.1 C.2.1 (fun w hw => C.word hw) hin ty0 hty hnm C.2.2.2.1 C.2.2.2.2.2.1.1 hP hD hS p he hc j hk (C.word hlink) (fun _ h => h) hfin hpd rfl rfl hl2 hd (fun H1 locs1 hP1 hD1 hS1 => k ls H1 locs1 hl hP1 hD1 hS1)
theorem wc_iast (C : fp_CC Y cc own) {a p n : Nat} {f : Nat → Int32} {i x : Int32} (he : ws[p]? = some (a, .inl (Y.2.1.2.2 .int, n, .inl f))) (hin : vp_in i n) (hd : decode cc pc = .ok (.iastore, 1)) (k : WC Y (pc + 1) L S (ws.set p (a, .inl (Y.2.1.2.2 .int, n, .inl (upd f i.toNatClampNeg x)))) n1 n2) : WC Y pc L (.int x :: .int i :: .ref a :: S) ws n1 n2 :=
  fun ls H locs hl hP hD hS => va_iast C.1 C.2.1 C.2.2.2.2.2.1.1 hP hD hS p 0 he rfl hin hd (fun H1 locs1 hP1 hD1 hS1 => k ls H1 locs1 hl hP1 hD1 hS1)
theorem wc_mmax (C : fp_CC Y cc own) {i : Nat} {x y : Int32} (hs : fp_siteM own i Lib.Math.max.name Lib.Math.max.code) (hf : 1 ≤ Y.1.2.2.2.1.frames) (hlo : 25 ≤ Y.1.2.2.2.1.locals) (hW : (S.map fun v => v.category).sum ≤ 8) (hc : n1 ≤ Y.1.2.2.2.1.cells) (hc2 : n2 ≤ Y.1.2.2.2.1.slots) (hd : decode cc pc = .ok (.invokestatic i, 3)) (k : WC Y (pc + 3) L (.int (if x < y then y else x) :: S) ws n1 n2) : WC Y pc L (.int y :: .int x :: S) ws n1 n2 :=
  fun ls H locs hl hP hD hS => va_mmax C.1 C.2.1 (C.2.2.1.trans hl.1.symm) C.2.2.2.1 (C.word hs.1) (C.word hs.2.1) (C.word hs.2.2.1) (C.word hs.2.2.2) hf (by omega) hc hc2 hd (k ls H locs hl hP hD hS)
theorem WC.same {ws2 : va_W} (e : ws = ws2) (k : WC Y pc L S ws2 n1 n2) : WC Y pc L S ws n1 n2 := e ▸ k
end
/-- a constructor's contract: over the cells w0 (this first) it makes mc cells of ms slots; behind it the cells are as Fin says -/
def fp_Pi (E : fp_E) (lo : Nat) (av : List Value) (w0 : va_W) (sz : Nat) : Array Value → State → Prop := va_Pc av (fun U => U.heap.size = sz ∧ va_P E.1 vwCl w0 U.heap ∧ fp_KN E lo U U.heap ∧ va_D (fun _ => True) w0)
def fp_Bi (E : fp_E) (w0 : va_W) (sz : Nat) (Fin : va_W → Prop) (_ : Unit) (t : State) : Prop := ∃ w1, Fin w1 ∧ va_P E.1 vwCl w1 t.heap ∧ va_D (va_A w0 sz) w1
def fp_I (l : Launch) (E : fp_E) (lo : Nat) (y : MethodName) (bytes : ByteArray) (maxL fr mc ms : Nat) (av : List Value) (w0 : va_W) (Fin : va_W → Prop) : Prop :=
  ∀ sz, lo ≤ sz → (∀ q, q < lo → ¬ va_A w0 sz q) → Met l y (Cond.code y bytes maxL none :: fp_lw) { frames := fr, cells := mc, slots := ms, locals := 60 * fr } (fp_Pi E lo av w0 sz) (va_Qv (fun _ : Unit => True) (fp_Bi E w0 sz Fin) (va_A w0 sz)) mc ms (va_A w0 sz)
theorem fp_Pi_blind (E : fp_E) (lo : Nat) (av : List Value) (w0 : va_W) (sz : Nat) : FrameBlind (fp_Pi E lo av w0 sz) := by
  intro a U f mk h
  exact ⟨h.1, h.2.1, h.2.2.1, fp_KN.same (u := U) (U := U.calling f mk a) (H := U.heap) rfl h.2.2.2.1, h.2.2.2.2⟩
theorem fp_enterI {l : Launch} {E : fp_E} {lo : Nat} {y : MethodName} {bytes : ByteArray} {maxL fr mc ms : Nat} {av : List Value} {w0 : va_W} {Fin : va_W → Prop} (hy : plainName y.cls = true) (L : List (Option Value)) (hlen : (lg_sl av).length ≤ maxL) (hL : ∀ q ∈ fp_al id 0 L, q ∈ lv_args 0 av)
    (body : ∀ Y : fp_Y, Y.2.1 = E → Y.1.2.1 = l → Y.2.2.2.2.2 = lo → Y.2.2.2.2.1 = maxL → Y.1.2.2.2.1 = { frames := fr, cells := mc, slots := ms, locals := 60 * fr } → (y.name = "<init>" → Y.1.2.2.2.2.2.2.2.2.1.name = "<init>") → fp_CC Y bytes y.cls →
      (∀ pc L ws, decode bytes pc = .ok (.return_, 1) → Fin ws → WC Y pc L [] ws mc ms) → WC Y 0 L [] w0 0 0) : fp_I l E lo y bytes maxL fr mc ms av w0 Fin := by
  intro sz hlo hA0
  refine Met.ofW (cc := bytes) (maxL := maxL) (ret := none) hy rfl ?_
  intro p e s m args below meth c s₁ B hml hv
  obtain ⟨rfl, hsz, hP, hK, hD0⟩ := hv
  subst hsz
  have hts := atoms_spec (ws := Cond.code y bytes maxL none :: fp_lw) B.pre
  have hl := lv_entry av (n := maxL) hlen
  have hin : y.name = "<init>" → meth.name = "<init>" := fun hyn => ((name_of_methodNamed B.named B.method).1).trans hyn
  have hlocks := B.notSynchronized
  rw [lg_entry_eq]
  refine body ((p, l, e, (headSpec (Cond.code y bytes maxL none :: fp_lw) { frames := fr, cells := mc, slots := ms, locals := 60 * fr }).room, s, m, av.toArray, below, meth, c), E, va_A w0 s.heap.size, MQ below (va_Qv (fun _ : Unit => True) (fp_Bi E w0 s.heap.size Fin) (va_A w0 s.heap.size)) av.toArray s mc ms (va_A w0 s.heap.size), maxL, lo) rfl rfl rfl rfl rfl hin
    ⟨B.exec, B.bytes, hml, findClass_of_methodNamed B.named, ⟨_, hts⟩, hK, fun q h => Or.inr h, hA0, hlo⟩ ?_ _ _ _ ⟨hl.1, hl.2.1, fun q hq => hl.2.2 q (hL q hq)⟩ hP hD0.self va_S.rf
  intro pc L ws hd hF ls H locs hl hP hD hS
  exact W.vret B.exec B.bytes B.returns (fun t ht hW => ⟨⟨(), rfl, trivial, ws, hF, by rw [ht]; exact hP, hD⟩, hS.F ht⟩) hS.2.2 hd hlocks

/-- what a constructor's call rests on -/
def fp_siteI (y : MethodName) (bytes : ByteArray) (maxL n : Nat) : Prop :=
  Cond.code y bytes maxL none ∈ fp_lw ∧ Cond.instanceMethod y ∈ fp_lw ∧ Cond.initialized y.cls ∈ fp_lw ∧ y.name = "<init>" ∧ (y.cls ≠ "java/lang/invoke/MethodHandle" ∧ y.cls ≠ "java/lang/invoke/VarHandle" ∧ (parseMethodDescriptor y.desc).map (fun d => d.parameters.length) = some n)
section
variable {Y : fp_Y} {cc : ByteArray} {own : String} {pc : Nat} {L : List (Option Value)} {S : List Value} {ws : va_W} {n1 n2 : Nat}
theorem fp_preI (C : fp_CC Y cc own) {H : Heap} {locs : List Loc} {wc : va_W} (hS : va_S Y.2.2.1 Y.1.2.2.2.2.1.heap H locs) (hPc : va_P Y.2.1.1 vwCl wc H) (hDc : va_D (fun _ => True) wc) (av : List Value) (U : State) (hU : U.heap = H) (hW : Y.1.2.2.2.2.1.WarmedH U.vm) : fp_Pi Y.2.1 Y.2.2.2.2.2 av wc H.size av.toArray U :=
  ⟨rfl, by rw [hU], by rw [hU]; exact hPc, by rw [hU]; exact fp_KN.warm hW (fp_KN.kept (fun a ha hn => hS.2.1 a ha (C.2.2.2.2.2.2.2.1 a (by omega))) C.2.2.2.2.2.1), hDc⟩
theorem wc_callI (C : fp_CC Y cc own) {y : MethodName} {bytes : ByteArray} {maxL i fr mc ms n p a : Nat} {As S0 : List Value} {e : va_E} {Fin : va_W → Prop} {wr : va_W} (isR : List Nat)
    (hs : fp_siteI y bytes maxL n) (hlink : Cond.methodLink own i y ∈ fp_lw ∨ ∃ host, va_Nw (.methodLinkNest own i y host) Y.1.2.2.2.2.1) (hM : fp_I Y.1.2.1 Y.2.1 Y.2.2.2.2.2 y bytes maxL fr mc ms (.ref a :: As) [(a, e)] Fin) (he : ws[p]? = some (a, e)) (hR : isR.map (fun i => ws[i]?) = wr.map some) (hnd : va_nd isR = true) (hdis : ∀ i ∈ isR, i ∉ [p])
    (hd : decode cc pc = .ok (.invokespecial i, 3)) (hn : As.length = n) (hst : As.reverse ++ .ref a :: S = S0) (hW : (S.map fun v => v.category).sum ≤ 8) (hroom : fr + 1 ≤ Y.1.2.2.2.1.frames ∧ 8 + (maxL + 11) + 60 * fr ≤ Y.1.2.2.2.1.locals) (hc : n1 + mc ≤ Y.1.2.2.2.1.cells) (hc2 : n2 + ms ≤ Y.1.2.2.2.1.slots)
    (k : ∀ w1, Fin w1 → WC Y (pc + 3) L S (wr ++ w1) (n1 + mc) (n2 + ms)) : WC Y pc L S0 ws n1 n2 := by
  intro ls H locs hl hP hD hS
  subst hst
  obtain ⟨b, hb⟩ := C.2.2.2.2.1
  obtain ⟨h1, h2, h3, h4, h5⟩ := hs
  have hlt : p < ws.length := (List.getElem?_eq_some_iff.mp he).1
  have hPc := hP.sub (ws' := [(a, e)]) [p] (by simp [he])
  have hDc := hD.sub (ws' := [(a, e)]) [p] (by simp [va_nd]) (by simp [he])
  have hFc := va_free (wc := [(a, e)]) hD hS C.2.2.2.2.2.2.1 [p] (by simp [he])
  have hMM := hM H.size (Nat.le_trans C.2.2.2.2.2.2.2.2 hS.1) (fun q hq h => C.2.2.2.2.2.2.2.1 q hq (hFc q h))
  have hgood : GoodIn (b :: fp_lw) (Cond.code y bytes maxL none :: fp_lw) := fp_good h1 b
  have pre : PreS Y.1.2.2.2.2.1 H (fp_Pi Y.2.1 Y.2.2.2.2.2 (.ref a :: As) [(a, e)] H.size) (.ref a :: As) := ⟨fp_Pi_blind _ _ _ _ _, fun U hU hW2 => fp_preI C hS hPc (hDc.weaken (fun _ _ _ _ => trivial)) _ U hU hW2⟩
  have go : ∀ hr : va_Run Y.1.1 Y.1.2.1 Y.1.2.2.1 Y.1.2.2.2.1 Y.1.2.2.2.2.1 Y.1.2.2.2.2.2.1 Y.1.2.2.2.2.2.2.1 Y.1.2.2.2.2.2.2.2.1 Y.1.2.2.2.2.2.2.2.2.1 Y.1.2.2.2.2.2.2.2.2.2 H locs n1 n2 mc ms (F0 Y.1.2.2.2.2.2.1 pc ls (As.reverse ++ .ref a :: S)) S (va_Qv (fun _ : Unit => True) (fp_Bi Y.2.1 [(a, e)] H.size Fin) (va_A [(a, e)] H.size) (Value.ref a :: As).toArray) (va_A [(a, e)] H.size),
      W Y.1.1 Y.1.2.1 Y.1.2.2.1 Y.1.2.2.2.1 Y.1.2.2.2.2.1 Y.1.2.2.2.2.2.1 Y.1.2.2.2.2.2.2.1 Y.1.2.2.2.2.2.2.2.1 Y.1.2.2.2.2.2.2.2.2.1 Y.1.2.2.2.2.2.2.2.2.2 H locs n1 n2 Y.2.2.2.1 (F0 Y.1.2.2.2.2.2.1 pc ls (As.reverse ++ .ref a :: S)) := by
    intro hr
    refine va_callv hr hS (fun q _ h => hFc q h) hFc (fun u t H1 locs1 ht hvm hw hB hz1 hk1 hS1 => ?_)
    obtain ⟨w1, hF, hP1, hD1⟩ := hB
    rw [ht] at hP1
    obtain ⟨hP2, hD2⟩ := va_join (wr := wr) (w1 := w1) hP hD [p] isR (by simp [he]) hR hnd hdis hk1 hFc hP1 hD1
    exact k w1 hF ls H1 locs1 hl hP2 hD2 hS1
  rcases hlink with hlk | ⟨host, hnest⟩
  · exact go (va_runI (As := As) (rest := S) ⟨C.1, C.2.1, C.2.2.1, C.2.2.2.1, hb⟩ hMM (cwI (R := Y.1.2.2.2.1) n hb hgood rfl rfl rfl (C.word h3) (C.word hlk) (C.word h2) h4 h5 hroom) pre rfl hn hl.1 rfl (lv_room hW) hd ⟨hc, hc2⟩)
  · exact go (va_runIN (As := As) (rest := S) ⟨C.1, C.2.1, C.2.2.1, C.2.2.2.1, hb⟩ hMM ⟨va_cnB (R := Y.1.2.2.2.1) n hb hgood rfl rfl rfl hnest (C.word h3) h5 hroom, h4, C.word h2⟩ pre rfl hn hl.1 rfl (lv_room hW) hd ⟨hc, hc2⟩)
/-- a static method without an answer, over one cell -/
theorem wc_callS (C : fp_CC Y cc own) {y : MethodName} {bytes : ByteArray} {maxL i fr n p a : Nat} {As S0 : List Value} {e : va_E} {Fin : va_W → Prop} {wr : va_W} (isR : List Nat)
    (hs : fp_site own i y bytes maxL none n) (hstat : Cond.static y ∈ fp_lw) (hM : fp_I Y.1.2.1 Y.2.1 Y.2.2.2.2.2 y bytes maxL fr 0 0 As [(a, e)] Fin) (he : ws[p]? = some (a, e)) (hR : isR.map (fun i => ws[i]?) = wr.map some) (hnd : va_nd isR = true) (hdis : ∀ i ∈ isR, i ∉ [p])
    (hd : decode cc pc = .ok (.invokestatic i, 3)) (hn : As.length = n) (hst : As.reverse ++ S = S0) (hW : (S.map fun v => v.category).sum ≤ 8) (hroom : fr + 1 ≤ Y.1.2.2.2.1.frames ∧ 8 + (maxL + 11) + 60 * fr ≤ Y.1.2.2.2.1.locals) (hc : n1 ≤ Y.1.2.2.2.1.cells) (hc2 : n2 ≤ Y.1.2.2.2.1.slots)
    (k : ∀ w1, Fin w1 → WC Y (pc + 3) L S (wr ++ w1) n1 n2) : WC Y pc L S0 ws n1 n2 := by
  intro ls H locs hl hP hD hS
  subst hst
  obtain ⟨b, hb⟩ := C.2.2.2.2.1
  obtain ⟨h1, h2, h3, h4, h5⟩ := hs
  have hPc := hP.sub (ws' := [(a, e)]) [p] (by simp [he])
  have hDc := hD.sub (ws' := [(a, e)]) [p] (by simp [va_nd]) (by simp [he])
  have hFc := va_free (wc := [(a, e)]) hD hS C.2.2.2.2.2.2.1 [p] (by simp [he])
  have hMM := hM H.size (Nat.le_trans C.2.2.2.2.2.2.2.2 hS.1) (fun q hq h => C.2.2.2.2.2.2.2.1 q hq (hFc q h))
  have cw := va_cwS (R := Y.1.2.2.2.1) (own := own) (index := i) (bytes := bytes) (maxL := maxL) (ret := none) (rm := { frames := fr, cells := 0, slots := 0, locals := 60 * fr }) (mc := 0) (ms := 0) n hb (fp_goodW (own := own) (C := y.cls) (idx := i) (ret := none) (maxL := maxL) h1 [.methodLink own i y, .static y, .initialized y.cls] (by
    intro w hw
    simp only [List.mem_cons, List.not_mem_nil, or_false] at hw
    rcases hw with rfl | rfl | rfl
    · exact h2
    · exact hstat
    · exact h3)) rfl rfl rfl h5 hroom
  refine va_callv (va_runS (As := As) (rest := S) ⟨C.1, C.2.1, C.2.2.1, C.2.2.2.1, hb⟩ hMM cw ⟨fp_Pi_blind _ _ _ _ _, fun U hU hW2 => fp_preI C hS hPc (hDc.weaken (fun _ _ _ _ => trivial)) _ U hU hW2⟩ rfl hn hl.1 rfl (lv_room hW) hd ⟨hc, hc2⟩) hS (fun q _ h => hFc q h) hFc (fun u t H1 locs1 ht hvm hw hB hz1 hk1 hS1 => ?_)
  obtain ⟨w1, hF, hP1, hD1⟩ := hB
  rw [ht] at hP1
  obtain ⟨hP2, hD2⟩ := va_join (wr := wr) (w1 := w1) hP hD [p] isR (by simp [he]) hR hnd hdis hk1 hFc hP1 hD1
  exact k w1 hF ls H1 locs1 hl hP2 hD2 hS1
end

section
variable {Y : fp_Y} {cc : ByteArray} {own : String} {pc : Nat} {L : List (Option Value)} {S : List Value} {ws : va_W} {n1 n2 q : Nat}
theorem wc_alen (C : fp_CC Y cc own) {a p n : Nat} {f : Nat → Int32} (he : ws[p]? = some (a, .inl (Y.2.1.2.2 .int, n, .inl f))) (hd : decode cc pc = .ok (.arraylength, 1)) (k : WC Y (pc + 1) L (.int (Int32.ofNat n) :: S) ws n1 n2) : WC Y pc L (.ref a :: S) ws n1 n2 :=
  fun ls H locs hl hP hD hS => va_alen (ty := .int) C.1 C.2.1 C.2.2.2.2.2.1.1 hP p 0 he rfl rfl hd (k ls H locs hl hP hD hS)
theorem wc_ishr (C : fp_CC Y cc own) {x y : Int32} (hd : decode cc pc = .ok (.ishr, 1)) (k : WC Y (pc + 1) L (.int (x >>> (y &&& 31)) :: S) ws n1 n2) : WC Y pc L (.int y :: .int x :: S) ws n1 n2 := fun ls H locs hl hP hD hS => lv_ishr C.1 C.2.1 hd (k ls H locs hl hP hD hS)
theorem wc_if_eq (C : fp_CC Y cc own) {x : Int32} {off : Int} {tgt : Nat} (hd : decode cc pc = .ok (.ifCond .eq off, 3)) (ht : (pc : Int) + off = (tgt : Int)) (hx : ¬ x = 0) (k : WC Y (pc + 3) L S ws n1 n2) : WC Y pc L (.int x :: S) ws n1 n2 :=
  fun ls H locs hl hP hD hS => lv_if_eq C.1 C.2.1 hd ht (fun c => absurd c hx) (fun _ => k ls H locs hl hP hD hS)
theorem fp_CC.hS (C : fp_CC Y cc own) {H : Heap} {locs : List Loc} (hS : va_S Y.2.2.1 Y.1.2.2.2.2.1.heap H locs) : va_S (fun q => Y.2.2.2.2.2 ≤ q) Y.1.2.2.2.2.1.heap H locs :=
  ⟨hS.1, fun a ha hn => hS.2.1 a ha (C.2.2.2.2.2.2.2.1 a (by omega)), fun x hx => by
    rcases Nat.lt_or_ge x.base Y.2.2.2.2.2 with z | z
    · exact absurd (hS.2.2 x hx) (C.2.2.2.2.2.2.2.1 _ z)
    · exact z⟩
theorem wc_gets (C : fp_CC Y cc own) {i : Nat} (hw : Cond.fieldLink own i RJ0 "COMPACT_STRINGS" "Z" ∈ fp_lw) (hd : decode cc pc = .ok (.getstatic i, 3)) (k : WC Y (pc + 3) L (.int 1 :: S) ws n1 n2) : WC Y pc L S ws n1 n2 :=
  fun ls H locs hl hP hD hS => va_gets C.1 C.2.1 C.2.2.2.2.2.1.2.2.2.1 (C.hS hS) C.2.2.2.1 (C.word hw) (fun _ h => h) hd (k ls H locs hl hP hD hS)
theorem wc_sval (C : fp_CC Y cc own) {i : Nat} (hq : q < 2) (hw : Cond.fieldLink own i RJ0 "value" "[B" ∈ fp_lw) (hd : decode cc pc = .ok (.getfield i, 3)) (k : WC Y (pc + 3) L (.ref (Y.2.1.2.1 (fp_NC + 2 + q)) :: S) ws n1 n2) : WC Y pc L (.ref (Y.2.1.2.1 (fp_NC + q)) :: S) ws n1 n2 :=
  fun ls H locs hl hP hD hS => vk_getf C.1 C.2.1 (C.2.2.2.2.2.1.2.1.1 q hq).2.2.1 (C.hS hS) C.2.2.2.1 (C.word hw) (fun _ h => h) hd (k ls H locs hl hP hD hS)
theorem wc_scod (C : fp_CC Y cc own) {i : Nat} (hq : q < 2) (hw : Cond.fieldLink own i RJ0 "coder" "B" ∈ fp_lw) (hd : decode cc pc = .ok (.getfield i, 3)) (k : WC Y (pc + 3) L (.int 0 :: S) ws n1 n2) : WC Y pc L (.ref (Y.2.1.2.1 (fp_NC + q)) :: S) ws n1 n2 :=
  fun ls H locs hl hP hD hS => vk_getf C.1 C.2.1 (C.2.2.2.2.2.1.2.1.1 q hq).2.1 (C.hS hS) C.2.2.2.1 (C.word hw) (fun _ h => h) hd (k ls H locs hl hP hD hS)
theorem wc_salen (C : fp_CC Y cc own) (hq : q < 2) (hd : decode cc pc = .ok (.arraylength, 1)) (k : WC Y (pc + 1) L (.int (Int32.ofNat (fp_len q)) :: S) ws n1 n2) : WC Y pc L (.ref (Y.2.1.2.1 (fp_NC + 2 + q)) :: S) ws n1 n2 :=
  fun ls H locs hl hP hD hS => va_tlen C.1 C.2.1 (C.2.2.2.2.2.1.2.1.1 q hq).2.2.2 (C.hS hS) rfl hd (k ls H locs hl hP hD hS)
theorem wc_ldcS (C : fp_CC Y cc own) (ho : own = RX4) (hd : decode cc pc = .ok (.ldc 48, 2)) (k : WC Y (pc + 2) L (.ref (Y.2.1.2.1 (fp_NC + 0)) :: S) ws n1 n2) : WC Y pc L S ws n1 n2 := by
  subst ho
  exact fun ls H locs hl hP hD hS => va_ldcS C.1 C.2.1 C.2.2.2.1 C.2.2.2.2.2.1.2.2.1 hd (k ls H locs hl hP hD hS)
end
def fp_Ji (l : Launch) (E : fp_E) (lo : Nat) (y : MethodName) (bytes : ByteArray) (maxL : Nat) (ret : Option FieldType) (fr : Nat) (av : List Value) (r : Int32) : Prop :=
  ∀ sz, lo ≤ sz → Met l y (Cond.code y bytes maxL ret :: fp_lw) { frames := fr, cells := 0, slots := 0, locals := 60 * fr } (fp_Pi E lo av [] sz) (va_Qi (fun x (_ : Unit) => x = r) (fun _ _ => True) (va_A [] sz)) 0 0 (va_A [] sz)
theorem fp_enterJ {l : Launch} {E : fp_E} {lo : Nat} {y : MethodName} {bytes : ByteArray} {maxL fr : Nat} {ty : FieldType} {av : List Value} {r : Int32} (hy : plainName y.cls = true) (hnr : narrow ty (.int r) = .int r) (L : List (Option Value)) (hlen : (lg_sl av).length ≤ maxL) (hL : ∀ q ∈ fp_al id 0 L, q ∈ lv_args 0 av)
    (body : ∀ Y : fp_Y, Y.2.1 = E → Y.1.2.1 = l → Y.2.2.2.2.2 = lo → Y.2.2.2.2.1 = maxL → Y.1.2.2.2.1 = { frames := fr, cells := 0, slots := 0, locals := 60 * fr } → fp_CC Y bytes y.cls →
      (∀ pc L x, x = r → decode bytes pc = .ok (.ireturn, 1) → WC Y pc L [.int x] [] 0 0) → WC Y 0 L [] [] 0 0) : fp_Ji l E lo y bytes maxL (some ty) fr av r := by
  intro sz hlo
  refine Met.ofW (cc := bytes) (maxL := maxL) (ret := some ty) hy rfl ?_
  intro p e s m args below meth c s₁ B hml hv
  obtain ⟨rfl, hsz, hP, hK, hD0⟩ := hv
  subst hsz
  have hts := atoms_spec (ws := Cond.code y bytes maxL (some ty) :: fp_lw) B.pre
  have hl := lv_entry av (n := maxL) hlen
  have hlocks := B.notSynchronized
  rw [lg_entry_eq]
  refine body ((p, l, e, (headSpec (Cond.code y bytes maxL (some ty) :: fp_lw) { frames := fr, cells := 0, slots := 0, locals := 60 * fr }).room, s, m, av.toArray, below, meth, c), E, va_A [] s.heap.size, MQ below (va_Qi (fun x (_ : Unit) => x = r) (fun _ _ => True) (va_A [] s.heap.size)) av.toArray s 0 0 (va_A [] s.heap.size), maxL, lo) rfl rfl rfl rfl rfl
    ⟨B.exec, B.bytes, hml, findClass_of_methodNamed B.named, ⟨_, hts⟩, hK, fun q h => Or.inr h, fun q hq h => by
      rcases h with ⟨k, e, h⟩ | h
      · simp at h
      · have hq : q < lo := hq
        omega, hlo⟩ ?_ _ _ _ ⟨hl.1, hl.2.1, fun q hq => hl.2.2 q (hL q hq)⟩ hP hD0.self va_S.rf
  intro pc L x hx hd ls H locs hl hP hD hS
  subst hx
  exact W.zret (v := x) B.exec B.bytes B.returns hnr (fun t ht hW => ⟨⟨x, (), rfl, rfl, trivial⟩, hS.F ht⟩) hS.2.2 hd hlocks
theorem wc_callT {Y : fp_Y} {cc : ByteArray} {own : String} {pc : Nat} {L : List (Option Value)} {S : List Value} {ws : va_W} {n1 n2 q : Nat} (C : fp_CC Y cc own) {y : MethodName} {bytes : ByteArray} {maxL i fr : Nat} {ret2 : Option FieldType} {r : Int32} (hq : q < 2) (hy : y.cls = RJ0)
    (hs : fp_site own i y bytes maxL ret2 0) (hinst : Cond.instanceMethod y ∈ fp_lw) (hsel : Cond.selects RJ0 y y ∈ fp_lw) (hM : fp_Ji Y.1.2.1 Y.2.1 Y.2.2.2.2.2 y bytes maxL ret2 fr [.ref (Y.2.1.2.1 (fp_NC + q))] r)
    (hd : decode cc pc = .ok (.invokevirtual i, 3)) (hW : (S.map fun v => v.category).sum ≤ 8) (hroom : fr + 1 ≤ Y.1.2.2.2.1.frames ∧ 8 + (maxL + 11) + 60 * fr ≤ Y.1.2.2.2.1.locals) (hc : n1 ≤ Y.1.2.2.2.1.cells) (hc2 : n2 ≤ Y.1.2.2.2.1.slots)
    (k : WC Y (pc + 3) L (.int r :: S) ws n1 n2) : WC Y pc L (.ref (Y.2.1.2.1 (fp_NC + q)) :: S) ws n1 n2 := by
  intro ls H locs hl hP hD hS
  have hgo := vk_recv C.2.2.2.2.2.1.2.1 hq (C.hS hS)
  obtain ⟨b, hb⟩ := C.2.2.2.2.1
  obtain ⟨h1, h2, h3, h4, h5⟩ := hs
  have hFc : ∀ q, va_A [] H.size q → Y.2.2.1 q := fun q h => by
    rcases h with ⟨k, e, h⟩ | h
    · simp at h
    · exact C.2.2.2.2.2.2.1 q (Nat.le_trans hS.1 h)
  have hMM := hM H.size (Nat.le_trans C.2.2.2.2.2.2.2.2 hS.1)
  have cw := cwV (R := Y.1.2.2.2.1) (own := own) (index := i) (C := RJ0) (bytes := bytes) (maxL := maxL) (ret := ret2) (rm := { frames := fr, cells := 0, slots := 0, locals := 60 * fr }) (mc := 0) (ms := 0) 0 hb (fp_goodW (own := own) (C := RJ0) (idx := i) (ret := ret2) (maxL := maxL) h1 [.methodLink own i y, .instanceMethod y, .selects RJ0 y y, .initialized RJ0] (by
    intro w hw
    simp only [List.mem_cons, List.not_mem_nil, or_false] at hw
    rcases hw with rfl | rfl | rfl | rfl
    · exact h2
    · exact hinst
    · exact hsel
    · rw [← hy]; exact h3)) rfl rfl rfl ⟨hy, h5⟩ hroom
  refine va_calli (va_runV (As := []) (rest := S) ⟨C.1, C.2.1, C.2.2.1, C.2.2.2.1, hb⟩ hMM cw ⟨fp_Pi_blind _ _ _ _ _, hgo, fun U hU hW2 => fp_preI C hS (fun k q h => by simp at h) ⟨fun i j p q h => by simp at h, fun k q h => by simp at h⟩ _ U hU hW2⟩ rfl rfl hl.1 rfl (lv_room hW) hd ⟨hc, hc2⟩) hS (fun q _ h => hFc q h) hFc (fun x u t H1 locs1 ht hvm hw hB hz1 hk1 hS1 => ?_)
  have hw : x = r := hw
  subst hw
  refine k ls H1 locs1 hl (hP.kept (fun k z hz => hk1 z.1 (hP k z hz).lt (fun h => ?_))) hD hS1
  have := (hP k z hz).lt
  rcases h with ⟨k2, e, h⟩ | h
  · simp at h
  · omega
/-- String.coder(), String.length() of the constants -/
theorem ji_coder {l : Launch} {E : fp_E} {lo q : Nat} (hq : q < 2) : fp_Ji l E lo yJ0_coder_7d493 cJ0_coder_7d493 1 (some .byte) 1 [.ref (E.2.1 (fp_NC + q))] 0 := by
  refine fp_enterJ rfl rfl [some (.ref (E.2.1 (fp_NC + q)))] (Nat.le_of_ble_eq_true rfl) (fun q hq => hq) (fun Y hE hl hlo hn hR C hret => ?_)
  subst hE
  refine wc_gets C j_J0_38 dJ0_coder_7d493_0 ?_
  refine wc_if_eq C (tgt := 13) dJ0_coder_7d493_3 (by decide) (by decide) ?_
  refine wc_aload_n C (i := 0) dJ0_coder_7d493_6 rfl rfl ?_
  refine wc_scod C hq j_J0_15 dJ0_coder_7d493_7 ?_
  refine wc_goto C (tgt := 14) dJ0_coder_7d493_10 (by decide) ?_
  exact hret _ _ _ rfl dJ0_coder_7d493_14
theorem ji_length {l : Launch} {E : fp_E} {lo : Nat} : fp_Ji l E lo yJ0_length_8abf5 cJ0_length_8abf5 1 (some .int) 2 [.ref (E.2.1 (fp_NC + 0))] 9 := by
  refine fp_enterJ rfl rfl [some (.ref (E.2.1 (fp_NC + 0)))] (Nat.le_of_ble_eq_true rfl) (fun q hq => hq) (fun Y hE hl hlo hn hR C hret => ?_)
  subst hE hl hlo
  refine wc_aload_n C (i := 0) dJ0_length_8abf5_0 rfl rfl ?_
  refine wc_sval C (q := 0) (by decide) j_J0_9 dJ0_length_8abf5_1 ?_
  refine wc_salen C (by decide) dJ0_length_8abf5_4 ?_
  refine wc_aload_n C (i := 0) dJ0_length_8abf5_5 rfl rfl ?_
  refine wc_callT C (q := 0) (by decide) rfl s_J0_335 i_J0_coder_7d493 e_J0_coder_7d493 (ji_coder (by decide)) dJ0_length_8abf5_6 (Nat.le_of_ble_eq_true rfl) (by rw [hR]; decide) (by rw [hR]; decide) (by rw [hR]; decide) ?_
  refine wc_ishr C dJ0_length_8abf5_9 ?_
  exact hret _ _ _ (by decide) dJ0_length_8abf5_10
/-- Arrays.fill(row, v) -/
theorem ii_fill {l : Launch} {E : fp_E} {lo a n : Nat} {v : Int32} {f : Nat → Int32} (hn9 : n < 2 ^ 31) : fp_I l E lo yJ7_fill_53178 cJ7_fill_53178 4 1 0 0 [.ref a, .int v] [(a, .inl (E.2.2 .int, n, .inl f))] (fun w1 => ∃ h : Nat → Int32, (∀ j, j < n → h j = v) ∧ w1 = [(a, .inl (E.2.2 .int, n, .inl h))]) := by
  refine fp_enterI rfl [some (.ref a), some (.int v), none, none] (Nat.le_of_ble_eq_true rfl) (fun q hq => hq) (fun Y hE hl hlo hn hR hin C hret => ?_)
  subst hE
  have loop : ∀ (r k : Nat) (h : Nat → Int32), k + r = n → (∀ j, j < k → h j = v) → WC Y 5 [some (.ref a), some (.int v), some (.int (nI k)), some (.int (Int32.ofNat n))] [] [(a, .inl (Y.2.1.2.2 .int, n, .inl h))] 0 0 := by
    intro r
    induction r with
    | zero =>
      intro k h hk hh
      refine wc_iload_n C (i := 2) dJ7_fill_53178_5 rfl rfl ?_
      refine wc_iload_n C (i := 3) dJ7_fill_53178_6 rfl rfl ?_
      refine wc_icmp_ge C (tgt := 20) dJ7_fill_53178_7 (by decide) (fun c => ?_) (fun c => ?_)
      · exact hret _ _ _ dJ7_fill_53178_20 ⟨h, fun j hj => hh j (by omega), rfl⟩
      · exact absurd (nI_le (a := n) (b := k) (by omega) (by omega)) c
    | succ r ih =>
      intro k h hk hh
      refine wc_iload_n C (i := 2) dJ7_fill_53178_5 rfl rfl ?_
      refine wc_iload_n C (i := 3) dJ7_fill_53178_6 rfl rfl ?_
      refine wc_icmp_ge C (tgt := 20) dJ7_fill_53178_7 (by decide) (fun c => ?_) (fun c => ?_)
      · exact absurd c (nI_ge (a := k) (b := n) (by omega) (by omega))
      · refine wc_aload_n C (i := 0) dJ7_fill_53178_10 rfl rfl ?_
        refine wc_iload_n C (i := 2) dJ7_fill_53178_11 rfl rfl ?_
        refine wc_iload_n C (i := 1) dJ7_fill_53178_12 rfl rfl ?_
        refine wc_iast C (p := 0) rfl (vp_in_nI (by omega) (by omega)) dJ7_fill_53178_13 ?_
        refine wc_iinc C (i := 2) dJ7_fill_53178_14 rfl (fp_inc1 _) (by rw [hn]; decide) rfl rfl ?_
        refine wc_goto C (tgt := 5) dJ7_fill_53178_17 (by decide) ?_
        have := ih (k + 1) (upd h (nI k).toNatClampNeg v) (by omega) (fun j hj => by
          rw [nI_clamp (by omega)]
          by_cases z : j = k
          · simp [upd, z]
          · simp only [upd, z, if_false]
            exact hh j (by omega))
        rw [nI_succ] at this
        exact this
  refine wc_iconst C (v := 0) dJ7_fill_53178_0 (by decide) ?_
  refine wc_istore_n C (i := 2) dJ7_fill_53178_1 rfl (by rw [hn]; decide) rfl rfl ?_
  refine wc_aload_n C (i := 0) dJ7_fill_53178_2 rfl rfl ?_
  refine wc_alen C (p := 0) rfl dJ7_fill_53178_3 ?_
  refine wc_istore_n C (i := 3) dJ7_fill_53178_4 rfl (by rw [hn]; decide) rfl rfl ?_
  exact loop n 0 f (by omega) (fun j hj => absurd hj (Nat.not_lt_zero j))
