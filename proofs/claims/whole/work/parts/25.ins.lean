/-! ===== one instruction, one law ===== -/
theorem fp_al_mem {ad : Nat → Nat} : ∀ (L : List (Option Value)) (n i : Nat) (w : Value), (i, w) ∈ fp_al ad n L ↔ ∃ j v, L[j]? = some (some v) ∧ i = n + j ∧ w = fp_rv ad v
  | [], n, i, w => by simp [fp_al]
  | none :: L, n, i, w => by
    rw [fp_al, fp_al_mem L (n + 1) i w]
    constructor
    · rintro ⟨j, v, h1, h2, h3⟩
      exact ⟨j + 1, v, h1, by omega, h3⟩
    · rintro ⟨j, v, h1, h2, h3⟩
      cases j with
      | zero => simp at h1
      | succ j => exact ⟨j, v, h1, by omega, h3⟩
  | some u :: L, n, i, w => by
    rw [fp_al, List.mem_cons, fp_al_mem L (n + 1) i w]
    constructor
    · rintro (h | ⟨j, v, h1, h2, h3⟩)
      · cases h
        exact ⟨0, u, rfl, rfl, rfl⟩
      · exact ⟨j + 1, v, h1, by omega, h3⟩
    · rintro ⟨j, v, h1, h2, h3⟩
      cases j with
      | zero =>
        cases h1
        exact Or.inl (by rw [h2, h3]; rfl)
      | succ j => exact Or.inr ⟨j, v, h1, by omega, h3⟩
theorem fp_at {ad : Nat → Nat} {ls : Array Slot} {n i : Nat} {L : List (Option Value)} {v : Value} (h : lv_has ls n (fp_al ad 0 L)) (hL : L[i]? = some (some v)) : ls[i]? = some (.val (fp_rv ad v)) :=
  h.2.2 (i, fp_rv ad v) ((fp_al_mem L 0 i _).mpr ⟨i, v, hL, by omega, rfl⟩)
/-- no long stands just ahead -/
def fp_c1 (L : List (Option Value)) (i : Nat) : Bool := match i with
  | 0 => true
  | j + 1 => match L[j]? with
    | some (some v) => v.category == 1
    | _ => true
theorem fp_rv_cat (ad : Nat → Nat) (v : Value) : (fp_rv ad v).category = v.category := by cases v <;> rfl
theorem fp_st {ad : Nat → Nat} {ls : Array Slot} {n i : Nat} {L : List (Option Value)} {v : Value} (h1 : fp_c1 L i = true) (h : lv_has ls n ((i, fp_rv ad v) :: (fp_al ad 0 L).filter (fun q => !(q.1 == i) && !(q.1 + 1 == i && q.2.category == 2)))) : lv_has ls n (fp_al ad 0 (L.set i (some v))) := by
  refine ⟨h.1, h.2.1, fun q hq => h.2.2 q ?_⟩
  obtain ⟨a, w⟩ := q
  obtain ⟨j, u, e1, e2, e3⟩ := (fp_al_mem _ 0 a w).mp hq
  have e2 : a = j := by omega
  subst e2
  by_cases hj : a = i
  · subst hj
    have hlt : a < L.length := by
      have := (List.getElem?_eq_some_iff.mp e1).1
      simpa using this
    rw [List.getElem?_set_self hlt] at e1
    cases e1
    rw [e3]
    exact List.mem_cons_self
  · rw [List.getElem?_set_ne (Ne.symm hj)] at e1
    refine List.mem_cons_of_mem _ (List.mem_filter.mpr ⟨(fp_al_mem L 0 a w).mpr ⟨a, u, e1, by omega, e3⟩, ?_⟩)
    have hb : (a + 1 == i && w.category == 2) = false := by
      by_cases hi : a + 1 = i
      · subst hi
        simp only [fp_c1, e1] at h1
        have h2 : u.category = 1 := by simpa using h1
        rw [e3, fp_rv_cat, h2]
        simp
      · simp [hi]
    simp [hj, hb]
theorem wa_iload_n {Z : fp_Z} {cc : ByteArray} {own : String} {ret : Option FieldType} {pc : Nat} {L : List (Option Value)} {S : List Value} {g : fp_G} (C : fp_C Z cc own ret) {n : Fin 4} {i : Nat} {x : Int32} (hd : decode cc pc = .ok (.iload_n n, 1)) (hi : (n : Nat) = i) (hL : L[i]? = some (some (.int x))) (k : WA Z (pc + 1) L (.int x :: S) g) : WA Z pc L S g := fun ls H locs hl hP hS => lv_iload_n C.exec C.bytes hd hi (fp_at hl hL) (k ls H locs hl hP hS)
theorem wa_iload {Z : fp_Z} {cc : ByteArray} {own : String} {ret : Option FieldType} {pc : Nat} {L : List (Option Value)} {S : List Value} {g : fp_G} (C : fp_C Z cc own ret) {i : Nat} {x : Int32} (hd : decode cc pc = .ok (.iload i, 2)) (hL : L[i]? = some (some (.int x))) (k : WA Z (pc + 2) L (.int x :: S) g) : WA Z pc L S g := fun ls H locs hl hP hS => lv_iload C.exec C.bytes hd (fp_at hl hL) (k ls H locs hl hP hS)
theorem wa_lload_n {Z : fp_Z} {cc : ByteArray} {own : String} {ret : Option FieldType} {pc : Nat} {L : List (Option Value)} {S : List Value} {g : fp_G} (C : fp_C Z cc own ret) {n : Fin 4} {i : Nat} {x : Int64} (hd : decode cc pc = .ok (.lload_n n, 1)) (hi : (n : Nat) = i) (hL : L[i]? = some (some (.long x))) (k : WA Z (pc + 1) L (.long x :: S) g) : WA Z pc L S g := fun ls H locs hl hP hS => lv_lload_n C.exec C.bytes hd hi (fp_at hl hL) (k ls H locs hl hP hS)
theorem wa_lload {Z : fp_Z} {cc : ByteArray} {own : String} {ret : Option FieldType} {pc : Nat} {L : List (Option Value)} {S : List Value} {g : fp_G} (C : fp_C Z cc own ret) {i : Nat} {x : Int64} (hd : decode cc pc = .ok (.lload i, 2)) (hL : L[i]? = some (some (.long x))) (k : WA Z (pc + 2) L (.long x :: S) g) : WA Z pc L S g := fun ls H locs hl hP hS => lv_lload C.exec C.bytes hd (fp_at hl hL) (k ls H locs hl hP hS)
theorem wa_aload_n {Z : fp_Z} {cc : ByteArray} {own : String} {ret : Option FieldType} {pc : Nat} {L : List (Option Value)} {S : List Value} {g : fp_G} (C : fp_C Z cc own ret) {n : Fin 4} {i : Nat} {x : Nat} (hd : decode cc pc = .ok (.aload_n n, 1)) (hi : (n : Nat) = i) (hL : L[i]? = some (some (.ref x))) (k : WA Z (pc + 1) L (.ref x :: S) g) : WA Z pc L S g := fun ls H locs hl hP hS => lv_aload_n C.exec C.bytes hd hi (fp_at hl hL) (k ls H locs hl hP hS)
theorem wa_aload {Z : fp_Z} {cc : ByteArray} {own : String} {ret : Option FieldType} {pc : Nat} {L : List (Option Value)} {S : List Value} {g : fp_G} (C : fp_C Z cc own ret) {i : Nat} {x : Nat} (hd : decode cc pc = .ok (.aload i, 2)) (hL : L[i]? = some (some (.ref x))) (k : WA Z (pc + 2) L (.ref x :: S) g) : WA Z pc L S g := fun ls H locs hl hP hS => lv_aload C.exec C.bytes hd (fp_at hl hL) (k ls H locs hl hP hS)
theorem wa_istore_n {Z : fp_Z} {cc : ByteArray} {own : String} {ret : Option FieldType} {pc : Nat} {L : List (Option Value)} {S : List Value} {g : fp_G} (C : fp_C Z cc own ret) {n : Fin 4} {i : Nat} {x : Int32} {L2 : List (Option Value)} (hd : decode cc pc = .ok (.istore_n n, 1)) (hi : (n : Nat) = i) (hn : i < Z.2.2.2.2.1) (h1 : fp_c1 L i = true) (hL : L.set i (some (.int x)) = L2) (k : WA Z (pc + 1) L2 S g) : WA Z pc L (.int x :: S) g := fun ls H locs hl hP hS => lv_istore_n C.exec C.bytes hd hi hl hn rfl (fun ls2 h2 => k ls2 H locs (hL ▸ fp_st (v := .int x) h1 h2) hP hS)
theorem wa_istore {Z : fp_Z} {cc : ByteArray} {own : String} {ret : Option FieldType} {pc : Nat} {L : List (Option Value)} {S : List Value} {g : fp_G} (C : fp_C Z cc own ret) {i : Nat} {x : Int32} {L2 : List (Option Value)} (hd : decode cc pc = .ok (.istore i, 2)) (hn : i < Z.2.2.2.2.1) (h1 : fp_c1 L i = true) (hL : L.set i (some (.int x)) = L2) (k : WA Z (pc + 2) L2 S g) : WA Z pc L (.int x :: S) g := fun ls H locs hl hP hS => lv_istore C.exec C.bytes hd hl hn rfl (fun ls2 h2 => k ls2 H locs (hL ▸ fp_st (v := .int x) h1 h2) hP hS)
theorem wa_iinc {Z : fp_Z} {cc : ByteArray} {own : String} {ret : Option FieldType} {pc : Nat} {L : List (Option Value)} {S : List Value} {g : fp_G} (C : fp_C Z cc own ret) {i : Nat} {n : Int} {x v : Int32} {L2 : List (Option Value)} (hd : decode cc pc = .ok (.iinc i n, 3)) (hx : L[i]? = some (some (.int x))) (hv : x + Int32.ofInt n = v) (hn : i < Z.2.2.2.2.1) (h1 : fp_c1 L i = true) (hL : L.set i (some (.int v)) = L2) (k : WA Z (pc + 3) L2 S g) : WA Z pc L S g := by
  intro ls H locs hl hP hS
  obtain ⟨kk, hk⟩ := List.getElem?_of_mem ((fp_al_mem (ad := Z.2.1.2.1) L 0 i (.int x)).mpr ⟨i, .int x, hx, by omega, rfl⟩)
  exact lv_iinc C.exec C.bytes hd hl hk hv hn rfl (fun ls2 h2 => k ls2 H locs (hL ▸ fp_st (v := .int v) h1 h2) hP hS)
theorem wa_iconst {Z : fp_Z} {cc : ByteArray} {own : String} {ret : Option FieldType} {pc : Nat} {L : List (Option Value)} {S : List Value} {g : fp_G} (C : fp_C Z cc own ret) {n : Int} {v : Int32} (hd : decode cc pc = .ok (.iconst n, 1)) (hv : Int32.ofInt n = v) (k : WA Z (pc + 1) L (.int v :: S) g) : WA Z pc L S g := fun ls H locs hl hP hS => lv_iconst C.exec C.bytes hd hv (k ls H locs hl hP hS)
theorem wa_bipush {Z : fp_Z} {cc : ByteArray} {own : String} {ret : Option FieldType} {pc : Nat} {L : List (Option Value)} {S : List Value} {g : fp_G} (C : fp_C Z cc own ret) {n : Int} {v : Int32} (hd : decode cc pc = .ok (.bipush n, 2)) (hv : (Int8.ofInt n).toInt32 = v) (k : WA Z (pc + 2) L (.int v :: S) g) : WA Z pc L S g := fun ls H locs hl hP hS => lv_bipush C.exec C.bytes hd hv (k ls H locs hl hP hS)
theorem wa_sipush {Z : fp_Z} {cc : ByteArray} {own : String} {ret : Option FieldType} {pc : Nat} {L : List (Option Value)} {S : List Value} {g : fp_G} (C : fp_C Z cc own ret) {n : Int} {v : Int32} (hd : decode cc pc = .ok (.sipush n, 3)) (hv : (Int16.ofInt n).toInt32 = v) (k : WA Z (pc + 3) L (.int v :: S) g) : WA Z pc L S g := fun ls H locs hl hP hS => lv_sipush C.exec C.bytes hd hv (k ls H locs hl hP hS)
theorem wa_lconst {Z : fp_Z} {cc : ByteArray} {own : String} {ret : Option FieldType} {pc : Nat} {L : List (Option Value)} {S : List Value} {g : fp_G} (C : fp_C Z cc own ret) {n : Fin 2} {v : Int64} (hd : decode cc pc = .ok (.lconst n, 1)) (hv : Int64.ofNat (n : Nat) = v) (k : WA Z (pc + 1) L (.long v :: S) g) : WA Z pc L S g := fun ls H locs hl hP hS => lv_lconst C.exec C.bytes hd hv (k ls H locs hl hP hS)
theorem wa_ldc {Z : fp_Z} {cc : ByteArray} {own : String} {ret : Option FieldType} {pc : Nat} {L : List (Option Value)} {S : List Value} {g : fp_G} (C : fp_C Z cc own ret) {i : Nat} {v : Int32} (hw : Cond.constant own i v ∈ fp_lw) (hd : decode cc pc = .ok (.ldc i, 2)) (k : WA Z (pc + 2) L (.int v :: S) g) : WA Z pc L S g := fun ls H locs hl hP hS => lv_ldc C.exec C.bytes C.2.2.2.1 (C.word hw) hd (k ls H locs hl hP hS)
theorem wa_ldcw {Z : fp_Z} {cc : ByteArray} {own : String} {ret : Option FieldType} {pc : Nat} {L : List (Option Value)} {S : List Value} {g : fp_G} (C : fp_C Z cc own ret) {i : Nat} {v : Int32} (hw : Cond.constant own i v ∈ fp_lw) (hd : decode cc pc = .ok (.ldc_w i, 3)) (k : WA Z (pc + 3) L (.int v :: S) g) : WA Z pc L S g := fun ls H locs hl hP hS => lv_ldcw C.exec C.bytes C.2.2.2.1 (C.word hw) hd (k ls H locs hl hP hS)
theorem wa_ldc2 {Z : fp_Z} {cc : ByteArray} {own : String} {ret : Option FieldType} {pc : Nat} {L : List (Option Value)} {S : List Value} {g : fp_G} (C : fp_C Z cc own ret) {i : Nat} {v : Int64} (hw : Cond.constantLong own i v ∈ fp_lw) (hd : decode cc pc = .ok (.ldc2_w i, 3)) (k : WA Z (pc + 3) L (.long v :: S) g) : WA Z pc L S g := fun ls H locs hl hP hS => lv_ldc2 C.exec C.bytes C.2.2.2.1 (C.word hw) hd (k ls H locs hl hP hS)
theorem wa_iadd {Z : fp_Z} {cc : ByteArray} {own : String} {ret : Option FieldType} {pc : Nat} {L : List (Option Value)} {S : List Value} {g : fp_G} (C : fp_C Z cc own ret) {x y : Int32} (hd : decode cc pc = .ok (.iadd, 1)) (k : WA Z (pc + 1) L (.int (x + y) :: S) g) : WA Z pc L (.int y :: .int x :: S) g := fun ls H locs hl hP hS => lv_iadd C.exec C.bytes hd (k ls H locs hl hP hS)
theorem wa_isub {Z : fp_Z} {cc : ByteArray} {own : String} {ret : Option FieldType} {pc : Nat} {L : List (Option Value)} {S : List Value} {g : fp_G} (C : fp_C Z cc own ret) {x y : Int32} (hd : decode cc pc = .ok (.isub, 1)) (k : WA Z (pc + 1) L (.int (x - y) :: S) g) : WA Z pc L (.int y :: .int x :: S) g := fun ls H locs hl hP hS => lv_isub C.exec C.bytes hd (k ls H locs hl hP hS)
theorem wa_imul {Z : fp_Z} {cc : ByteArray} {own : String} {ret : Option FieldType} {pc : Nat} {L : List (Option Value)} {S : List Value} {g : fp_G} (C : fp_C Z cc own ret) {x y : Int32} (hd : decode cc pc = .ok (.imul, 1)) (k : WA Z (pc + 1) L (.int (x * y) :: S) g) : WA Z pc L (.int y :: .int x :: S) g := fun ls H locs hl hP hS => lv_imul C.exec C.bytes hd (k ls H locs hl hP hS)
theorem wa_iand {Z : fp_Z} {cc : ByteArray} {own : String} {ret : Option FieldType} {pc : Nat} {L : List (Option Value)} {S : List Value} {g : fp_G} (C : fp_C Z cc own ret) {x y : Int32} (hd : decode cc pc = .ok (.iand, 1)) (k : WA Z (pc + 1) L (.int (x &&& y) :: S) g) : WA Z pc L (.int y :: .int x :: S) g := fun ls H locs hl hP hS => lv_iand C.exec C.bytes hd (k ls H locs hl hP hS)
theorem wa_ior {Z : fp_Z} {cc : ByteArray} {own : String} {ret : Option FieldType} {pc : Nat} {L : List (Option Value)} {S : List Value} {g : fp_G} (C : fp_C Z cc own ret) {x y : Int32} (hd : decode cc pc = .ok (.ior, 1)) (k : WA Z (pc + 1) L (.int (x ||| y) :: S) g) : WA Z pc L (.int y :: .int x :: S) g := fun ls H locs hl hP hS => lv_ior C.exec C.bytes hd (k ls H locs hl hP hS)
theorem wa_ixor {Z : fp_Z} {cc : ByteArray} {own : String} {ret : Option FieldType} {pc : Nat} {L : List (Option Value)} {S : List Value} {g : fp_G} (C : fp_C Z cc own ret) {x y : Int32} (hd : decode cc pc = .ok (.ixor, 1)) (k : WA Z (pc + 1) L (.int (x ^^^ y) :: S) g) : WA Z pc L (.int y :: .int x :: S) g := fun ls H locs hl hP hS => lv_ixor C.exec C.bytes hd (k ls H locs hl hP hS)
theorem wa_ishl {Z : fp_Z} {cc : ByteArray} {own : String} {ret : Option FieldType} {pc : Nat} {L : List (Option Value)} {S : List Value} {g : fp_G} (C : fp_C Z cc own ret) {x y : Int32} (hd : decode cc pc = .ok (.ishl, 1)) (k : WA Z (pc + 1) L (.int (x <<< (y &&& 31)) :: S) g) : WA Z pc L (.int y :: .int x :: S) g := fun ls H locs hl hP hS => lv_ishl C.exec C.bytes hd (k ls H locs hl hP hS)
theorem wa_ishr {Z : fp_Z} {cc : ByteArray} {own : String} {ret : Option FieldType} {pc : Nat} {L : List (Option Value)} {S : List Value} {g : fp_G} (C : fp_C Z cc own ret) {x y : Int32} (hd : decode cc pc = .ok (.ishr, 1)) (k : WA Z (pc + 1) L (.int (x >>> (y &&& 31)) :: S) g) : WA Z pc L (.int y :: .int x :: S) g := fun ls H locs hl hP hS => lv_ishr C.exec C.bytes hd (k ls H locs hl hP hS)
theorem wa_land {Z : fp_Z} {cc : ByteArray} {own : String} {ret : Option FieldType} {pc : Nat} {L : List (Option Value)} {S : List Value} {g : fp_G} (C : fp_C Z cc own ret) {x y : Int64} (hd : decode cc pc = .ok (.land, 1)) (k : WA Z (pc + 1) L (.long (x &&& y) :: S) g) : WA Z pc L (.long y :: .long x :: S) g := fun ls H locs hl hP hS => lv_land C.exec C.bytes hd (k ls H locs hl hP hS)
theorem wa_lor {Z : fp_Z} {cc : ByteArray} {own : String} {ret : Option FieldType} {pc : Nat} {L : List (Option Value)} {S : List Value} {g : fp_G} (C : fp_C Z cc own ret) {x y : Int64} (hd : decode cc pc = .ok (.lor, 1)) (k : WA Z (pc + 1) L (.long (x ||| y) :: S) g) : WA Z pc L (.long y :: .long x :: S) g := fun ls H locs hl hP hS => lv_lor C.exec C.bytes hd (k ls H locs hl hP hS)
theorem wa_lshl {Z : fp_Z} {cc : ByteArray} {own : String} {ret : Option FieldType} {pc : Nat} {L : List (Option Value)} {S : List Value} {g : fp_G} (C : fp_C Z cc own ret) {x : Int64} {y : Int32} (hd : decode cc pc = .ok (.lshl, 1)) (k : WA Z (pc + 1) L (.long (x <<< (y.toInt64 &&& 63)) :: S) g) : WA Z pc L (.int y :: .long x :: S) g := fun ls H locs hl hP hS => lv_lshl C.exec C.bytes hd rfl (k ls H locs hl hP hS)
theorem wa_lshr {Z : fp_Z} {cc : ByteArray} {own : String} {ret : Option FieldType} {pc : Nat} {L : List (Option Value)} {S : List Value} {g : fp_G} (C : fp_C Z cc own ret) {x : Int64} {y : Int32} (hd : decode cc pc = .ok (.lshr, 1)) (k : WA Z (pc + 1) L (.long (x >>> (y.toInt64 &&& 63)) :: S) g) : WA Z pc L (.int y :: .long x :: S) g := fun ls H locs hl hP hS => lv_lshr C.exec C.bytes hd rfl (k ls H locs hl hP hS)
theorem wa_ineg {Z : fp_Z} {cc : ByteArray} {own : String} {ret : Option FieldType} {pc : Nat} {L : List (Option Value)} {S : List Value} {g : fp_G} (C : fp_C Z cc own ret) {x : Int32} (hd : decode cc pc = .ok (.ineg, 1)) (k : WA Z (pc + 1) L (.int (-x) :: S) g) : WA Z pc L (.int x :: S) g := fun ls H locs hl hP hS => lv_ineg C.exec C.bytes hd (k ls H locs hl hP hS)
theorem wa_i2l {Z : fp_Z} {cc : ByteArray} {own : String} {ret : Option FieldType} {pc : Nat} {L : List (Option Value)} {S : List Value} {g : fp_G} (C : fp_C Z cc own ret) {x : Int32} (hd : decode cc pc = .ok (.i2l, 1)) (k : WA Z (pc + 1) L (.long x.toInt64 :: S) g) : WA Z pc L (.int x :: S) g := fun ls H locs hl hP hS => lv_i2l C.exec C.bytes hd rfl (k ls H locs hl hP hS)
theorem wa_l2i {Z : fp_Z} {cc : ByteArray} {own : String} {ret : Option FieldType} {pc : Nat} {L : List (Option Value)} {S : List Value} {g : fp_G} (C : fp_C Z cc own ret) {x : Int64} (hd : decode cc pc = .ok (.l2i, 1)) (k : WA Z (pc + 1) L (.int x.toInt32 :: S) g) : WA Z pc L (.long x :: S) g := fun ls H locs hl hP hS => lv_l2i C.exec C.bytes hd rfl (k ls H locs hl hP hS)
theorem wa_i2b {Z : fp_Z} {cc : ByteArray} {own : String} {ret : Option FieldType} {pc : Nat} {L : List (Option Value)} {S : List Value} {g : fp_G} (C : fp_C Z cc own ret) {x : Int32} (hd : decode cc pc = .ok (.i2b, 1)) (k : WA Z (pc + 1) L (.int x.toInt8.toInt32 :: S) g) : WA Z pc L (.int x :: S) g := fun ls H locs hl hP hS => lv_i2b C.exec C.bytes hd rfl (k ls H locs hl hP hS)
theorem wa_i2c {Z : fp_Z} {cc : ByteArray} {own : String} {ret : Option FieldType} {pc : Nat} {L : List (Option Value)} {S : List Value} {g : fp_G} (C : fp_C Z cc own ret) {x : Int32} (hd : decode cc pc = .ok (.i2c, 1)) (k : WA Z (pc + 1) L (.int (x.toUInt32 % 65536).toInt32 :: S) g) : WA Z pc L (.int x :: S) g := fun ls H locs hl hP hS => lv_i2c C.exec C.bytes hd rfl (k ls H locs hl hP hS)
theorem wa_lcmp {Z : fp_Z} {cc : ByteArray} {own : String} {ret : Option FieldType} {pc : Nat} {L : List (Option Value)} {S : List Value} {g : fp_G} (C : fp_C Z cc own ret) {x y : Int64} (hd : decode cc pc = .ok (.lcmp, 1)) (k : WA Z (pc + 1) L (.int (lg_cmp x y) :: S) g) : WA Z pc L (.long y :: .long x :: S) g := fun ls H locs hl hP hS => W.lcmp C.exec C.bytes hd (k ls H locs hl hP hS)
theorem wa_dup {Z : fp_Z} {cc : ByteArray} {own : String} {ret : Option FieldType} {pc : Nat} {L : List (Option Value)} {S : List Value} {g : fp_G} (C : fp_C Z cc own ret) {v : Value} (hd : decode cc pc = .ok (.dup, 1)) (hv : v.category = 1) (k : WA Z (pc + 1) L (v :: v :: S) g) : WA Z pc L (v :: S) g := fun ls H locs hl hP hS => lv_dup C.exec C.bytes hd (by rw [fp_rv_cat]; exact hv) (k ls H locs hl hP hS)
theorem wa_dup2 {Z : fp_Z} {cc : ByteArray} {own : String} {ret : Option FieldType} {pc : Nat} {L : List (Option Value)} {S : List Value} {g : fp_G} (C : fp_C Z cc own ret) {v w : Value} (hd : decode cc pc = .ok (.dup2, 1)) (hv : v.category = 1) (hw : w.category = 1) (k : WA Z (pc + 1) L (v :: w :: v :: w :: S) g) : WA Z pc L (v :: w :: S) g := fun ls H locs hl hP hS => lv_dup2_11 C.exec C.bytes hd (by rw [fp_rv_cat]; exact hv) (by rw [fp_rv_cat]; exact hw) (k ls H locs hl hP hS)
theorem wa_pop {Z : fp_Z} {cc : ByteArray} {own : String} {ret : Option FieldType} {pc : Nat} {L : List (Option Value)} {S : List Value} {g : fp_G} (C : fp_C Z cc own ret) {v : Value} (hd : decode cc pc = .ok (.pop, 1)) (hv : v.category = 1) (k : WA Z (pc + 1) L S g) : WA Z pc L (v :: S) g := fun ls H locs hl hP hS => lv_pop C.exec C.bytes hd (by rw [fp_rv_cat]; exact hv) (k ls H locs hl hP hS)
theorem wa_goto {Z : fp_Z} {cc : ByteArray} {own : String} {ret : Option FieldType} {pc : Nat} {L : List (Option Value)} {S : List Value} {g : fp_G} (C : fp_C Z cc own ret) {off : Int} {tgt : Nat} (hd : decode cc pc = .ok (.goto off, 3)) (ht : (pc : Int) + off = (tgt : Int)) (k : WA Z tgt L S g) : WA Z pc L S g := fun ls H locs hl hP hS => lv_goto C.exec C.bytes hd ht (k ls H locs hl hP hS)
theorem wa_idiv {Z : fp_Z} {cc : ByteArray} {own : String} {ret : Option FieldType} {pc : Nat} {L : List (Option Value)} {S : List Value} {g : fp_G} (C : fp_C Z cc own ret) {x y : Int32} {P : Prop} (hd : decode cc pc = .ok (.idiv, 1)) (h : fp_dv y P) (k : P → WA Z (pc + 1) L (.int (x / y) :: S) g) : WA Z pc L (.int y :: .int x :: S) g := fun ls H locs hl hP hS => lv_idiv C.exec C.bytes hd h.1 (k h.2 ls H locs hl hP hS)
theorem wa_irem {Z : fp_Z} {cc : ByteArray} {own : String} {ret : Option FieldType} {pc : Nat} {L : List (Option Value)} {S : List Value} {g : fp_G} (C : fp_C Z cc own ret) {x y : Int32} {P : Prop} (hd : decode cc pc = .ok (.irem, 1)) (h : fp_dv y P) (k : P → WA Z (pc + 1) L (.int (x - x / y * y) :: S) g) : WA Z pc L (.int y :: .int x :: S) g := fun ls H locs hl hP hS => lv_irem C.exec C.bytes hd h.1 (k h.2 ls H locs hl hP hS)
theorem wa_if_eq {Z : fp_Z} {cc : ByteArray} {own : String} {ret : Option FieldType} {pc : Nat} {L : List (Option Value)} {S : List Value} {g : fp_G} (C : fp_C Z cc own ret) {x : Int32} {off : Int} {tgt : Nat} {A B : Prop} (hd : decode cc pc = .ok (.ifCond .eq off, 3)) (ht : (pc : Int) + off = (tgt : Int)) (h : if x = 0 then A else B) (k1 : A → WA Z tgt L S g) (k2 : B → WA Z (pc + 3) L S g) : WA Z pc L (.int x :: S) g := fun ls H locs hl hP hS => lv_if_eq C.exec C.bytes hd ht (fun c => k1 (Eq.mp (if_pos c) h) ls H locs hl hP hS) (fun c => k2 (Eq.mp (if_neg c) h) ls H locs hl hP hS)
theorem wa_icmp_eq {Z : fp_Z} {cc : ByteArray} {own : String} {ret : Option FieldType} {pc : Nat} {L : List (Option Value)} {S : List Value} {g : fp_G} (C : fp_C Z cc own ret) {x y : Int32} {off : Int} {tgt : Nat} {A B : Prop} (hd : decode cc pc = .ok (.if_icmp .eq off, 3)) (ht : (pc : Int) + off = (tgt : Int)) (h : if x = y then A else B) (k1 : A → WA Z tgt L S g) (k2 : B → WA Z (pc + 3) L S g) : WA Z pc L (.int y :: .int x :: S) g := fun ls H locs hl hP hS => lv_icmp_eq C.exec C.bytes hd ht (fun c => k1 (Eq.mp (if_pos c) h) ls H locs hl hP hS) (fun c => k2 (Eq.mp (if_neg c) h) ls H locs hl hP hS)
theorem wa_if_ne {Z : fp_Z} {cc : ByteArray} {own : String} {ret : Option FieldType} {pc : Nat} {L : List (Option Value)} {S : List Value} {g : fp_G} (C : fp_C Z cc own ret) {x : Int32} {off : Int} {tgt : Nat} {A B : Prop} (hd : decode cc pc = .ok (.ifCond .ne off, 3)) (ht : (pc : Int) + off = (tgt : Int)) (h : if x = 0 then A else B) (k1 : A → WA Z (pc + 3) L S g) (k2 : B → WA Z tgt L S g) : WA Z pc L (.int x :: S) g := fun ls H locs hl hP hS => lv_if_ne C.exec C.bytes hd ht (fun c => k2 (Eq.mp (if_neg c) h) ls H locs hl hP hS) (fun c => k1 (Eq.mp (if_pos c) h) ls H locs hl hP hS)
theorem wa_icmp_ne {Z : fp_Z} {cc : ByteArray} {own : String} {ret : Option FieldType} {pc : Nat} {L : List (Option Value)} {S : List Value} {g : fp_G} (C : fp_C Z cc own ret) {x y : Int32} {off : Int} {tgt : Nat} {A B : Prop} (hd : decode cc pc = .ok (.if_icmp .ne off, 3)) (ht : (pc : Int) + off = (tgt : Int)) (h : if x = y then A else B) (k1 : A → WA Z (pc + 3) L S g) (k2 : B → WA Z tgt L S g) : WA Z pc L (.int y :: .int x :: S) g := fun ls H locs hl hP hS => lv_icmp_ne C.exec C.bytes hd ht (fun c => k2 (Eq.mp (if_neg c) h) ls H locs hl hP hS) (fun c => k1 (Eq.mp (if_pos c) h) ls H locs hl hP hS)
theorem wa_if_lt {Z : fp_Z} {cc : ByteArray} {own : String} {ret : Option FieldType} {pc : Nat} {L : List (Option Value)} {S : List Value} {g : fp_G} (C : fp_C Z cc own ret) {x : Int32} {off : Int} {tgt : Nat} {A B : Prop} (hd : decode cc pc = .ok (.ifCond .lt off, 3)) (ht : (pc : Int) + off = (tgt : Int)) (h : if x < 0 then A else B) (k1 : A → WA Z tgt L S g) (k2 : B → WA Z (pc + 3) L S g) : WA Z pc L (.int x :: S) g := fun ls H locs hl hP hS => lv_if_lt C.exec C.bytes hd ht (fun c => k1 (Eq.mp (if_pos c) h) ls H locs hl hP hS) (fun c => k2 (Eq.mp (if_neg c) h) ls H locs hl hP hS)
theorem wa_icmp_lt {Z : fp_Z} {cc : ByteArray} {own : String} {ret : Option FieldType} {pc : Nat} {L : List (Option Value)} {S : List Value} {g : fp_G} (C : fp_C Z cc own ret) {x y : Int32} {off : Int} {tgt : Nat} {A B : Prop} (hd : decode cc pc = .ok (.if_icmp .lt off, 3)) (ht : (pc : Int) + off = (tgt : Int)) (h : if x < y then A else B) (k1 : A → WA Z tgt L S g) (k2 : B → WA Z (pc + 3) L S g) : WA Z pc L (.int y :: .int x :: S) g := fun ls H locs hl hP hS => lv_icmp_lt C.exec C.bytes hd ht (fun c => k1 (Eq.mp (if_pos c) h) ls H locs hl hP hS) (fun c => k2 (Eq.mp (if_neg c) h) ls H locs hl hP hS)
theorem wa_if_ge {Z : fp_Z} {cc : ByteArray} {own : String} {ret : Option FieldType} {pc : Nat} {L : List (Option Value)} {S : List Value} {g : fp_G} (C : fp_C Z cc own ret) {x : Int32} {off : Int} {tgt : Nat} {A B : Prop} (hd : decode cc pc = .ok (.ifCond .ge off, 3)) (ht : (pc : Int) + off = (tgt : Int)) (h : if 0 ≤ x then A else B) (k1 : A → WA Z tgt L S g) (k2 : B → WA Z (pc + 3) L S g) : WA Z pc L (.int x :: S) g := fun ls H locs hl hP hS => lv_if_ge C.exec C.bytes hd ht (fun c => k1 (Eq.mp (if_pos c) h) ls H locs hl hP hS) (fun c => k2 (Eq.mp (if_neg c) h) ls H locs hl hP hS)
theorem wa_icmp_ge {Z : fp_Z} {cc : ByteArray} {own : String} {ret : Option FieldType} {pc : Nat} {L : List (Option Value)} {S : List Value} {g : fp_G} (C : fp_C Z cc own ret) {x y : Int32} {off : Int} {tgt : Nat} {A B : Prop} (hd : decode cc pc = .ok (.if_icmp .ge off, 3)) (ht : (pc : Int) + off = (tgt : Int)) (h : if y ≤ x then A else B) (k1 : A → WA Z tgt L S g) (k2 : B → WA Z (pc + 3) L S g) : WA Z pc L (.int y :: .int x :: S) g := fun ls H locs hl hP hS => lv_icmp_ge C.exec C.bytes hd ht (fun c => k1 (Eq.mp (if_pos c) h) ls H locs hl hP hS) (fun c => k2 (Eq.mp (if_neg c) h) ls H locs hl hP hS)
theorem wa_if_gt {Z : fp_Z} {cc : ByteArray} {own : String} {ret : Option FieldType} {pc : Nat} {L : List (Option Value)} {S : List Value} {g : fp_G} (C : fp_C Z cc own ret) {x : Int32} {off : Int} {tgt : Nat} {A B : Prop} (hd : decode cc pc = .ok (.ifCond .gt off, 3)) (ht : (pc : Int) + off = (tgt : Int)) (h : if 0 < x then A else B) (k1 : A → WA Z tgt L S g) (k2 : B → WA Z (pc + 3) L S g) : WA Z pc L (.int x :: S) g := fun ls H locs hl hP hS => lv_if_gt C.exec C.bytes hd ht (fun c => k1 (Eq.mp (if_pos c) h) ls H locs hl hP hS) (fun c => k2 (Eq.mp (if_neg c) h) ls H locs hl hP hS)
theorem wa_icmp_gt {Z : fp_Z} {cc : ByteArray} {own : String} {ret : Option FieldType} {pc : Nat} {L : List (Option Value)} {S : List Value} {g : fp_G} (C : fp_C Z cc own ret) {x y : Int32} {off : Int} {tgt : Nat} {A B : Prop} (hd : decode cc pc = .ok (.if_icmp .gt off, 3)) (ht : (pc : Int) + off = (tgt : Int)) (h : if y < x then A else B) (k1 : A → WA Z tgt L S g) (k2 : B → WA Z (pc + 3) L S g) : WA Z pc L (.int y :: .int x :: S) g := fun ls H locs hl hP hS => lv_icmp_gt C.exec C.bytes hd ht (fun c => k1 (Eq.mp (if_pos c) h) ls H locs hl hP hS) (fun c => k2 (Eq.mp (if_neg c) h) ls H locs hl hP hS)
theorem wa_if_le {Z : fp_Z} {cc : ByteArray} {own : String} {ret : Option FieldType} {pc : Nat} {L : List (Option Value)} {S : List Value} {g : fp_G} (C : fp_C Z cc own ret) {x : Int32} {off : Int} {tgt : Nat} {A B : Prop} (hd : decode cc pc = .ok (.ifCond .le off, 3)) (ht : (pc : Int) + off = (tgt : Int)) (h : if x ≤ 0 then A else B) (k1 : A → WA Z tgt L S g) (k2 : B → WA Z (pc + 3) L S g) : WA Z pc L (.int x :: S) g := fun ls H locs hl hP hS => lv_if_le C.exec C.bytes hd ht (fun c => k1 (Eq.mp (if_pos c) h) ls H locs hl hP hS) (fun c => k2 (Eq.mp (if_neg c) h) ls H locs hl hP hS)
theorem wa_icmp_le {Z : fp_Z} {cc : ByteArray} {own : String} {ret : Option FieldType} {pc : Nat} {L : List (Option Value)} {S : List Value} {g : fp_G} (C : fp_C Z cc own ret) {x y : Int32} {off : Int} {tgt : Nat} {A B : Prop} (hd : decode cc pc = .ok (.if_icmp .le off, 3)) (ht : (pc : Int) + off = (tgt : Int)) (h : if x ≤ y then A else B) (k1 : A → WA Z tgt L S g) (k2 : B → WA Z (pc + 3) L S g) : WA Z pc L (.int y :: .int x :: S) g := fun ls H locs hl hP hS => lv_icmp_le C.exec C.bytes hd ht (fun c => k1 (Eq.mp (if_pos c) h) ls H locs hl hP hS) (fun c => k2 (Eq.mp (if_neg c) h) ls H locs hl hP hS)
theorem fp_atA {Z : fp_Z} {g : fp_G} {q n : Nat} {ty : FieldType} (hq : q < fp_NC) (hs : fp_sh q = .inl (ty, n)) : (fp_ws Z.2.1 g)[q]? = some (Z.2.1.2.1 q, .inl (Z.2.1.2.2 ty, n, .inl (g q))) := by
  rw [fp_ws_at _ _ hq, hs]
  rfl
theorem fp_atO {Z : fp_Z} {g : fp_G} {q ci : Nat} {rs : List (Option Nat)} (hq : q < fp_NC) (hs : fp_sh q = .inr (ci, rs)) : (fp_ws Z.2.1 g)[q]? = some (Z.2.1.2.1 q, .inr (ci, fp_fs Z.2.1.2.1 (g q) 0 rs)) := by
  rw [fp_ws_at _ _ hq, hs]
  rfl
theorem fp_setA {Z : fp_Z} {g : fp_G} {q n : Nat} {ty : FieldType} (hq : q < fp_NC) (hs : fp_sh q = .inl (ty, n)) (i : Nat) (x : Int32) : (fp_ws Z.2.1 g).set q (Z.2.1.2.1 q, .inl (Z.2.1.2.2 ty, n, .inl (upd (g q) i x))) = fp_ws Z.2.1 (gu g q i x) := by
  have h := fp_ws_set Z.2.1 g hq (upd (g q) i x)
  rw [hs] at h
  rw [gu_gc]
  exact h
theorem wa_iald {Z : fp_Z} {cc : ByteArray} {own : String} {ret : Option FieldType} {pc : Nat} {L : List (Option Value)} {S : List Value} {g : fp_G} (C : fp_C Z cc own ret) {q n : Nat} {i : Int32} {P : Int32 → Prop} (hq : q < fp_NC) (hs : fp_sh q = .inl (.int, n)) (hd : decode cc pc = .ok (.iaload, 1)) (h : fp_rd (g q) n i P) (k : ∀ v, P v → WA Z (pc + 1) L (.int v :: S) g) : WA Z pc L (.int i :: .ref q :: S) g :=
  fun ls H locs hl hP hS => va_iald C.exec C.bytes C.2.2.2.2.2.1.1 hP q 0 (fp_atA hq hs) rfl h.1 hd (k _ h.2 ls H locs hl hP hS)
theorem wa_bald {Z : fp_Z} {cc : ByteArray} {own : String} {ret : Option FieldType} {pc : Nat} {L : List (Option Value)} {S : List Value} {g : fp_G} (C : fp_C Z cc own ret) {q n : Nat} {i : Int32} {P : Int32 → Prop} (hq : q < fp_NC) (hs : fp_sh q = .inl (.byte, n)) (hd : decode cc pc = .ok (.baload, 1)) (h : fp_rd (g q) n i P) (k : ∀ v, P v → WA Z (pc + 1) L (.int v :: S) g) : WA Z pc L (.int i :: .ref q :: S) g :=
  fun ls H locs hl hP hS => va_bald C.exec C.bytes C.2.2.2.2.2.1.1 hP q 2 (fp_atA hq hs) rfl h.1 hd (k _ h.2 ls H locs hl hP hS)
theorem wa_zald {Z : fp_Z} {cc : ByteArray} {own : String} {ret : Option FieldType} {pc : Nat} {L : List (Option Value)} {S : List Value} {g : fp_G} (C : fp_C Z cc own ret) {q n : Nat} {i : Int32} {P : Int32 → Prop} (hq : q < fp_NC) (hs : fp_sh q = .inl (.boolean, n)) (hd : decode cc pc = .ok (.baload, 1)) (h : fp_rd (g q) n i P) (k : ∀ v, P v → WA Z (pc + 1) L (.int v :: S) g) : WA Z pc L (.int i :: .ref q :: S) g :=
  fun ls H locs hl hP hS => va_zald C.exec C.bytes C.2.2.2.2.2.1.1 hP q 1 (fp_atA hq hs) rfl h.1 hd (k _ h.2 ls H locs hl hP hS)
theorem wa_iast {Z : fp_Z} {cc : ByteArray} {own : String} {ret : Option FieldType} {pc : Nat} {L : List (Option Value)} {S : List Value} {g : fp_G} (C : fp_C Z cc own ret) {q n : Nat} {i x : Int32} {P : fp_G → Prop} (hq : q < fp_NC) (hs : fp_sh q = .inl (.int, n)) (hd : decode cc pc = .ok (.iastore, 1)) (h : fp_wr g q n i x P) (k : ∀ g2, P g2 → WA Z (pc + 1) L S g2) : WA Z pc L (.int x :: .int i :: .ref q :: S) g :=
  fun ls H locs hl hP hS => va_iast C.exec C.bytes C.2.2.2.2.2.1.1 hP (C.D g) hS q 0 (fp_atA hq hs) rfl h.1 hd (fun H1 locs1 hP1 _ hS1 => k _ h.2 ls H1 locs1 hl (fp_setA (Z := Z) hq hs (tn i) x ▸ hP1) hS1)
theorem wa_bast {Z : fp_Z} {cc : ByteArray} {own : String} {ret : Option FieldType} {pc : Nat} {L : List (Option Value)} {S : List Value} {g : fp_G} (C : fp_C Z cc own ret) {q n : Nat} {i x : Int32} {P : fp_G → Prop} (hq : q < fp_NC) (hs : fp_sh q = .inl (.byte, n)) (hd : decode cc pc = .ok (.bastore, 1)) (h : fp_wr g q n i (vp_nar .byte x) P) (k : ∀ g2, P g2 → WA Z (pc + 1) L S g2) : WA Z pc L (.int x :: .int i :: .ref q :: S) g :=
  fun ls H locs hl hP hS => va_bast C.exec C.bytes C.2.2.2.2.2.1.1 hP (C.D g) hS q 2 (fp_atA hq hs) rfl h.1 hd (fun H1 locs1 hP1 _ hS1 => k _ h.2 ls H1 locs1 hl (fp_setA (Z := Z) hq hs (tn i) (vp_nar .byte x) ▸ hP1) hS1)
theorem wa_zast {Z : fp_Z} {cc : ByteArray} {own : String} {ret : Option FieldType} {pc : Nat} {L : List (Option Value)} {S : List Value} {g : fp_G} (C : fp_C Z cc own ret) {q n : Nat} {i x : Int32} {P : fp_G → Prop} (hq : q < fp_NC) (hs : fp_sh q = .inl (.boolean, n)) (hd : decode cc pc = .ok (.bastore, 1)) (h : fp_wr g q n i (vp_nar .boolean x) P) (k : ∀ g2, P g2 → WA Z (pc + 1) L S g2) : WA Z pc L (.int x :: .int i :: .ref q :: S) g :=
  fun ls H locs hl hP hS => va_zast C.exec C.bytes C.2.2.2.2.2.1.1 hP (C.D g) hS q 1 (fp_atA hq hs) rfl h.1 hd (fun H1 locs1 hP1 _ hS1 => k _ h.2 ls H1 locs1 hl (fp_setA (Z := Z) hq hs (tn i) (vp_nar .boolean x) ▸ hP1) hS1)
theorem wa_alen {Z : fp_Z} {cc : ByteArray} {own : String} {ret : Option FieldType} {pc : Nat} {L : List (Option Value)} {S : List Value} {g : fp_G} (C : fp_C Z cc own ret) {q n : Nat} {v : Int32} {ty : FieldType} {t0 : Nat} (hq : q < fp_NC) (hs : fp_sh q = .inl (ty, n)) (ht : ([(Z.2.1.2.2 .int, FieldType.int), (Z.2.1.2.2 .boolean, .boolean), (Z.2.1.2.2 .byte, .byte)] : List (ClassId × FieldType))[t0]? = some (Z.2.1.2.2 ty, ty)) (hv : Int32.ofNat n = v) (hd : decode cc pc = .ok (.arraylength, 1)) (k : WA Z (pc + 1) L (.int v :: S) g) : WA Z pc L (.ref q :: S) g :=
  fun ls H locs hl hP hS => va_alen C.exec C.bytes C.2.2.2.2.2.1.1 hP q t0 (fp_atA hq hs) ht hv hd (k ls H locs hl hP hS)
theorem wa_getI {Z : fp_Z} {cc : ByteArray} {own : String} {ret : Option FieldType} {pc : Nat} {L : List (Option Value)} {S : List Value} {g : fp_G} (C : fp_C Z cc own ret) {q ci j i N : Nat} {rs : List (Option Nat)} {T : u_T} {Cn : String} (hq : q < fp_NC) (hs : fp_sh q = .inr (ci, rs)) (hc : vwCl[ci]? = some (Cn, T, N)) (hin : ∀ w ∈ u_ws Cn T N, w ∈ fp_lw) (hk : j < N) (hr : rs[j]? = some none) (hlink : Cond.fieldLink own i (T j).1 (T j).2.1 (T j).2.2.1 ∈ fp_lw) (hd : decode cc pc = .ok (.getfield i, 3)) (k : WA Z (pc + 3) L (.int (g q j) :: S) g) : WA Z pc L (.ref q :: S) g :=
  fun ls H locs hl hP hS => va_get (ci := ci) C.exec C.bytes C.words hin C.2.2.2.1 C.2.2.2.2.2.1.1 hP q (fp_atO hq hs) hc j hk (C.word hlink) (fun _ h => h) (by have h9 := fp_fs_get Z.2.1.2.1 (g q) rs 0 j none hr; rw [Nat.zero_add] at h9; exact h9) hd (k ls H locs hl hP hS)
theorem wa_getR {Z : fp_Z} {cc : ByteArray} {own : String} {ret : Option FieldType} {pc : Nat} {L : List (Option Value)} {S : List Value} {g : fp_G} (C : fp_C Z cc own ret) {q ci j i N : Nat} {rs : List (Option Nat)} {T : u_T} {Cn : String} (hq : q < fp_NC) (hs : fp_sh q = .inr (ci, rs)) (hc : vwCl[ci]? = some (Cn, T, N)) (hin : ∀ w ∈ u_ws Cn T N, w ∈ fp_lw) (hk : j < N) {r : Nat} (hr : rs[j]? = some (some r)) (hlink : Cond.fieldLink own i (T j).1 (T j).2.1 (T j).2.2.1 ∈ fp_lw) (hd : decode cc pc = .ok (.getfield i, 3)) (k : WA Z (pc + 3) L (.ref r :: S) g) : WA Z pc L (.ref q :: S) g :=
  fun ls H locs hl hP hS => va_get (ci := ci) C.exec C.bytes C.words hin C.2.2.2.1 C.2.2.2.2.2.1.1 hP q (fp_atO hq hs) hc j hk (C.word hlink) (fun _ h => h) (fp_fs_get Z.2.1.2.1 (g q) rs 0 j (some r) hr) hd (k ls H locs hl hP hS)
theorem wa_putI {Z : fp_Z} {cc : ByteArray} {own : String} {ret : Option FieldType} {pc : Nat} {L : List (Option Value)} {S : List Value} {g : fp_G} (C : fp_C Z cc own ret) {q ci j i N : Nat} {rs : List (Option Nat)} {T : u_T} {Cn : String} (hq : q < fp_NC) (hs : fp_sh q = .inr (ci, rs)) (hc : vwCl[ci]? = some (Cn, T, N)) (hin : ∀ w ∈ u_ws Cn T N, w ∈ fp_lw) (hk : j < N) {x : Int32} {P : fp_G → Prop} (ty0 : Nat → FieldType) (hty : ∀ k, k < N → parseFieldDescriptor (T k).2.2.1 = some (ty0 k)) (hnm : ∀ a, a < N → ∀ b, b < N → a ≠ b → (T a).2.1 ≠ (T b).2.1) (hr : rs[j]? = some none) (hfin : (T j).2.2.2 = false) (hpd : parseFieldDescriptor (T j).2.2.1 = some .int) (hlink : Cond.fieldLink own i (T j).1 (T j).2.1 (T j).2.2.1 ∈ fp_lw) (hd : decode cc pc = .ok (.putfield i, 3)) (h : fp_pf g q j x P) (k : ∀ g2, P g2 → WA Z (pc + 3) L S g2) : WA Z pc L (.int x :: .ref q :: S) g := by
  intro ls H locs hl hP hS
  have hlt : j < (fp_fs Z.2.1.2.1 (g q) 0 rs).length := by rw [fp_fs_len]; exact (List.getElem?_eq_some_iff.mp hr).1
  refine va_put (ci := ci) (v := .int x) (ty := .int) C.exec C.bytes C.words hin ty0 hty hnm C.2.2.2.1 C.2.2.2.2.2.1.1 hP (C.D g) hS q (fp_atO hq hs) hc j hk (C.word hlink) (fun _ h => h) hfin hpd rfl rfl hlt hd (fun H1 locs1 hP1 _ hS1 => k _ h ls H1 locs1 hl ?_ hS1)
  have e1 := fp_fs_set Z.2.1.2.1 (g q) x rs 0 j hr
  have e2 := fp_ws_set Z.2.1 g hq (upd (g q) j x)
  rw [e1, Nat.zero_add] at hP1
  rw [hs] at e2
  rw [gu_gc, ← e2]
  exact hP1
theorem wa_putC {Z : fp_Z} {cc : ByteArray} {own : String} {ret : Option FieldType} {pc : Nat} {L : List (Option Value)} {S : List Value} {g : fp_G} (C : fp_C Z cc own ret) {q ci j i N : Nat} {rs : List (Option Nat)} {T : u_T} {Cn : String} (hq : q < fp_NC) (hs : fp_sh q = .inr (ci, rs)) (hc : vwCl[ci]? = some (Cn, T, N)) (hin : ∀ w ∈ u_ws Cn T N, w ∈ fp_lw) (hk : j < N) {x : Int32} {P : fp_G → Prop} (ty0 : Nat → FieldType) (hty : ∀ k, k < N → parseFieldDescriptor (T k).2.2.1 = some (ty0 k)) (hnm : ∀ a, a < N → ∀ b, b < N → a ≠ b → (T a).2.1 ≠ (T b).2.1) (hr : rs[j]? = some none) (hfin : (T j).2.2.2 = false) (hpd : parseFieldDescriptor (T j).2.2.1 = some .char) (hlink : Cond.fieldLink own i (T j).1 (T j).2.1 (T j).2.2.1 ∈ fp_lw) (hd : decode cc pc = .ok (.putfield i, 3)) (h : fp_pc g q j x P) (k : ∀ g2, P g2 → WA Z (pc + 3) L S g2) : WA Z pc L (.int x :: .ref q :: S) g := by
  intro ls H locs hl hP hS
  have hlt : j < (fp_fs Z.2.1.2.1 (g q) 0 rs).length := by rw [fp_fs_len]; exact (List.getElem?_eq_some_iff.mp hr).1
  refine va_put (ci := ci) (v := .int x) (ty := .char) C.exec C.bytes C.words hin ty0 hty hnm C.2.2.2.1 C.2.2.2.2.2.1.1 hP (C.D g) hS q (fp_atO hq hs) hc j hk (C.word hlink) (fun _ h => h) hfin hpd h.1.1 h.1.2 hlt hd (fun H1 locs1 hP1 _ hS1 => k _ h.2 ls H1 locs1 hl ?_ hS1)
  have e1 := fp_fs_set Z.2.1.2.1 (g q) x rs 0 j hr
  have e2 := fp_ws_set Z.2.1 g hq (upd (g q) j x)
  rw [e1, Nat.zero_add] at hP1
  rw [hs] at e2
  rw [gu_gc, ← e2]
  exact hP1
theorem wa_iret {Z : fp_Z} {cc : ByteArray} {own : String} {ret : Option FieldType} {pc : Nat} {L : List (Option Value)} {g : fp_G} (C : fp_C Z cc own ret) {x : Int32} (hv : fp_V Z false) (hr : ret = some .int) (hd : decode cc pc = .ok (.ireturn, 1)) (h : Z.2.2.2.1 x g) : WA Z pc L [.int x] g := by
  intro ls H locs hl hP hS
  obtain ⟨⟨p, l, e, R, s, m, args, below, meth, c⟩, E, b, K, nL, d, Z2⟩ := Z
  obtain ⟨h1, h2⟩ := hv
  dsimp only at h1 h2
  subst h1 h2
  refine W.iret (v := x) C.exec C.bytes (by rw [C.2.2.2.2.2.2.1]; exact hr) (fun t ht hW => ?_) hS.2.2 hd C.2.2.2.2.2.2.2.1
  exact ⟨⟨x, g, rfl, h, by show va_P _ _ _ _; rw [ht]; exact hP⟩, hS.F ht⟩
theorem wa_zret {Z : fp_Z} {cc : ByteArray} {own : String} {ret : Option FieldType} {pc : Nat} {L : List (Option Value)} {g : fp_G} (C : fp_C Z cc own ret) {x : Int32} {ty : FieldType} (hv : fp_V Z false) (hr : ret = some ty) (hn : narrow ty (.int x) = .int x) (hd : decode cc pc = .ok (.ireturn, 1)) (h : Z.2.2.2.1 x g) : WA Z pc L [.int x] g := by
  intro ls H locs hl hP hS
  obtain ⟨⟨p, l, e, R, s, m, args, below, meth, c⟩, E, b, K, nL, d, Z2⟩ := Z
  obtain ⟨h1, h2⟩ := hv
  dsimp only at h1 h2
  subst h1 h2
  refine W.zret (v := x) C.exec C.bytes (by rw [C.2.2.2.2.2.2.1]; exact hr) hn (fun t ht hW => ?_) hS.2.2 hd C.2.2.2.2.2.2.2.1
  exact ⟨⟨x, g, rfl, h, by show va_P _ _ _ _; rw [ht]; exact hP⟩, hS.F ht⟩
theorem wa_vret {Z : fp_Z} {cc : ByteArray} {own : String} {ret : Option FieldType} {pc : Nat} {L : List (Option Value)} {g : fp_G} (C : fp_C Z cc own ret) (hv : fp_V Z true) (hr : ret = none) (hd : decode cc pc = .ok (.return_, 1)) (h : Z.2.2.2.1 0 g) : WA Z pc L [] g := by
  intro ls H locs hl hP hS
  obtain ⟨⟨p, l, e, R, s, m, args, below, meth, c⟩, E, b, K, nL, d, Z2⟩ := Z
  obtain ⟨h1, h2⟩ := hv
  dsimp only at h1 h2
  subst h1 h2
  refine W.vret C.exec C.bytes (by rw [C.2.2.2.2.2.2.1]; exact hr) (fun t ht hW => ?_) hS.2.2 hd C.2.2.2.2.2.2.2.1
  exact ⟨⟨g, rfl, h, by show va_P _ _ _ _; rw [ht]; exact hP⟩, hS.F ht⟩
theorem fp_pre {Z : fp_Z} {cc : ByteArray} {own : String} {ret : Option FieldType} (C : fp_C Z cc own ret) {H : Heap} {locs : List Loc} {g : fp_G} (hP : va_P Z.2.1.1 vwCl (fp_ws Z.2.1 g) H) (hS : va_S Z.2.2.2.2.2.2.2.2.2 Z.1.2.2.2.2.1.heap H locs) (av : List Value) (U : State) (hU : U.heap = H) (hW : Z.1.2.2.2.2.1.WarmedH U.vm) : fp_Pc Z.2.1 av g (av.map (fp_rv Z.2.1.2.1)).toArray U :=
  ⟨rfl, by rw [hU]; exact fp_Env.warm hW (fp_Env.kept (C.out hS) C.2.2.2.2.2.1), by show va_P _ _ _ _; rw [hU]; exact hP⟩
theorem fp_sum (ad : Nat → Nat) (S : List Value) : (((S.map (fp_rv ad)).map fun v => v.category).sum) = ((S.map fun v => v.category).sum) := by
  rw [List.map_map]
  congr 1
  exact List.map_congr_left (fun v _ => fp_rv_cat ad v)
theorem fp_goodW {b : Cond} {own C : String} {idx : Nat} {y : MethodName} {bytes : ByteArray} {maxL : Nat} {ret : Option FieldType} (h0 : Cond.code y bytes maxL ret ∈ fp_lw) (ws : List Cond) (h1 : ∀ w ∈ ws, w ∈ fp_lw) : GoodIn (b :: fp_lw) (ws ++ (Cond.code y bytes maxL ret :: fp_lw)) := by
  intro w hw
  rcases List.mem_append.mp hw with h | h
  · exact ⟨List.mem_cons_of_mem _ (h1 w h), good_of_word (List.mem_filter.mp (h1 w h)).2⟩
  · exact fp_good h0 b w h
theorem fp_roomI {d d2 maxL : Nat} (h : d2 < d) (hm : maxL ≤ 41) : (fp_rm d2).frames + 1 ≤ (fp_rm d).frames ∧ 8 + (maxL + 11) + (fp_rm d2).locals ≤ (fp_rm d).locals := by
  show d2 + 1 ≤ d ∧ 8 + (maxL + 11) + 60 * d2 ≤ 60 * d
  omega
theorem wa_callVi {Z : fp_Z} {cc : ByteArray} {own : String} {ret : Option FieldType} {pc : Nat} {L : List (Option Value)} {S : List Value} {g : fp_G} (C : fp_C Z cc own ret) {y : MethodName} {bytes : ByteArray} {maxL i d2 n q ci N : Nat} {ret2 : Option FieldType} {P : Int32 → fp_G → Prop} {As S0 : List Value} {rs : List (Option Nat)} {T : u_T}
    (hq : q < fp_NC) (hs : fp_sh q = .inr (ci, rs)) (hc : vwCl[ci]? = some (y.cls, T, N)) (hsite : fp_site own i y bytes maxL ret2 n) (hinst : Cond.instanceMethod y ∈ fp_lw) (hsel : Cond.selects y.cls y y ∈ fp_lw)
    (hd : decode cc pc = .ok (.invokevirtual i, 3)) (hM : fp_M Z.1.2.1 Z.2.1 y bytes maxL ret2 false d2 (.ref q :: As) g P) (hn : As.length = n) (hst : As.reverse ++ .ref q :: S = S0) (hW : (S.map fun v => v.category).sum ≤ 8) (hdp : d2 < Z.2.2.2.2.2.1)
    (k : ∀ r g2, P r g2 → WA Z (pc + 3) L (.int r :: S) g2) : WA Z pc L S0 g := by
  intro ls H locs hl hP hS
  subst hst
  have hgo := va_recv C.2.2.2.2.2.1.1 hP hc (fp_atO (Z := Z) (g := g) hq hs)
  obtain ⟨b, hb⟩ := C.2.2.2.2.1
  obtain ⟨h1, h2, h3, h4, h5⟩ := hsite
  have hR := fp_roomI hdp h4
  have hR : (fp_rm d2).frames + 1 ≤ Z.1.2.2.2.1.frames ∧ 8 + (maxL + 11) + (fp_rm d2).locals ≤ Z.1.2.2.2.1.locals := ⟨Nat.le_trans hR.1 C.room.1, Nat.le_trans hR.2 C.room.2.1⟩
  have cw := cwV (R := Z.1.2.2.2.1) (own := own) (index := i) (C := y.cls) (bytes := bytes) (maxL := maxL) (ret := ret2) (rm := fp_rm d2) (mc := 0) (ms := 0) n hb (fp_goodW (own := own) (C := y.cls) (idx := i) (ret := ret2) (maxL := maxL) h1 [.methodLink own i y, .instanceMethod y, .selects y.cls y y, .initialized y.cls] (by
    intro w hw
    simp only [List.mem_cons, List.not_mem_nil, or_false] at hw
    rcases hw with rfl | rfl | rfl | rfl
    · exact h2
    · exact hinst
    · exact hsel
    · exact h3)) rfl rfl rfl ⟨rfl, h5⟩ hR
  have hstk : (As.reverse ++ Value.ref q :: S).map (fp_rv Z.2.1.2.1) = (As.map (fp_rv Z.2.1.2.1)).reverse ++ Value.ref (Z.2.1.2.1 q) :: S.map (fp_rv Z.2.1.2.1) := by
    rw [List.map_append, List.map_reverse]; rfl
  rw [hstk]
  refine va_calli (va_runV (As := As.map (fp_rv Z.2.1.2.1)) (rest := S.map (fp_rv Z.2.1.2.1)) ⟨C.exec, C.bytes, C.2.2.1, C.2.2.2.1, hb⟩ hM cw ⟨fp_blind _ _ _, hgo, fun U hU hW2 => fp_pre C hP hS (.ref q :: As) U hU hW2⟩ rfl (by rw [List.length_map]; exact hn) hl.1 rfl (lv_room (by rw [fp_sum]; exact hW)) hd ⟨C.room.2.2.1, C.room.2.2.2⟩) hS (fun q _ h => C.sub q h) (fun q h => C.sub q h) (fun r g2 t H1 locs1 ht _ hp hB _ _ hS1 => k r g2 hp ls H1 locs1 hl (by have hB := hB; unfold fp_B at hB; rw [ht] at hB; exact hB) hS1)
theorem wa_callSi {Z : fp_Z} {cc : ByteArray} {own : String} {ret : Option FieldType} {pc : Nat} {L : List (Option Value)} {S : List Value} {g : fp_G} (C : fp_C Z cc own ret) {y : MethodName} {bytes : ByteArray} {maxL i d2 n : Nat} {ret2 : Option FieldType} {P : Int32 → fp_G → Prop} {As S0 : List Value}
    (hsite : fp_site own i y bytes maxL ret2 n) (hstat : Cond.static y ∈ fp_lw)
    (hd : decode cc pc = .ok (.invokestatic i, 3)) (hM : fp_M Z.1.2.1 Z.2.1 y bytes maxL ret2 false d2 As g P) (hn : As.length = n) (hst : As.reverse ++ S = S0) (hW : (S.map fun v => v.category).sum ≤ 8) (hdp : d2 < Z.2.2.2.2.2.1)
    (k : ∀ r g2, P r g2 → WA Z (pc + 3) L (.int r :: S) g2) : WA Z pc L S0 g := by
  intro ls H locs hl hP hS
  subst hst
  obtain ⟨b, hb⟩ := C.2.2.2.2.1
  obtain ⟨h1, h2, h3, h4, h5⟩ := hsite
  have hR := fp_roomI hdp h4
  have hR : (fp_rm d2).frames + 1 ≤ Z.1.2.2.2.1.frames ∧ 8 + (maxL + 11) + (fp_rm d2).locals ≤ Z.1.2.2.2.1.locals := ⟨Nat.le_trans hR.1 C.room.1, Nat.le_trans hR.2 C.room.2.1⟩
  have cw := va_cwS (R := Z.1.2.2.2.1) (own := own) (index := i) (bytes := bytes) (maxL := maxL) (ret := ret2) (rm := fp_rm d2) (mc := 0) (ms := 0) n hb (fp_goodW (own := own) (C := y.cls) (idx := i) (ret := ret2) (maxL := maxL) h1 [.methodLink own i y, .static y, .initialized y.cls] (by
    intro w hw
    simp only [List.mem_cons, List.not_mem_nil, or_false] at hw
    rcases hw with rfl | rfl | rfl
    · exact h2
    · exact hstat
    · exact h3)) rfl rfl rfl h5 hR
  have hstk : (As.reverse ++ S).map (fp_rv Z.2.1.2.1) = (As.map (fp_rv Z.2.1.2.1)).reverse ++ S.map (fp_rv Z.2.1.2.1) := by
    rw [List.map_append, List.map_reverse]
  rw [hstk]
  refine va_calli (va_runS (As := As.map (fp_rv Z.2.1.2.1)) (rest := S.map (fp_rv Z.2.1.2.1)) ⟨C.exec, C.bytes, C.2.2.1, C.2.2.2.1, hb⟩ hM cw ⟨fp_blind _ _ _, fun U hU hW2 => fp_pre C hP hS As U hU hW2⟩ rfl (by rw [List.length_map]; exact hn) hl.1 rfl (lv_room (by rw [fp_sum]; exact hW)) hd ⟨C.room.2.2.1, C.room.2.2.2⟩) hS (fun q _ h => C.sub q h) (fun q h => C.sub q h) (fun r g2 t H1 locs1 ht _ hp hB _ _ hS1 => k r g2 hp ls H1 locs1 hl (by have hB := hB; unfold fp_B at hB; rw [ht] at hB; exact hB) hS1)
theorem wa_callVv {Z : fp_Z} {cc : ByteArray} {own : String} {ret : Option FieldType} {pc : Nat} {L : List (Option Value)} {S : List Value} {g : fp_G} (C : fp_C Z cc own ret) {y : MethodName} {bytes : ByteArray} {maxL i d2 n q ci N : Nat} {ret2 : Option FieldType} {P : Int32 → fp_G → Prop} {As S0 : List Value} {rs : List (Option Nat)} {T : u_T}
    (hq : q < fp_NC) (hs : fp_sh q = .inr (ci, rs)) (hc : vwCl[ci]? = some (y.cls, T, N)) (hsite : fp_site own i y bytes maxL ret2 n) (hinst : Cond.instanceMethod y ∈ fp_lw) (hsel : Cond.selects y.cls y y ∈ fp_lw)
    (hd : decode cc pc = .ok (.invokevirtual i, 3)) (hM : fp_M Z.1.2.1 Z.2.1 y bytes maxL ret2 true d2 (.ref q :: As) g P) (hn : As.length = n) (hst : As.reverse ++ .ref q :: S = S0) (hW : (S.map fun v => v.category).sum ≤ 8) (hdp : d2 < Z.2.2.2.2.2.1)
    (k : ∀ g2, P 0 g2 → WA Z (pc + 3) L S g2) : WA Z pc L S0 g := by
  intro ls H locs hl hP hS
  subst hst
  have hgo := va_recv C.2.2.2.2.2.1.1 hP hc (fp_atO (Z := Z) (g := g) hq hs)
  obtain ⟨b, hb⟩ := C.2.2.2.2.1
  obtain ⟨h1, h2, h3, h4, h5⟩ := hsite
  have hR := fp_roomI hdp h4
  have hR : (fp_rm d2).frames + 1 ≤ Z.1.2.2.2.1.frames ∧ 8 + (maxL + 11) + (fp_rm d2).locals ≤ Z.1.2.2.2.1.locals := ⟨Nat.le_trans hR.1 C.room.1, Nat.le_trans hR.2 C.room.2.1⟩
  have cw := cwV (R := Z.1.2.2.2.1) (own := own) (index := i) (C := y.cls) (bytes := bytes) (maxL := maxL) (ret := ret2) (rm := fp_rm d2) (mc := 0) (ms := 0) n hb (fp_goodW (own := own) (C := y.cls) (idx := i) (ret := ret2) (maxL := maxL) h1 [.methodLink own i y, .instanceMethod y, .selects y.cls y y, .initialized y.cls] (by
    intro w hw
    simp only [List.mem_cons, List.not_mem_nil, or_false] at hw
    rcases hw with rfl | rfl | rfl | rfl
    · exact h2
    · exact hinst
    · exact hsel
    · exact h3)) rfl rfl rfl ⟨rfl, h5⟩ hR
  have hstk : (As.reverse ++ Value.ref q :: S).map (fp_rv Z.2.1.2.1) = (As.map (fp_rv Z.2.1.2.1)).reverse ++ Value.ref (Z.2.1.2.1 q) :: S.map (fp_rv Z.2.1.2.1) := by
    rw [List.map_append, List.map_reverse]; rfl
  rw [hstk]
  refine va_callv (va_runV (As := As.map (fp_rv Z.2.1.2.1)) (rest := S.map (fp_rv Z.2.1.2.1)) ⟨C.exec, C.bytes, C.2.2.1, C.2.2.2.1, hb⟩ hM cw ⟨fp_blind _ _ _, hgo, fun U hU hW2 => fp_pre C hP hS (.ref q :: As) U hU hW2⟩ rfl (by rw [List.length_map]; exact hn) hl.1 rfl (lv_room (by rw [fp_sum]; exact hW)) hd ⟨C.room.2.2.1, C.room.2.2.2⟩) hS (fun q _ h => C.sub q h) (fun q h => C.sub q h) (fun g2 t H1 locs1 ht _ hp hB _ _ hS1 => k g2 hp ls H1 locs1 hl (by have hB := hB; unfold fp_B at hB; rw [ht] at hB; exact hB) hS1)
theorem wa_callSv {Z : fp_Z} {cc : ByteArray} {own : String} {ret : Option FieldType} {pc : Nat} {L : List (Option Value)} {S : List Value} {g : fp_G} (C : fp_C Z cc own ret) {y : MethodName} {bytes : ByteArray} {maxL i d2 n : Nat} {ret2 : Option FieldType} {P : Int32 → fp_G → Prop} {As S0 : List Value}
    (hsite : fp_site own i y bytes maxL ret2 n) (hstat : Cond.static y ∈ fp_lw)
    (hd : decode cc pc = .ok (.invokestatic i, 3)) (hM : fp_M Z.1.2.1 Z.2.1 y bytes maxL ret2 true d2 As g P) (hn : As.length = n) (hst : As.reverse ++ S = S0) (hW : (S.map fun v => v.category).sum ≤ 8) (hdp : d2 < Z.2.2.2.2.2.1)
    (k : ∀ g2, P 0 g2 → WA Z (pc + 3) L S g2) : WA Z pc L S0 g := by
  intro ls H locs hl hP hS
  subst hst
  obtain ⟨b, hb⟩ := C.2.2.2.2.1
  obtain ⟨h1, h2, h3, h4, h5⟩ := hsite
  have hR := fp_roomI hdp h4
  have hR : (fp_rm d2).frames + 1 ≤ Z.1.2.2.2.1.frames ∧ 8 + (maxL + 11) + (fp_rm d2).locals ≤ Z.1.2.2.2.1.locals := ⟨Nat.le_trans hR.1 C.room.1, Nat.le_trans hR.2 C.room.2.1⟩
  have cw := va_cwS (R := Z.1.2.2.2.1) (own := own) (index := i) (bytes := bytes) (maxL := maxL) (ret := ret2) (rm := fp_rm d2) (mc := 0) (ms := 0) n hb (fp_goodW (own := own) (C := y.cls) (idx := i) (ret := ret2) (maxL := maxL) h1 [.methodLink own i y, .static y, .initialized y.cls] (by
    intro w hw
    simp only [List.mem_cons, List.not_mem_nil, or_false] at hw
    rcases hw with rfl | rfl | rfl
    · exact h2
    · exact hstat
    · exact h3)) rfl rfl rfl h5 hR
  have hstk : (As.reverse ++ S).map (fp_rv Z.2.1.2.1) = (As.map (fp_rv Z.2.1.2.1)).reverse ++ S.map (fp_rv Z.2.1.2.1) := by
    rw [List.map_append, List.map_reverse]
  rw [hstk]
  refine va_callv (va_runS (As := As.map (fp_rv Z.2.1.2.1)) (rest := S.map (fp_rv Z.2.1.2.1)) ⟨C.exec, C.bytes, C.2.2.1, C.2.2.2.1, hb⟩ hM cw ⟨fp_blind _ _ _, fun U hU hW2 => fp_pre C hP hS As U hU hW2⟩ rfl (by rw [List.length_map]; exact hn) hl.1 rfl (lv_room (by rw [fp_sum]; exact hW)) hd ⟨C.room.2.2.1, C.room.2.2.2⟩) hS (fun q _ h => C.sub q h) (fun q h => C.sub q h) (fun g2 t H1 locs1 ht _ hp hB _ _ hS1 => k g2 hp ls H1 locs1 hl (by have hB := hB; unfold fp_B at hB; rw [ht] at hB; exact hB) hS1)
