/-! ===== forgetting, joins, switches, Math, arraycopy, String constants ===== -/
def fp_le : List (Option Value) → List (Option Value) → Prop
  | [], _ => True
  | none :: L, [] => fp_le L []
  | none :: L, _ :: M => fp_le L M
  | some _ :: _, [] => False
  | some v :: L, w :: M => w = some v ∧ fp_le L M
theorem fp_le_at : ∀ (L M : List (Option Value)), fp_le L M → ∀ (i : Nat) (v : Value), L[i]? = some (some v) → M[i]? = some (some v)
  | [], _, _, i, v, h => by simp at h
  | none :: L, [], hl, i, v, h => by
    cases i with
    | zero => simp at h
    | succ i => have := fp_le_at L [] hl i v h; simp at this
  | none :: L, w :: M, hl, i, v, h => by
    cases i with
    | zero => simp at h
    | succ i => exact fp_le_at L M hl i v h
  | some u :: L, [], hl, i, v, h => hl.elim
  | some u :: L, w :: M, hl, i, v, h => by
    cases i with
    | zero => rw [hl.1]; exact h
    | succ i => exact fp_le_at L M hl.2 i v h
theorem WA.weak {Z : fp_Z} {pc : Nat} {L M : List (Option Value)} {S : List Value} {g : fp_G} (k : WA Z pc L S g) (hl : fp_le L M) : WA Z pc M S g := by
  intro ls H locs h hP hS
  refine k ls H locs ⟨h.1, h.2.1, fun q hq => h.2.2 q ?_⟩ hP hS
  obtain ⟨a, w⟩ := q
  obtain ⟨j, v, e1, e2, e3⟩ := (fp_al_mem L 0 a w).mp hq
  exact (fp_al_mem M 0 a w).mpr ⟨j, v, fp_le_at L M hl j v e1, e2, e3⟩
theorem fp_j0 {J : fp_G → Prop} {P : (fp_G → Prop) → Prop} {Q : fp_G → Prop} {X : Prop} (h : fp_j J P) (hJ : ∀ g, J g → Q g) (k : ∀ J : fp_G → Prop, (∀ g, J g → Q g) → P J → X) : X := k J hJ h
theorem fp_j1 {J : Int32 → fp_G → Prop} {P : (Int32 → fp_G → Prop) → Prop} {Q : Int32 → fp_G → Prop} {X : Prop} (h : fp_j J P) (hJ : ∀ x g, J x g → Q x g) (k : ∀ J : Int32 → fp_G → Prop, (∀ x g, J x g → Q x g) → P J → X) : X := k J hJ h
theorem fp_j2 {J : Int32 → Int32 → fp_G → Prop} {P : (Int32 → Int32 → fp_G → Prop) → Prop} {Q : Int32 → Int32 → fp_G → Prop} {X : Prop} (h : fp_j J P) (hJ : ∀ x y g, J x y g → Q x y g) (k : ∀ J : Int32 → Int32 → fp_G → Prop, (∀ x y g, J x y g → Q x y g) → P J → X) : X := k J hJ h
theorem fp_j3 {J : Int32 → Int32 → Int32 → fp_G → Prop} {P : (Int32 → Int32 → Int32 → fp_G → Prop) → Prop} {Q : Int32 → Int32 → Int32 → fp_G → Prop} {X : Prop} (h : fp_j J P) (hJ : ∀ x y z g, J x y z g → Q x y z g) (k : ∀ J : Int32 → Int32 → Int32 → fp_G → Prop, (∀ x y z g, J x y z g → Q x y z g) → P J → X) : X := k J hJ h
theorem fp_j4 {J : Int32 → Int32 → Int32 → Int32 → fp_G → Prop} {P : (Int32 → Int32 → Int32 → Int32 → fp_G → Prop) → Prop} {Q : Int32 → Int32 → Int32 → Int32 → fp_G → Prop} {X : Prop} (h : fp_j J P) (hJ : ∀ x y z u g, J x y z u g → Q x y z u g) (k : ∀ J : Int32 → Int32 → Int32 → Int32 → fp_G → Prop, (∀ x y z u g, J x y z u g → Q x y z u g) → P J → X) : X := k J hJ h
theorem fp_inc1 (x : Int32) : x + Int32.ofInt 1 = x + 1 := congrArg (fun z => x + z) (by decide)
theorem fp_incm1 (x : Int32) : x + Int32.ofInt (-1) = x + (-1) := congrArg (fun z => x + z) (by decide)
theorem fp_inc6 (x : Int32) : x + Int32.ofInt 6 = x + 6 := congrArg (fun z => x + z) (by decide)
theorem fp_sw {c A B X : Prop} {i : Decidable c} (h : @ite Prop c i A B) (k1 : c → A → X) (k2 : ¬ c → B → X) : X := by
  by_cases e : c
  · rw [if_pos e] at h
    exact k1 e h
  · rw [if_neg e] at h
    exact k2 e h
theorem fp_ne {x y : Int32} {k : Int} (hy : y.toInt = k) (h : ¬ x = y) : ¬ x.toInt = k := fun e => h (Int32.toInt_inj.mp (e.trans hy.symm))
section
variable {Z : fp_Z} {cc : ByteArray} {own : String} {ret : Option FieldType} {pc : Nat} {L : List (Option Value)} {S : List Value} {g : fp_G}
theorem wa_tsIn (C : fp_C Z cc own ret) {dflt lo hi : Int} {offs : Array Int} {len : Nat} {x v : Int32} {off : Int} {tgt : Nat} (hd : decode cc pc = .ok (.tableswitch dflt lo hi offs, len)) (e : x = v) (h1 : ¬ v.toInt < lo) (h2 : ¬ hi < v.toInt) (ho : offs[(v.toInt - lo).toNat]? = some off) (ht : (pc : Int) + off = (tgt : Int)) (k : WA Z tgt L S g) : WA Z pc L (.int x :: S) g := by
  subst e
  exact fun ls H locs hl hP hS => lv_tableIn C.exec C.bytes hd h1 h2 ho ht (k ls H locs hl hP hS)
theorem wa_tsOut (C : fp_C Z cc own ret) {dflt lo hi : Int} {offs : Array Int} {len : Nat} {x : Int32} {tgt : Nat} (hd : decode cc pc = .ok (.tableswitch dflt lo hi offs, len)) (h : x.toInt < lo ∨ hi < x.toInt) (ht : (pc : Int) + dflt = (tgt : Int)) (k : WA Z tgt L S g) : WA Z pc L (.int x :: S) g :=
  fun ls H locs hl hP hS => lv_tableOut C.exec C.bytes hd h ht (k ls H locs hl hP hS)
theorem fp_rm_frames (C : fp_C Z cc own ret) : Z.2.2.2.2.2.1 ≤ Z.1.2.2.2.1.frames := C.room.1
theorem fp_rm_locals (C : fp_C Z cc own ret) : 60 * Z.2.2.2.2.2.1 ≤ Z.1.2.2.2.1.locals := C.room.2.1
theorem wa_mmin (C : fp_C Z cc own ret) {i : Nat} {x y : Int32} (hs : fp_siteM own i Lib.Math.min.name Lib.Math.min.code) (hdp : 0 < Z.2.2.2.2.2.1) (hW : (S.map fun v => v.category).sum ≤ 8) (hd : decode cc pc = .ok (.invokestatic i, 3)) (k : WA Z (pc + 3) L (.int (if y < x then y else x) :: S) g) : WA Z pc L (.int y :: .int x :: S) g :=
  fun ls H locs hl hP hS => va_mmin C.exec C.bytes (C.2.2.1.trans hl.1.symm) C.2.2.2.1 (C.word hs.1) (C.word hs.2.1) (C.word hs.2.2.1) (C.word hs.2.2.2) (by have := fp_rm_frames C; omega) (by have := fp_rm_locals C; rw [fp_sum]; omega) C.room.2.2.1 C.room.2.2.2 hd (k ls H locs hl hP hS)
theorem wa_mmax (C : fp_C Z cc own ret) {i : Nat} {x y : Int32} (hs : fp_siteM own i Lib.Math.max.name Lib.Math.max.code) (hdp : 0 < Z.2.2.2.2.2.1) (hW : (S.map fun v => v.category).sum ≤ 8) (hd : decode cc pc = .ok (.invokestatic i, 3)) (k : WA Z (pc + 3) L (.int (if x < y then y else x) :: S) g) : WA Z pc L (.int y :: .int x :: S) g :=
  fun ls H locs hl hP hS => va_mmax C.exec C.bytes (C.2.2.1.trans hl.1.symm) C.2.2.2.1 (C.word hs.1) (C.word hs.2.1) (C.word hs.2.2.1) (C.word hs.2.2.2) (by have := fp_rm_frames C; omega) (by have := fp_rm_locals C; rw [fp_sum]; omega) C.room.2.2.1 C.room.2.2.2 hd (k ls H locs hl hP hS)
theorem wa_copy (C : fp_C Z cc own ret) {t0 i q0 n0 q1 n1 : Nat} {ty : FieldType} {sp dp n : Int32} {P : fp_G → Prop} (hq0 : q0 < fp_NC) (hs0 : fp_sh q0 = .inl (ty, n0)) (hq1 : q1 < fp_NC) (hs1 : fp_sh q1 = .inl (ty, n1))
    (ht : ([(Z.2.1.2.2 .int, FieldType.int), (Z.2.1.2.2 .boolean, .boolean), (Z.2.1.2.2 .byte, .byte)] : List (ClassId × FieldType))[t0]? = some (Z.2.1.2.2 ty, ty)) (hprim : refKind ty = false) (hs : fp_siteA own i) (hdp : 0 < Z.2.2.2.2.2.1) (hW : (S.map fun v => v.category).sum ≤ 8) (hd : decode cc pc = .ok (.invokestatic i, 3))
    (h : fp_cp ty g q0 n0 q1 n1 sp dp n P) (k : ∀ g2, P g2 → WA Z (pc + 3) L S g2) : WA Z pc L (.int n :: .int dp :: .ref q1 :: .int sp :: .ref q0 :: S) g := by
  intro ls H locs hl hP hS
  obtain ⟨⟨h1, h2, h3, h4, h5, h6⟩, h7⟩ := h
  have hw : nativeFrameWords "java/lang/System" "arraycopy" 5 + 11 + 8 ≤ 60 := by decide
  refine va_copyi C.exec C.bytes (C.2.2.1.trans hl.1.symm) C.2.2.2.1 (C.word hs.1) (C.word hs.2.1) (C.word hs.2.2.1) (C.word hs.2.2.2) C.2.2.2.2.2.1.1 hP (C.D g) hS q0 q1 t0 t0 (fp_atA hq0 hs0) (fp_atA hq1 hs1) ht ht hprim h1 h2 h3 h4 h5 h6 (by have := fp_rm_frames C; omega) (by have := fp_rm_locals C; rw [fp_sum]; omega) hd (fun H1 locs1 hP1 _ hS1 => k _ h7 ls H1 locs1 hl ?_ hS1)
  have e := fp_ws_set Z.2.1 g hq1 (va_cpy (g q0) (g q1) (tn sp) (tn dp) (tn n))
  rw [hs1] at e
  rw [← e]
  exact hP1
theorem wa_ldcS0 {cc : ByteArray} {ret : Option FieldType} (C : fp_C Z cc own ret) (ho : own = RX5) (hd : decode cc pc = .ok (.ldc 72, 2)) (k : WA Z (pc + 2) L (.ref (fp_NC + 0) :: S) g) : WA Z pc L S g := by
  subst ho
  exact fun ls H locs hl hP hS => va_ldcS C.exec C.bytes C.2.2.2.1 C.2.2.2.2.2.1.2.2.2.1 hd (k ls H locs hl hP hS)
theorem wa_ldcS1 {cc : ByteArray} {ret : Option FieldType} (C : fp_C Z cc own ret) (ho : own = RX5) (hd : decode cc pc = .ok (.ldc 80, 2)) (k : WA Z (pc + 2) L (.ref (fp_NC + 1) :: S) g) : WA Z pc L S g := by
  subst ho
  exact fun ls H locs hl hP hS => va_ldcS C.exec C.bytes C.2.2.2.1 C.2.2.2.2.2.1.2.2.2.2.1 hd (k ls H locs hl hP hS)
end
theorem ltC0 {c : Nat} (h : fp_isC c) : c < fp_NC := ltC (i := 0) h (by decide)
theorem fp_k0 {J : Prop} {P : Prop → Prop} {Q : Prop} {X : Prop} (h : fp_j J P) (hJ : J → Q) (k : ∀ J : Prop, (J → Q) → P J → X) : X := k J hJ h
theorem fp_k1 {J : Int32 → Prop} {P : (Int32 → Prop) → Prop} {Q : Int32 → Prop} {X : Prop} (h : fp_j J P) (hJ : ∀ x, J x → Q x) (k : ∀ J : Int32 → Prop, (∀ x, J x → Q x) → P J → X) : X := k J hJ h
theorem fp_k2 {J : Int32 → Int32 → Prop} {P : (Int32 → Int32 → Prop) → Prop} {Q : Int32 → Int32 → Prop} {X : Prop} (h : fp_j J P) (hJ : ∀ x y, J x y → Q x y) (k : ∀ J : Int32 → Int32 → Prop, (∀ x y, J x y → Q x y) → P J → X) : X := k J hJ h
theorem fp_k3 {J : Int32 → Int32 → Int32 → Prop} {P : (Int32 → Int32 → Int32 → Prop) → Prop} {Q : Int32 → Int32 → Int32 → Prop} {X : Prop} (h : fp_j J P) (hJ : ∀ x y z, J x y z → Q x y z) (k : ∀ J : Int32 → Int32 → Int32 → Prop, (∀ x y z, J x y z → Q x y z) → P J → X) : X := k J hJ h
theorem fp_k4 {J : Int32 → Int32 → Int32 → Int32 → Prop} {P : (Int32 → Int32 → Int32 → Int32 → Prop) → Prop} {Q : Int32 → Int32 → Int32 → Int32 → Prop} {X : Prop} (h : fp_j J P) (hJ : ∀ x y z u, J x y z u → Q x y z u) (k : ∀ J : Int32 → Int32 → Int32 → Int32 → Prop, (∀ x y z u, J x y z u → Q x y z u) → P J → X) : X := k J hJ h
