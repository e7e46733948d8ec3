/-! ===== THE FRAME: all cells of class and reference as one state g : cell → place → int; a walk of a method over it ===== -/
theorem gu_gc (g : fp_G) (k i : Nat) (x : Int32) : gu g k i x = gc g k (upd (g k) i x) := by
  funext k' i'
  by_cases h : k' = k
  · subst h
    by_cases h2 : i' = i <;> simp [gu, gc, upd, h2]
  · simp [gu, gc, h]
abbrev fp_E : Type := va_G × (Nat → Nat) × (FieldType → ClassId)
def fp_rv (ad : Nat → Nat) (v : Value) : Value := match v with
  | .ref k => .ref (ad k)
  | v => v
def fp_fs (ad : Nat → Nat) (f : Nat → Int32) : Nat → List (Option Nat) → List Value
  | _, [] => []
  | j, none :: r => .int (f j) :: fp_fs ad f (j + 1) r
  | j, some q :: r => .ref (ad q) :: fp_fs ad f (j + 1) r
def fp_cl (E : fp_E) (sh : fp_Sh) (f : Nat → Int32) : va_E := match sh with
  | .inl t => .inl (E.2.2 t.1, t.2, .inl f)
  | .inr o => .inr (o.1, fp_fs E.2.1 f 0 o.2)
def fp_ws (E : fp_E) (g : fp_G) : va_W := (List.range fp_NC).map (fun k => (E.2.1 k, fp_cl E (fp_sh k) (g k)))
def fp_A (E : fp_E) : Nat → Prop := fun q => ∃ k, k < fp_NC ∧ q = E.2.1 k
def fp_Inj (E : fp_E) : Prop := ∀ i j, i < fp_NC → j < fp_NC → E.2.1 i = E.2.1 j → i = j
theorem fp_ws_at (E : fp_E) (g : fp_G) {k : Nat} (hk : k < fp_NC) : (fp_ws E g)[k]? = some (E.2.1 k, fp_cl E (fp_sh k) (g k)) := by
  simp [fp_ws, hk]
theorem fp_ws_len (E : fp_E) (g : fp_G) : (fp_ws E g).length = fp_NC := by simp [fp_ws]
theorem fp_ws_set (E : fp_E) (g : fp_G) {k : Nat} (hk : k < fp_NC) (f : Nat → Int32) : (fp_ws E g).set k (E.2.1 k, fp_cl E (fp_sh k) f) = fp_ws E (gc g k f) := by
  apply List.ext_getElem?
  intro i
  by_cases hi : i < fp_NC
  · rw [fp_ws_at E _ hi]
    by_cases h : i = k
    · subst h
      rw [List.getElem?_set_self (by rw [fp_ws_len]; exact hi)]
      simp [gc]
    · rw [List.getElem?_set_ne (Ne.symm h), fp_ws_at E _ hi]
      simp [gc, h]
  · rw [List.getElem?_eq_none (by rw [List.length_set, fp_ws_len]; omega), List.getElem?_eq_none (by rw [fp_ws_len]; omega)]
theorem fp_ws_inv {E : fp_E} {g : fp_G} {k : Nat} {q : Nat × va_E} (h : (fp_ws E g)[k]? = some q) : k < fp_NC ∧ q = (E.2.1 k, fp_cl E (fp_sh k) (g k)) := by
  have hk : k < fp_NC := by
    have := (List.getElem?_eq_some_iff.mp h).1
    rw [fp_ws_len] at this
    exact this
  rw [fp_ws_at E g hk] at h
  exact ⟨hk, (Option.some.inj h).symm⟩
theorem fp_D {E : fp_E} (hi : fp_Inj E) (g : fp_G) : va_D (fp_A E) (fp_ws E g) := by
  refine ⟨fun i j p q hp hq e => ?_, fun k q hk => ?_⟩
  · obtain ⟨h1, rfl⟩ := fp_ws_inv hp
    obtain ⟨h2, rfl⟩ := fp_ws_inv hq
    exact hi i j h1 h2 e
  · obtain ⟨h1, rfl⟩ := fp_ws_inv hk
    exact ⟨k, h1, rfl⟩
theorem fp_fs_get (ad : Nat → Nat) (f : Nat → Int32) : ∀ (rs : List (Option Nat)) (n j : Nat) (r : Option Nat), rs[j]? = some r → (fp_fs ad f n rs)[j]? = some (match r with | none => .int (f (n + j)) | some q => .ref (ad q))
  | [], n, j, r, h => by simp at h
  | none :: rs, n, 0, r, h => by
    cases h
    rfl
  | some q :: rs, n, 0, r, h => by
    cases h
    rfl
  | none :: rs, n, j + 1, r, h => by
    have := fp_fs_get ad f rs (n + 1) j r h
    rw [show n + 1 + j = n + (j + 1) by omega] at this
    exact this
  | some q :: rs, n, j + 1, r, h => by
    have := fp_fs_get ad f rs (n + 1) j r h
    rw [show n + 1 + j = n + (j + 1) by omega] at this
    exact this
theorem fp_fs_len (ad : Nat → Nat) (f : Nat → Int32) : ∀ (rs : List (Option Nat)) (n : Nat), (fp_fs ad f n rs).length = rs.length
  | [], n => rfl
  | none :: rs, n => by simp [fp_fs, fp_fs_len ad f rs (n + 1)]
  | some q :: rs, n => by simp [fp_fs, fp_fs_len ad f rs (n + 1)]
theorem fp_fs_cong (ad : Nat → Nat) {f h : Nat → Int32} : ∀ (rs : List (Option Nat)) (n : Nat), (∀ j, n ≤ j → f j = h j) → fp_fs ad f n rs = fp_fs ad h n rs
  | [], n, _ => rfl
  | none :: rs, n, e => by rw [fp_fs, fp_fs, e n (Nat.le_refl n), fp_fs_cong ad rs (n + 1) (fun j hj => e j (by omega))]
  | some q :: rs, n, e => by rw [fp_fs, fp_fs, fp_fs_cong ad rs (n + 1) (fun j hj => e j (by omega))]
theorem fp_fs_set (ad : Nat → Nat) (f : Nat → Int32) (x : Int32) : ∀ (rs : List (Option Nat)) (n j : Nat), rs[j]? = some none → (fp_fs ad f n rs).set j (.int x) = fp_fs ad (upd f (n + j) x) n rs
  | [], n, j, h => by simp at h
  | none :: rs, n, 0, h => by
    show Value.int x :: fp_fs ad f (n + 1) rs = Value.int (upd f (n + 0) x n) :: fp_fs ad (upd f (n + 0) x) (n + 1) rs
    rw [fp_fs_cong ad rs (n + 1) (f := f) (h := upd f (n + 0) x) (fun j hj => by simp [upd]; omega)]
    simp [upd]
  | some q :: rs, n, 0, h => by cases h
  | none :: rs, n, j + 1, h => by
    have := fp_fs_set ad f x rs (n + 1) j h
    rw [show n + 1 + j = n + (j + 1) by omega] at this
    show Value.int (f n) :: (fp_fs ad f (n + 1) rs).set j (.int x) = Value.int (upd f (n + (j + 1)) x n) :: fp_fs ad (upd f (n + (j + 1)) x) (n + 1) rs
    rw [this]
    simp [upd]
  | some q :: rs, n, j + 1, h => by
    have := fp_fs_set ad f x rs (n + 1) j h
    rw [show n + 1 + j = n + (j + 1) by omega] at this
    show Value.ref (ad q) :: (fp_fs ad f (n + 1) rs).set j (.int x) = Value.ref (ad q) :: fp_fs ad (upd f (n + (j + 1)) x) (n + 1) rs
    rw [this]
/-- what is known beside the cells: the tables, the String constants -/
def fp_Env (E : fp_E) (U : State) (H : Heap) : Prop :=
  va_K E.1 vwCl [(E.2.2 .int, .int), (E.2.2 .boolean, .boolean), (E.2.2 .byte, .byte)] U ∧ fp_Inj E ∧
  vk_S 2 [9, 3] [[107, 119, 97, 104, 115, 117, 111, 98, 99], [60, 61, 62]] (fun i => E.2.1 (fp_NC + i)) (fun i => E.2.1 (fp_NC + 2 + i)) (fp_A E) U H ∧
  vk_R RX5 72 "kwahsuobc" (E.2.1 fp_NC) U ∧ vk_R RX5 80 "<=>" (E.2.1 (fp_NC + 1)) U ∧ va_Z RJ0 "COMPACT_STRINGS" "Z" (.int 1) (fp_A E) U H
theorem fp_Env.same {E : fp_E} {u U : State} {H : Heap} (hv : U.vm = u.vm) (h : fp_Env E u H) : fp_Env E U H := by
  have hvm : u.vm.Alike U.vm := by rw [hv]; exact Vm.Alike.refl u.vm
  exact ⟨va_K.moved hvm h.1, h.2.1, vk_S.moved hvm h.2.2.1, vk_R.same hv h.2.2.2.1, vk_R.same hv h.2.2.2.2.1, va_Z.moved hvm h.2.2.2.2.2⟩
theorem fp_Env.warm {E : fp_E} {s U : State} {H : Heap} (hW : s.WarmedH U.vm) (h : fp_Env E s H) : fp_Env E U H :=
  ⟨va_K.moved hW.alike h.1, h.2.1, vk_S.moved hW.alike h.2.2.1, vk_R.warm hW h.2.2.2.1, vk_R.warm hW h.2.2.2.2.1, va_Z.moved hW.alike h.2.2.2.2.2⟩
theorem fp_Env.kept {E : fp_E} {s : State} {H H1 : Heap} (hq : ∀ a : Nat, a < H.size → ¬ fp_A E a → H1[a]? = H[a]?) (h : fp_Env E s H) : fp_Env E s H1 :=
  ⟨h.1, h.2.1, h.2.2.1.kept hq, h.2.2.2.1, h.2.2.2.2.1, h.2.2.2.2.2.kept hq⟩
def fp_B (E : fp_E) (g : fp_G) (t : State) : Prop := va_P E.1 vwCl (fp_ws E g) t.heap
def fp_Q (E : fp_E) (isV : Bool) (K : Int32 → fp_G → Prop) : Array Value → State → Outcome → State → Prop := match isV with
  | true => va_Qv (K 0) (fp_B E) (fp_A E)
  | false => va_Qi K (fp_B E) (fp_A E)
def fp_Pc (E : fp_E) (av : List Value) (g : fp_G) : Array Value → State → Prop := va_Pc (av.map (fp_rv E.2.1)) (fun U => fp_Env E U U.heap ∧ fp_B E g U)
def fp_rm (d : Nat) : Room := { frames := d, cells := 0, slots := 0, locals := 60 * d }
/-- a method's contract: called on these values over g it comes back with K -/
def fp_M (l : Launch) (E : fp_E) (y : MethodName) (bytes : ByteArray) (maxL : Nat) (ret : Option FieldType) (isV : Bool) (d : Nat) (av : List Value) (g : fp_G) (K : Int32 → fp_G → Prop) : Prop :=
  Met l y (Cond.code y bytes maxL ret :: fp_lw) (fp_rm d) (fp_Pc E av g) (fp_Q E isV K) 0 0 (fp_A E)
theorem fp_blind (E : fp_E) (av : List Value) (g : fp_G) : FrameBlind (fp_Pc E av g) := by
  intro a U f mk h
  exact ⟨h.1, fp_Env.same rfl h.2.1, h.2.2⟩
/-- a walk's fixed things: the machine's; the cells; void or not; what is owed at the end; locals; depth; the goal's own end, its room so far, what it may write -/
abbrev fp_Z : Type := (Program × Launch × Env × Room × State × MethodId × Array Value × List Frame × Method × Code) × fp_E × Bool × (Int32 → fp_G → Prop) × Nat × Nat × (State → Prop) × Nat × Nat × (Nat → Prop)
def fp_al (ad : Nat → Nat) : Nat → List (Option Value) → List (Nat × Value)
  | _, [] => []
  | i, none :: r => fp_al ad (i + 1) r
  | i, some v :: r => (i, fp_rv ad v) :: fp_al ad (i + 1) r
def WA (Z : fp_Z) (pc : Nat) (L : List (Option Value)) (S : List Value) (g : fp_G) : Prop :=
  ∀ (ls : Array Slot) (H : Heap) (locs : List Loc), lv_has ls Z.2.2.2.2.1 (fp_al Z.2.1.2.1 0 L) → va_P Z.2.1.1 vwCl (fp_ws Z.2.1 g) H → va_S Z.2.2.2.2.2.2.2.2.2 Z.1.2.2.2.2.1.heap H locs →
    W Z.1.1 Z.1.2.1 Z.1.2.2.1 Z.1.2.2.2.1 Z.1.2.2.2.2.1 Z.1.2.2.2.2.2.1 Z.1.2.2.2.2.2.2.1 Z.1.2.2.2.2.2.2.2.1 Z.1.2.2.2.2.2.2.2.2.1 Z.1.2.2.2.2.2.2.2.2.2 H locs Z.2.2.2.2.2.2.2.1 Z.2.2.2.2.2.2.2.2.1
      Z.2.2.2.2.2.2.1 (F0 Z.1.2.2.2.2.2.1 pc ls (S.map (fp_rv Z.2.1.2.1)))
/-- the end of a method: as its contract has it -/
def fp_V (Z : fp_Z) (b : Bool) : Prop := Z.2.2.1 = b ∧ Z.2.2.2.2.2.2 = (MQ Z.1.2.2.2.2.2.2.2.1 (fp_Q Z.2.1 b Z.2.2.2.1) Z.1.2.2.2.2.2.2.1 Z.1.2.2.2.2.1 0 0 (fp_A Z.2.1), 0, 0, fp_A Z.2.1)
/-- what a walk rests on: the machine, the code, the tables -/
def fp_C (Z : fp_Z) (cc : ByteArray) (own : String) (ret : Option FieldType) : Prop :=
  Z.1.1.tables.exec = Jvm.exec ∧ Z.1.2.2.2.2.2.2.2.2.2.code = cc ∧ Z.1.2.2.2.2.2.2.2.2.2.maxLocals = Z.2.2.2.2.1 ∧ Z.1.2.2.2.2.1.vm.findClass own = some Z.1.2.2.2.2.2.1.cls ∧
  (∃ b, ∀ w ∈ b :: fp_lw, w.before Z.1.2.2.2.2.2.2.1 Z.1.2.2.2.2.1 = true) ∧ fp_Env Z.2.1 Z.1.2.2.2.2.1 Z.1.2.2.2.2.1.heap ∧ Z.1.2.2.2.2.2.2.2.2.1.sig.returnType = ret ∧ Z.1.2.2.2.2.2.2.2.2.1.locks = false ∧
  ((fp_rm Z.2.2.2.2.2.1).frames ≤ Z.1.2.2.2.1.frames ∧ (fp_rm Z.2.2.2.2.2.1).locals ≤ Z.1.2.2.2.1.locals ∧ Z.2.2.2.2.2.2.2.1 ≤ Z.1.2.2.2.1.cells ∧ Z.2.2.2.2.2.2.2.2.1 ≤ Z.1.2.2.2.1.slots) ∧
  (∀ q, fp_A Z.2.1 q → Z.2.2.2.2.2.2.2.2.2 q) ∧ (∀ q, q < Z.1.2.2.2.2.1.heap.size → Z.2.2.2.2.2.2.2.2.2 q → fp_A Z.2.1 q)
theorem fp_C.room {Z : fp_Z} {cc : ByteArray} {own : String} {ret : Option FieldType} (h : fp_C Z cc own ret) : (fp_rm Z.2.2.2.2.2.1).frames ≤ Z.1.2.2.2.1.frames ∧ (fp_rm Z.2.2.2.2.2.1).locals ≤ Z.1.2.2.2.1.locals ∧ Z.2.2.2.2.2.2.2.1 ≤ Z.1.2.2.2.1.cells ∧ Z.2.2.2.2.2.2.2.2.1 ≤ Z.1.2.2.2.1.slots := h.2.2.2.2.2.2.2.2.1
theorem fp_C.sub {Z : fp_Z} {cc : ByteArray} {own : String} {ret : Option FieldType} (h : fp_C Z cc own ret) : ∀ q, fp_A Z.2.1 q → Z.2.2.2.2.2.2.2.2.2 q := h.2.2.2.2.2.2.2.2.2.1
theorem fp_C.D {Z : fp_Z} {cc : ByteArray} {own : String} {ret : Option FieldType} (h : fp_C Z cc own ret) (g : fp_G) : va_D Z.2.2.2.2.2.2.2.2.2 (fp_ws Z.2.1 g) := ⟨(fp_D h.2.2.2.2.2.1.2.1 g).1, fun k q hk => h.sub _ ((fp_D h.2.2.2.2.2.1.2.1 g).2 k q hk)⟩
theorem fp_C.out {Z : fp_Z} {cc : ByteArray} {own : String} {ret : Option FieldType} (h : fp_C Z cc own ret) {H : Heap} {locs : List Loc} (hS : va_S Z.2.2.2.2.2.2.2.2.2 Z.1.2.2.2.2.1.heap H locs) : ∀ a : Nat, a < Z.1.2.2.2.2.1.heap.size → ¬ fp_A Z.2.1 a → H[a]? = Z.1.2.2.2.2.1.heap[a]? := fun a ha hn => hS.2.1 a ha (fun z => hn (h.2.2.2.2.2.2.2.2.2.2 a ha z))
theorem fp_C.exec {Z : fp_Z} {cc : ByteArray} {own : String} {ret : Option FieldType} (h : fp_C Z cc own ret) : Z.1.1.tables.exec = Jvm.exec := h.1
theorem fp_C.bytes {Z : fp_Z} {cc : ByteArray} {own : String} {ret : Option FieldType} (h : fp_C Z cc own ret) : Z.1.2.2.2.2.2.2.2.2.2.code = cc := h.2.1
theorem fp_C.word {Z : fp_Z} {cc : ByteArray} {own : String} {ret : Option FieldType} (h : fp_C Z cc own ret) {w : Cond} (hw : w ∈ fp_lw) : w.before Z.1.2.2.2.2.2.2.1 Z.1.2.2.2.2.1 = true := by
  obtain ⟨b, hb⟩ := h.2.2.2.2.1
  exact hb w (List.mem_cons_of_mem _ hw)
theorem fp_C.words {Z : fp_Z} {cc : ByteArray} {own : String} {ret : Option FieldType} (h : fp_C Z cc own ret) : ∀ w ∈ fp_lw, w.before Z.1.2.2.2.2.2.2.1 Z.1.2.2.2.2.1 = true := fun _ hw => h.word hw
/-- into a method -/
theorem fp_enter {l : Launch} {E : fp_E} {y : MethodName} {bytes : ByteArray} {maxL : Nat} {ret : Option FieldType} {isV : Bool} {d : Nat} {av : List Value} {g : fp_G} {K : Int32 → fp_G → Prop}
    (hy : plainName y.cls = true) (L : List (Option Value)) (hlen : (lg_sl (av.map (fp_rv E.2.1))).length ≤ maxL) (hL : ∀ q ∈ fp_al E.2.1 0 L, q ∈ lv_args 0 (av.map (fp_rv E.2.1)))
    (body : ∀ Z : fp_Z, Z.2.1 = E → Z.1.2.1 = l → fp_V Z isV → Z.2.2.2.1 = K → Z.2.2.2.2.1 = maxL → Z.2.2.2.2.2.1 = d → fp_C Z bytes y.cls ret → WA Z 0 L [] g) : fp_M l E y bytes maxL ret isV d av g K := by
  refine Met.ofW (cc := bytes) (maxL := maxL) (ret := ret) hy rfl ?_
  intro p e s m args below meth c s₁ B hml hv
  obtain ⟨rfl, hE, hP⟩ := hv
  have hts := atoms_spec (ws := Cond.code y bytes maxL ret :: fp_lw) B.pre
  have hl := lv_entry (av.map (fp_rv E.2.1)) (n := maxL) hlen
  rw [lg_entry_eq]
  exact body ((p, l, e, (headSpec (Cond.code y bytes maxL ret :: fp_lw) (fp_rm d)).room, s, m, _, below, meth, c), E, isV, K, maxL, d, MQ below (fp_Q E isV K) (av.map (fp_rv E.2.1)).toArray s 0 0 (fp_A E), 0, 0, fp_A E) rfl rfl ⟨rfl, rfl⟩ rfl rfl rfl
    ⟨B.exec, B.bytes, hml, findClass_of_methodNamed B.named, ⟨_, hts⟩, hE, B.returns, B.notSynchronized, ⟨Nat.le_refl _, Nat.le_refl _, Nat.zero_le _, Nat.zero_le _⟩, fun _ h => h, fun _ _ h => h⟩ _ _ _ ⟨hl.1, hl.2.1, fun q hq => hl.2.2 q (hL q hq)⟩ hP va_S.rf
