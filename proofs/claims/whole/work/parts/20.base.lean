/-! ===== the state of class and reference: cell → place → int; the words of the walks' predicates ===== -/
abbrev fp_G : Type := Nat → Nat → Int32
def gu (g : fp_G) (k i : Nat) (x : Int32) : fp_G := fun k' i' => if k' = k ∧ i' = i then x else g k' i'
def gc (g : fp_G) (k : Nat) (f : Nat → Int32) : fp_G := fun k' => if k' = k then f else g k'
def tn (i : Int32) : Nat := i.toNatClampNeg
/-- a read: the place lies within, and P of what stands there -/
def fp_rd (f : Nat → Int32) (n : Nat) (i : Int32) (P : Int32 → Prop) : Prop := vp_in i n ∧ P (f (tn i))
/-- a store into a row -/
def fp_wr (g : fp_G) (q n : Nat) (i x : Int32) (P : fp_G → Prop) : Prop := vp_in i n ∧ P (gu g q (tn i) x)
/-- a store into a field of type int; of type char -/
def fp_pf (g : fp_G) (q k : Nat) (x : Int32) (P : fp_G → Prop) : Prop := P (gu g q k x)
def fp_pc (g : fp_G) (q k : Nat) (x : Int32) (P : fp_G → Prop) : Prop := (narrow .char (.int x) = .int x ∧ fits .char (.int x) = true) ∧ P (gu g q k x)
/-- a division -/
def fp_dv (y : Int32) (P : Prop) : Prop := ¬ y = 0 ∧ P
/-- an answer of a small type -/
def fp_bz (ty : FieldType) (v : Int32) (P : Prop) : Prop := narrow ty (.int v) = .int v ∧ P
/-- a place where ways meet -/
def fp_j {α : Sort _} (J : α) (P : α → Prop) : Prop := P J
/-- System.arraycopy -/
def fp_cp (ty : FieldType) (g : fp_G) (q0 n0 q1 n1 : Nat) (sp dp n : Int32) (P : fp_G → Prop) : Prop :=
  (¬ sp < 0 ∧ ¬ dp < 0 ∧ ¬ n < 0 ∧ tn sp + tn n ≤ n0 ∧ tn dp + tn n ≤ n1 ∧ ∀ i, i < tn n → fits ty (.int (g q0 (tn sp + i))) = true) ∧ P (gc g q1 (va_cpy (g q0) (g q1) (tn sp) (tn dp) (tn n)))
/-- where a byte stands in a row of bytes; String.indexOf of the class's two constants -/
def fp_ixf (c : Int32) : List Int32 → Int32 → Int32
  | [], _ => -1
  | b :: l, k => if b = c then k else fp_ixf c l (k + 1)
def fp_str (i : Nat) : List Int32 := ([[107, 119, 97, 104, 115, 117, 111, 98, 99], [60, 61, 62]] : List (List Int32)).getD i []
def fp_len (i : Nat) : Nat := ([9, 3] : List Nat).getD i 0
def fp_rs (i : Nat) (k : Int32) (P : Int32 → Prop) : Prop := vp_in k (fp_len i) ∧ P ((fp_str i).getD (tn k) 0)
def fp_ix (i : Nat) (c : Int32) (P : Int32 → Prop) : Prop := P (fp_ixf c (fp_str i) 0)
