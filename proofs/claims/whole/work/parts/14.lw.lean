/-! ===== the words of the tables that every walk carries along ===== -/
/-- the words that every method here carries along -/
def fp_lw : List Cond := lw_tbl.filter goodWord
theorem fp_mem {w : Cond} (i : Nat) (h : lw_tbl[i]? = some w) (hg : goodWord w = true) : w ∈ fp_lw := List.mem_filter.mpr ⟨List.mem_of_getElem? h, hg⟩
theorem fp_good {c : Cond} (hc : c ∈ fp_lw) (b : Cond) : GoodIn (b :: fp_lw) (c :: fp_lw) := by
  intro w hw
  have : w ∈ fp_lw := by
    rcases List.mem_cons.mp hw with h | h
    · rw [h]; exact hc
    · exact h
  exact ⟨List.mem_cons_of_mem _ this, good_of_word (List.mem_filter.mp this).2⟩
/-- what a call rests on: y's code and its link at this place -/
def fp_site (own : String) (idx : Nat) (y : MethodName) (bytes : ByteArray) (maxL : Nat) (ret : Option FieldType) (n : Nat) : Prop :=
  Cond.code y bytes maxL ret ∈ fp_lw ∧ Cond.methodLink own idx y ∈ fp_lw ∧ Cond.initialized y.cls ∈ fp_lw ∧ maxL ≤ 41 ∧ (y.cls ≠ "java/lang/invoke/MethodHandle" ∧ y.cls ≠ "java/lang/invoke/VarHandle" ∧ (parseMethodDescriptor y.desc).map (fun d => d.parameters.length) = some n)
def fp_siteM (own : String) (idx : Nat) (y : MethodName) (code : ByteArray) : Prop := Cond.methodLink own idx y ∈ fp_lw ∧ Cond.static y ∈ fp_lw ∧ Cond.initialized "java/lang/Math" ∈ fp_lw ∧ Cond.code y code 2 (some .int) ∈ fp_lw
def fp_siteA (own : String) (idx : Nat) : Prop := Cond.methodLink own idx arraycopyName ∈ fp_lw ∧ Cond.native arraycopyName ∈ fp_lw ∧ Cond.static arraycopyName ∈ fp_lw ∧ Cond.initialized "java/lang/System" ∈ fp_lw
