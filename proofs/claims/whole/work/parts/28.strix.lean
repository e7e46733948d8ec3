/-! ===== String.indexOf of a constant, as the class calls it ===== -/
theorem wa_ix {Z : fp_Z} {cc : ByteArray} {own : String} {ret : Option FieldType} {pc : Nat} {L : List (Option Value)} {S : List Value} {g : fp_G} (C : fp_C Z cc own ret) {vb : Bool} (hv : fp_V Z vb) {q i : Nat} {c : Int32} {P : Int32 → Prop} (hq : q < 2)
    (hsite : fp_site own i yJ0_indexOf_0f7a4 cJ0_indexOf_0f7a4 2 (Option.some Jvm.ClassFile.FieldType.int) 1) (hinst : Cond.instanceMethod yJ0_indexOf_0f7a4 ∈ fp_lw) (hsel : Cond.selects RJ0 yJ0_indexOf_0f7a4 yJ0_indexOf_0f7a4 ∈ fp_lw)
    (hd : decode cc pc = .ok (.invokevirtual i, 3)) (hdp : 6 < Z.2.2.2.2.2.1) (hW : (S.map fun v => v.category).sum ≤ 8) (h : fp_ix q c P) (k : ∀ v, P v → WA Z (pc + 3) L (.int v :: S) g) : WA Z pc L (.int c :: .ref (fp_NC + q) :: S) g := by
  refine wa_callTi C hv hq rfl hsite hinst hsel hd (P := fun r g2 => r = fp_ixf c (fp_str q) 0 ∧ g2 = g) (ok_J0_indexOf_0f7a4 hq (s_J0_indexOf hq ⟨rfl, rfl⟩)) rfl rfl hW (Nat.lt_of_le_of_lt (by decide) hdp) (fun r g2 h2 => ?_)
  rw [h2.1, h2.2]
  exact k _ h
