/-! ===== the law's own walk: its script beside the cells, its end ===== -/
def fp_LV (Z : fp_Z) (N : Nat) (xs : Nat → Int32) : Prop :=
  ∃ b, Z.1.2.2.2.2.2.2.1 = #[.ref b] ∧ Z.1.2.2.2.1 = room_1 ∧ Z.2.2.2.2.2.2 = (lw_Z Z.1.2.2.2.2.2.2.2.1 #[.ref b] Z.1.2.2.2.2.1, 600000, 7302250, fun q => Z.1.2.2.2.2.1.heap.size ≤ q) ∧ Z.2.2.2.1 = (fun r _ => r = 1) ∧ Z.2.1.2.1 (fp_NC + 4) = b ∧
    va_X b N xs Z.1.2.2.2.2.1 Z.1.2.2.2.2.1.heap ∧ b < Z.1.2.2.2.2.1.heap.size
section
variable {Z : fp_Z} {cc : ByteArray} {own : String} {ret : Option FieldType} {pc : Nat} {L : List (Option Value)} {S : List Value} {g : fp_G} {N : Nat} {xs : Nat → Int32}
theorem wa_sld (C : fp_C Z cc own ret) (hv : fp_LV Z N xs) {i : Int32} {P : Int32 → Prop} (hd : decode cc pc = .ok (.iaload, 1)) (h : fp_rd xs N i P) (k : ∀ v, P v → WA Z (pc + 1) L (.int v :: S) g) : WA Z pc L (.int i :: .ref (fp_NC + 4) :: S) g := by
  obtain ⟨b, h1, h2, h3, h4, h5, h6, h7⟩ := hv
  intro ls H locs hl hP hS
  have hS2 : va_S (fun q => Z.1.2.2.2.2.1.heap.size ≤ q) Z.1.2.2.2.2.1.heap H locs := by
    have := hS
    rw [h3] at this
    exact this
  show W _ _ _ _ _ _ _ _ _ _ H locs _ _ _ (F0 _ pc ls (.int i :: .ref (Z.2.1.2.1 (fp_NC + 4)) :: S.map (fp_rv Z.2.1.2.1)))
  rw [h5]
  exact va_sld C.exec C.bytes h6 h7 (Nat.not_le.mpr h7) hS2 h.1 hd (k _ h.2 ls H locs hl hP hS)
theorem wa_slen (C : fp_C Z cc own ret) (hv : fp_LV Z N xs) (hd : decode cc pc = .ok (.arraylength, 1)) (k : WA Z (pc + 1) L (.int (Int32.ofNat N) :: S) g) : WA Z pc L (.ref (fp_NC + 4) :: S) g := by
  obtain ⟨b, h1, h2, h3, h4, h5, h6, h7⟩ := hv
  intro ls H locs hl hP hS
  have hS2 : va_S (fun q => Z.1.2.2.2.2.1.heap.size ≤ q) Z.1.2.2.2.2.1.heap H locs := by
    have := hS
    rw [h3] at this
    exact this
  show W _ _ _ _ _ _ _ _ _ _ H locs _ _ _ (F0 _ pc ls (.ref (Z.2.1.2.1 (fp_NC + 4)) :: S.map (fp_rv Z.2.1.2.1)))
  rw [h5]
  exact va_slen C.exec C.bytes h6 h7 (Nat.not_le.mpr h7) hS2 hd (k ls H locs hl hP hS)
theorem wa_lret (C : fp_C Z cL_law RL (some .boolean)) (hv : fp_LV Z N xs) {x : Int32} (hd : decode cL_law pc = .ok (.ireturn, 1)) (h : Z.2.2.2.1 x g) : WA Z pc L [.int x] g := by
  obtain ⟨b, h1, h2, h3, h4, h5, h6, h7⟩ := hv
  rw [h4] at h
  have h : x = 1 := h
  subst h
  intro ls H locs hl hP hS
  have hS2 : va_S (fun q => Z.1.2.2.2.2.1.heap.size ≤ q) Z.1.2.2.2.2.1.heap H locs := by
    have := hS
    rw [h3] at this
    exact this
  rw [h1, h2, h3]
  refine va_forget (fun q hq => hS2.2.2 q hq) ?_
  exact lw_ret C.exec C.bytes C.2.2.2.2.2.2.1 C.2.2.2.2.2.2.2.1 hd
end
