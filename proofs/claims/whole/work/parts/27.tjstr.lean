/-! ===== String.indexOf over the class's two constants ===== -/
theorem fp_ixf_none {c : Int32} : ∀ (l : List Int32) (k : Int32), (∀ b ∈ l, ¬ b = c) → fp_ixf c l k = -1
  | [], _, _ => rfl
  | b :: l, k, h => by
    rw [fp_ixf, if_neg (h b List.mem_cons_self)]
    exact fp_ixf_none l (k + 1) (fun x hx => h x (List.mem_cons_of_mem _ hx))
theorem st_byte : ∀ q, q < 2 → ∀ m, m < 256 → ∀ b ∈ fp_str q, (b = (nI m).toInt8.toInt32 ↔ b = nI m) := by decide +kernel
theorem st_out : ∀ q, q < 2 → ∀ b ∈ fp_str q, 0 ≤ b ∧ b ≤ 255 := by decide +kernel
theorem st_len : ∀ q, q < 2 → (fp_str q).length = fp_len q ∧ 0 < fp_len q ∧ fp_len q < 10 := by decide +kernel
theorem s_J0_coder {q : Nat} {g : fp_G} {K : Int32 → fp_G → Prop} (hK : K 0 g) : w_J0_coder_7d493 q g K := by
  unfold w_J0_coder_7d493
  rw [if_neg (by decide)]
  exact hK
theorem s_J0_isLatin1 {q : Nat} {g : fp_G} {K : Int32 → fp_G → Prop} (hK : K 1 g) : w_J0_isLatin1_aae02 q g K := by
  unfold w_J0_isLatin1_aae02 fp_j
  dsimp only
  rw [if_neg (by decide), if_pos rfl]
  exact hK
theorem s_J0_length {q : Nat} (hq : q < 2) {g : fp_G} {K : Int32 → fp_G → Prop} (hK : K (nI (fp_len q)) g) : w_J0_length_8abf5 q g K := by
  unfold w_J0_length_8abf5
  refine s_J0_coder ?_
  have e : ∀ q, q < 2 → (Int32.ofNat (fp_len q)) >>> ((0 : Int32) &&& 31) = nI (fp_len q) := by decide +kernel
  rw [e q hq]
  exact hK
theorem s_J1_ixLoop {q : Nat} (hq : q < 2) {m : Nat} (hm : m < 256) {g : fp_G} {K : Int32 → fp_G → Prop} : ∀ (l : List Int32) (k : Nat), k ≤ fp_len q → (fp_str q).drop k = l → K (fp_ixf (nI m) l (nI k)) g → ∃ n, w_J1_indexOfChar_4cfef_7 n q (nI (fp_len q)) (nI m).toInt8.toInt32 (nI k) g K
  | [], k, hk0, e, h => by
    obtain ⟨h1, h2, h3⟩ := st_len q hq
    have hk : (fp_str q).length ≤ k := List.drop_eq_nil_iff.mp e
    refine ⟨1, ?_⟩
    rw [w_J1_indexOfChar_4cfef_7, if_pos (nI_le (by omega) (by omega))]
    exact h
  | b :: l, k, hk0, e, h => by
    obtain ⟨h1, h2, h3⟩ := st_len q hq
    have hk : k < (fp_str q).length := by
      rcases Nat.lt_or_ge k (fp_str q).length with z | z
      · exact z
      · rw [List.drop_eq_nil_iff.mpr z] at e; cases e
    have hg : (fp_str q).getD k 0 = b := by
      have := List.drop_eq_getElem_cons hk
      rw [this] at e
      have := (List.cons.inj e).1
      rw [List.getD_eq_getElem?_getD, List.getElem?_eq_getElem hk]
      exact this
    have hl : (fp_str q).drop (k + 1) = l := by
      have := List.drop_eq_getElem_cons hk
      rw [this] at e
      exact (List.cons.inj e).2
    have hb : b ∈ fp_str q := by
      have : b ∈ (fp_str q).drop k := by rw [e]; exact List.mem_cons_self
      exact List.mem_of_mem_drop this
    rw [fp_ixf] at h
    have hkk : tn (nI k) = k := nI_clamp (by omega)
    by_cases hc : b = nI m
    · rw [if_pos hc] at h
      refine ⟨1, ?_⟩
      rw [w_J1_indexOfChar_4cfef_7, if_neg (nI_ge (by omega) (by omega))]
      refine ⟨vp_in_nI (by omega) (by omega), ?_⟩
      rw [hkk, hg]
      dsimp only
      rw [if_pos ((st_byte q hq m hm b hb).mpr hc)]
      exact h
    · rw [if_neg hc] at h
      rw [← nI_succ] at h
      obtain ⟨n, hn⟩ := s_J1_ixLoop hq hm l (k + 1) (by omega) hl h
      refine ⟨n + 1, ?_⟩
      rw [w_J1_indexOfChar_4cfef_7, if_neg (nI_ge (by omega) (by omega))]
      refine ⟨vp_in_nI (by omega) (by omega), ?_⟩
      rw [hkk, hg]
      dsimp only
      rw [if_neg (fun z => hc ((st_byte q hq m hm b hb).mp z)), ← nI_succ]
      exact hn
theorem s_J0_indexOf {q : Nat} (hq : q < 2) {c : Int32} {g : fp_G} {K : Int32 → fp_G → Prop} (hK : K (fp_ixf c (fp_str q) 0) g) : w_J0_indexOf_0f7a4 q c g K := by
  obtain ⟨h1, h2, h3⟩ := st_len q hq
  unfold w_J0_indexOf_0f7a4 w_J0_indexOf_7cf53
  refine s_J0_isLatin1 ?_
  rw [if_neg (by decide)]
  refine s_J0_length hq ?_
  unfold w_J1_indexOf_4cfef w_J1_canEncode_9a6ad fp_j
  dsimp only
  have out : (c < 0 ∨ 255 < c) → K (-1) g := by
    intro z
    rw [fp_ixf_none] at hK
    · exact hK
    · intro b hb e
      obtain ⟨g1, g2⟩ := st_out q hq b hb
      rw [e] at g1 g2
      rcases z with z | z
      · exact absurd g1 (Int32.not_le.mpr z)
      · exact absurd g2 (Int32.not_le.mpr z)
  by_cases c1 : c < 0
  · rw [if_pos c1, if_pos rfl]
    exact out (Or.inl c1)
  · rw [if_neg c1]
    by_cases c2 : 255 < c
    · rw [if_pos c2, if_pos rfl]
      exact out (Or.inr c2)
    · rw [if_neg c2, if_neg (by decide), if_neg (show ¬ (0 : Int32) < 0 by decide)]
      have e : (if Int32.ofNat (fp_len q) < nI (fp_len q) then Int32.ofNat (fp_len q) else nI (fp_len q)) = nI (fp_len q) := by
        by_cases z : Int32.ofNat (fp_len q) < nI (fp_len q)
        · rw [if_pos z]; rfl
        · rw [if_neg z]
      rw [e, if_pos (show (0 : Int32) < nI (fp_len q) from nI_lt h2 (by omega))]
      obtain ⟨m, hm, rfl⟩ := nI_of c1
      have h256 : m < 256 := by
        rcases Nat.lt_or_ge m 256 with z | z
        · exact z
        · exact absurd (nI_lt (a := 255) (b := m) (by omega) hm) c2
      exact s_J1_ixLoop hq h256 (fp_str q) 0 (Nat.zero_le _) rfl hK
