/-! ===== fro ===== -/
def froS (T : Nat → Int32) : Nat → Nat → Int32
  | 0, _ => -9
  | r + 1, k => if T k = T (k + 2) ∧ T (k + 1) = T (k + 3) then nI k else froS T r (k + 1)
theorem froS_cong {T U : Nat → Int32} : ∀ (r k : Nat), (∀ i, i < k + r + 3 → T i = U i) → froS T r k = froS U r k
  | 0, _, _ => rfl
  | r + 1, k, h => by
    rw [froS, froS, h k (by omega), h (k + 1) (by omega), h (k + 2) (by omega), h (k + 3) (by omega), froS_cong r (k + 1) (fun i hi => h i (by omega))]
theorem t8_traced {x i : Int32} {g : fp_G} {K : Int32 → fp_G → Prop} {m c j : Nat} (hm : m < 60) (em : x = nI m) (hc4 : c ≤ 4000) (ec : g 49 m = nI c) (ej : i = nI j) (hj : j < c) (hj4 : j < 40) (k : K (g 51 (40 * m + j)) g) : w_X0_traced 43 x i g K := by
  have z0 : (0 : Int32).toInt = 0 := rfl
  have ei : x * 40 + i = nI (40 * m + j) := by rw [em, ej, show (40 : Int32) = nI 40 from rfl, ix_mul]
  unfold w_X0_traced
  refine ie ?_ (rd_e em (by omega) (by omega) (ie ?_ (ie ?_ (it ?_ (rd_e (k := 40 * m + j) ei ?_ (by decide) k)))))
  · rw [ej, lt_I, nI_I (by omega), z0]
    omega
  · show ¬ g 49 m ≤ i
    rw [ec, ej, le_I, nI_I (by omega), nI_I (by omega)]
    omega
  · rw [ej, show (40 : Int32) = nI 40 from rfl, le_I, nI_I (by omega), nI_I (by omega)]
    omega
  · rw [ei, show Int32.ofNat (fp_trl 43) = nI 2400 from rfl, lt_I, nI_I (by omega), nI_I (by omega)]
    omega
  · show 40 * m + j < 2400
    omega
theorem l_fro8 {x : Int32} {g : fp_G} {K : Int32 → fp_G → Prop} {m c q : Nat} (hm : m < 60) (em : x = nI m) (hc4 : c ≤ 4000) (ec : g 49 m = nI c) (hq : q = min c 40) : ∀ r k, (r = q - 3 - k) → K (froS (fun i => g 51 (40 * m + i)) r k) g → k ≤ 40 → w_X0_toAndFro_14 (r + 1) 43 x (nI q) (nI k) g K := by
  intro r
  induction r with
  | zero =>
    intro k hr h hk
    rw [w_X0_toAndFro_14]
    refine it ?_ h
    rw [show (3 : Int32) = nI 3 from rfl, nI_add, le_I, nI_I (by omega), nI_I (by omega)]
    omega
  | succ r ih =>
    intro k hr h hk
    rw [w_X0_toAndFro_14]
    rw [froS] at h
    have nx : ¬ (g 51 (40 * m + k) = g 51 (40 * m + (k + 2)) ∧ g 51 (40 * m + (k + 1)) = g 51 (40 * m + (k + 3))) → w_X0_toAndFro_14 (r + 1) 43 x (nI q) (nI k + 1) g K := by
      intro z
      rw [if_neg z] at h
      rw [show nI k + 1 = nI (k + 1) from (nI_succ k).symm]
      exact ih (k + 1) (by omega) h (by omega)
    refine ie ?_ ?_
    · rw [show (3 : Int32) = nI 3 from rfl, nI_add, le_I, nI_I (by omega), nI_I (by omega)]
      omega
    refine t8_traced hm em hc4 ec (j := k) rfl (by omega) (by omega) (t8_traced hm em hc4 ec (j := k + 2) (by rw [show (2 : Int32) = nI 2 from rfl, nI_add]) (by omega) (by omega) (j_I ?_))
    by_cases a : g 51 (40 * m + k) = g 51 (40 * m + (k + 2))
    · refine it a (j_I (ie (by decide) ?_))
      refine t8_traced hm em hc4 ec (j := k + 1) (by rw [show (1 : Int32) = nI 1 from rfl, nI_add]) (by omega) (by omega) (t8_traced hm em hc4 ec (j := k + 3) (by rw [show (3 : Int32) = nI 3 from rfl, nI_add]) (by omega) (by omega) ?_)
      by_cases b : g 51 (40 * m + (k + 1)) = g 51 (40 * m + (k + 3))
      · rw [if_pos ⟨a, b⟩] at h
        exact it b h
      · exact ie b (nx (fun z => b z.2))
    · exact ie a (j_I (it rfl (nx (fun z => a z.1))))
