/-! ===== fro ===== -/
def froS (T : Nat → Int32) : Nat → Nat → Int32
  | 0, _ => -9
  | r + 1, k => if T k = T (k + 2) ∧ T (k + 1) = T (k + 3) then nI k else froS T r (k + 1)
theorem froS_cong {T U : Nat → Int32} : ∀ (r k : Nat), (∀ i, i < k + r + 3 → T i = U i) → froS T r k = froS U r k
  | 0, _, _ => rfl
  | r + 1, k, h => by
    rw [froS, froS, h k (by omega), h (k + 1) (by omega), h (k + 2) (by omega), h (k + 3) (by omega), froS_cong r (k + 1) (fun i hi => h i (by omega))]
theorem t8_traced {x i : Int32} {g : fp_G} {K : Int32 → fp_G → Prop} {m c j : Nat} (hm : m < 60) (em : x = nI m) (hc4 : c ≤ 4000) (ec : g 49 m = nI c) (ej : i = nI j) (hj : j < c) (hj4 : j < 40) (k : K (g 51 (40 * m + j)) g) : w_X0_traced 43 x i g K := by
  have z0 : (0 : Int32).toInt = 0 := rfl
  have ei : x * 40 + i = nI (40 * m + j) := by rw [em, ej, show (40 : Int32) = nI 40 from rfl, ix_mul]
  unfold w_X0_traced
  refine ie ?_ (rd_e em (by omega) (by omega) (ie ?_ (ie ?_ (it ?_ (rd_e (k := 40 * m + j) ei ?_ (by decide) k)))))
  · rw [ej, lt_I, nI_I (by omega), z0]
    omega
  · show ¬ g 49 m ≤ i
    rw [ec, ej, le_I, nI_I (by omega), nI_I (by omega)]
    omega
  · rw [ej, show (40 : Int32) = nI 40 from rfl, le_I, nI_I (by omega), nI_I (by omega)]
    omega
  · rw [ei, show Int32.ofNat (fp_trl 43) = nI 2400 from rfl, lt_I, nI_I (by omega), nI_I (by omega)]
    omega
  · show 40 * m + j < 2400
    omega
theorem l_fro8 {x : Int32} {g : fp_G} {K : Int32 → fp_G → Prop} {m c q : Nat} (hm : m < 60) (em : x = nI m) (hc4 : c ≤ 4000) (ec : g 49 m = nI c) (hq : q = min c 40) : ∀ r k, (r = q - 3 - k) → K (froS (fun i => g 51 (40 * m + i)) r k) g → k ≤ 40 → w_X0_toAndFro_14 (r + 1) 43 x (nI q) (nI k) g K := by
  intro r
  induction r with
  | zero =>
    intro k hr h hk
    rw [w_X0_toAndFro_14]
    refine it ?_ h
    rw [show (3 : Int32) = nI 3 from rfl, nI_add, le_I, nI_I (by omega), nI_I (by omega)]
    omega
  | succ r ih =>
    intro k hr h hk
    rw [w_X0_toAndFro_14]
    rw [froS] at h
    have nx : ¬ (g 51 (40 * m + k) = g 51 (40 * m + (k + 2)) ∧ g 51 (40 * m + (k + 1)) = g 51 (40 * m + (k + 3))) → w_X0_toAndFro_14 (r + 1) 43 x (nI q) (nI k + 1) g K := by
      intro z
      rw [if_neg z] at h
      rw [show nI k + 1 = nI (k + 1) from (nI_succ k).symm]
      exact ih (k + 1) (by omega) h (by omega)
    refine ie ?_ ?_
    · rw [show (3 : Int32) = nI 3 from rfl, nI_add, le_I, nI_I (by omega), nI_I (by omega)]
      omega
    refine t8_traced hm em hc4 ec (j := k) rfl (by omega) (by omega) (t8_traced hm em hc4 ec (j := k + 2) (by rw [show (2 : Int32) = nI 2 from rfl, nI_add]) (by omega) (by omega) (j_I ?_))
    by_cases a : g 51 (40 * m + k) = g 51 (40 * m + (k + 2))
    · refine it a (j_I (ie (by decide) ?_))
      refine t8_traced hm em hc4 ec (j := k + 1) (by rw [show (1 : Int32) = nI 1 from rfl, nI_add]) (by omega) (by omega) (t8_traced hm em hc4 ec (j := k + 3) (by rw [show (3 : Int32) = nI 3 from rfl, nI_add]) (by omega) (by omega) ?_)
      by_cases b : g 51 (40 * m + (k + 1)) = g 51 (40 * m + (k + 3))
      · rw [if_pos ⟨a, b⟩] at h
        exact it b h
      · exact ie b (nx (fun z => b z.2))
    · exact ie a (j_I (it rfl (nx (fun z => a z.1))))
theorem t9_traced {x : Int32} {g : fp_G} {K : Int32 → fp_G → Prop} {m c : Nat} (hm : m < 60) (em : x = nI m) (hc4 : c ≤ 4000) (ec : g 99 m = nI c) (k : K (nI (min c 40)) g) : w_X9_traced x g K := by
  unfold w_X9_traced
  refine rd_e em (by omega) (by omega) ?_
  rw [ec]
  by_cases z : 40 ≤ c
  · refine it ?_ ?_
    · rw [show (40 : Int32) = nI 40 from rfl, le_I, nI_I (by omega), nI_I (by omega)]
      omega
    · rw [show (40 : Int32) = nI (min c 40) by rw [show min c 40 = 40 by omega]; rfl]
      exact k
  · refine ie ?_ (rd_e em (by omega) (by omega) ?_)
    · rw [show (40 : Int32) = nI 40 from rfl, le_I, nI_I (by omega), nI_I (by omega)]
      omega
    · rw [ec, show nI c = nI (min c 40) by rw [show min c 40 = c by omega]]
      exact k
theorem l_fro9 {x : Int32} {g : fp_G} {K : Int32 → fp_G → Prop} {m c q : Nat} (hm : m < 60) (em : x = nI m) (hc4 : c ≤ 4000) (ec : g 99 m = nI c) (hq : q = min c 40) : ∀ r k, (r = q - 3 - k) → K (froS (fun i => g 100 (40 * m + i)) r k) g → k ≤ 40 → w_X9_fro_16 (r + 1) x (nI k) g K := by
  intro r
  induction r with
  | zero =>
    intro k hr h hk
    rw [w_X9_fro_16]
    refine t9_traced hm em hc4 ec (it ?_ h)
    rw [← hq, show (3 : Int32) = nI 3 from rfl, nI_add, le_I, nI_I (by omega), nI_I (by omega)]
    omega
  | succ r ih =>
    intro k hr h hk
    rw [w_X9_fro_16]
    rw [froS] at h
    have nx : ¬ (g 100 (40 * m + k) = g 100 (40 * m + (k + 2)) ∧ g 100 (40 * m + (k + 1)) = g 100 (40 * m + (k + 3))) → w_X9_fro_16 (r + 1) x (nI k + 1) g K := by
      intro z
      rw [if_neg z] at h
      rw [show nI k + 1 = nI (k + 1) from (nI_succ k).symm]
      exact ih (k + 1) (by omega) h (by omega)
    have e0 : 40 * x + nI k = nI (40 * m + k) := by rw [em, show (40 : Int32) = nI 40 from rfl, pk_mul, nI_add]
    refine t9_traced hm em hc4 ec (ie ?_ ?_)
    · rw [← hq, show (3 : Int32) = nI 3 from rfl, nI_add, le_I, nI_I (by omega), nI_I (by omega)]
      omega
    refine rd_e e0 (by omega) (by omega) (rd_e (k := 40 * m + (k + 2)) (by rw [e0, show (2 : Int32) = nI 2 from rfl, nI_add, Nat.add_assoc]) (by omega) (by omega) (j_I ?_))
    by_cases a : g 100 (40 * m + k) = g 100 (40 * m + (k + 2))
    · refine it a (rd_e (k := 40 * m + (k + 1)) (by rw [e0, show (1 : Int32) = nI 1 from rfl, nI_add, Nat.add_assoc]) (by omega) (by omega) (rd_e (k := 40 * m + (k + 3)) (by rw [e0, show (3 : Int32) = nI 3 from rfl, nI_add, Nat.add_assoc]) (by omega) (by omega) ?_))
      by_cases b : g 100 (40 * m + (k + 1)) = g 100 (40 * m + (k + 3))
      · rw [if_pos ⟨a, b⟩] at h
        exact it b h
      · exact ie b (nx (fun z => b z.2))
    · exact ie a (nx (fun z => a z.1))
theorem c_fro {x : Int32} {g : fp_G} {P : Int32 → Int32 → fp_G → Prop} {n : Nat} (hn : n ≤ 60) (h5 : g 37 5 = nI n) (hk5 : g 67 42 = nI n) (e99 : g 99 = g 49) (hc : ∀ m, m < n → ∃ c, c ≤ 4000 ∧ g 49 m = nI c) (ht : ∀ m c j, m < n → g 49 m = nI c → c ≤ 4000 → j < c → j < 40 → g 100 (40 * m + j) = g 51 (40 * m + j))
    (ok : ∀ r, P r r g) (no' : ∀ r k, P r r (refG g k)) : w_X8_fro x g (fun r g1 => w_X9_fro x g1 (fun r2 g2 => P r r2 g2)) := by
  unfold w_X8_fro
  by_cases hm : inN x n
  · refine ht_X1_has hn h5 hm (ie (by decide) ?_)
    have hm2 := hm
    obtain ⟨m, hm2, em⟩ := hm2
    obtain ⟨c, hc4, ec⟩ := hc m hm2
    unfold w_X0_toAndFro
    refine rd_e em (by omega) (by omega) ?_
    have eq : (if (40 : Int32) < g 49 m then 40 else g 49 m) = nI (min c 40) := by
      rw [ec]
      by_cases z : 40 < c
      · rw [if_pos (by rw [show (40 : Int32) = nI 40 from rfl, lt_I, nI_I (by omega), nI_I (by omega)]; omega), show min c 40 = 40 by omega]
        rfl
      · rw [if_neg (by rw [show (40 : Int32) = nI 40 from rfl, lt_I, nI_I (by omega), nI_I (by omega)]; omega), show min c 40 = c by omega]
    show ∃ n14, w_X0_toAndFro_14 n14 43 x (if (40 : Int32) < g 49 m then 40 else g 49 m) 0 g _
    rw [eq]
    refine ⟨min c 40 - 3 - 0 + 1, l_fro8 (by omega) em hc4 ec rfl (min c 40 - 3 - 0) 0 rfl ?_ (by omega)⟩
    unfold w_X9_fro
    refine ht_X9_isMail hn hk5 hm (ie (by decide) ⟨min c 40 - 3 - 0 + 1, l_fro9 (by omega) em hc4 (by rw [e99]; exact ec) rfl (min c 40 - 3 - 0) 0 rfl ?_ (by omega)⟩)
    by_cases z : 3 ≤ min c 40
    · rw [froS_cong (T := fun i => g 100 (40 * m + i)) (U := fun i => g 51 (40 * m + i)) _ _ (fun i hi => ht m c i hm2 ec hc4 (by omega) (by omega))]
      exact ok _
    · rw [show min c 40 - 3 - 0 = 0 by omega]
      exact ok _
  · refine hf_X1_has hn h5 hm (it rfl (e_refuse (k := 1) rfl (by decide) ?_))
    unfold w_X9_fro
    exact hf_X9_isMail hn hk5 hm (it rfl (e_no (k := 1) rfl (by decide) (no' _ 1)))
