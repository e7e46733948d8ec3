/-! ===== trace ===== -/
theorem ix_mul (m a j : Nat) : nI m * nI a + nI j = nI (a * m + j) := by
  rw [pk_mul, nI_add, Nat.mul_comm]
theorem c_trace {x i : Int32} {g : fp_G} {P : Int32 → Int32 → fp_G → Prop} {n : Nat} (hn : n ≤ 60) (h5 : g 37 5 = nI n) (hk5 : g 67 42 = nI n) (e99 : g 99 = g 49) (hc : ∀ m, m < n → ∃ c, c ≤ 4000 ∧ g 49 m = nI c) (ht : ∀ m c j, m < n → g 49 m = nI c → c ≤ 4000 → j < c → j < 40 → g 100 (40 * m + j) = g 51 (40 * m + j))
    (ok : ∀ r, P r r g) (no' : ∀ r k, P r r (refG g k)) : w_X8_trace x i g (fun r g1 => w_X9_trace x i g1 (fun r2 g2 => P r r2 g2)) := by
  unfold w_X8_trace
  by_cases hm : inN x n
  · refine ht_X1_has hn h5 hm (ie (by decide) ?_)
    have hm2 := hm
    obtain ⟨m, hm2, em⟩ := hm2
    obtain ⟨c, hc4, ec⟩ := hc m hm2
    have mt : ∀ {K : Int32 → fp_G → Prop}, K (nI (min c 40)) g → w_X9_traced x g K := by
      intro K k
      unfold w_X9_traced
      refine rd_e em (by omega) (by omega) ?_
      rw [e99, ec]
      by_cases z : 40 ≤ c
      · refine it ?_ ?_
        · rw [show (40 : Int32) = nI 40 from rfl, le_I, nI_I (by omega), nI_I (by omega)]
          omega
        · rw [show (40 : Int32) = nI (min c 40) by rw [show min c 40 = 40 by omega]; rfl]
          exact k
      · refine ie ?_ (rd_e em (by omega) (by omega) ?_)
        · rw [show (40 : Int32) = nI 40 from rfl, le_I, nI_I (by omega), nI_I (by omega)]
          omega
        · rw [ec, show nI c = nI (min c 40) by rw [show min c 40 = c by omega]]
          exact k
    have hI : (((nI (min c 40)) - 1 : Int32).toInt64).toInt = ((min c 40 : Nat) : Int) - 1 := pred_I (by omega)
    have z0 : (0 : Int32).toInt = 0 := rfl
    unfold w_X0_traced
    by_cases hi : inN i (min c 40)
    · have hb : bi (0 ≤ i.toInt ∧ i.toInt ≤ ((min c 40 : Nat) : Int) - 1) = 1 := bi_t ((in_I (by omega)).mp hi)
      obtain ⟨j, hj, ej⟩ := hi
      have ei : x * 40 + i = nI (40 * m + j) := by rw [em, ej, show (40 : Int32) = nI 40 from rfl, ix_mul]
      have ei2 : 40 * x + i = nI (40 * m + j) := by rw [em, ej, show (40 : Int32) = nI 40 from rfl, pk_mul, nI_add]
      refine ie ?_ (rd_e em (by omega) (by omega) (ie ?_ (ie ?_ (it ?_ (rd_e (k := 40 * m + j) ei ?_ (by decide) ?_)))))
      · rw [ej, lt_I, nI_I (by omega), z0]
        omega
      · show ¬ g 49 m ≤ i
        rw [ec, ej, le_I, nI_I (by omega), nI_I (by omega)]
        omega
      · rw [ej, show (40 : Int32) = nI 40 from rfl, le_I, nI_I (by omega), nI_I (by omega)]
        omega
      · rw [ei, show Int32.ofNat (fp_trl 43) = nI 2400 from rfl, lt_I, nI_I (by omega), nI_I (by omega)]
        omega
      · show 40 * m + j < 2400
        omega
      · unfold w_X9_trace
        refine ht_X9_isMail hn hk5 hm (ie (by decide) (mt (e_isIn (l := 0) (h := ((min c 40 : Nat) : Int) - 1) rfl hI ?_)))
        rw [hb]
        refine ie (by decide) (rd_e ei2 (by omega) (by omega) ?_)
        rw [ht m c j hm2 ec hc4 (by omega) (by omega)]
        exact ok _
    · have hb : bi (0 ≤ i.toInt ∧ i.toInt ≤ ((min c 40 : Nat) : Int) - 1) = 0 := bi_f (fun z => hi ((in_I (by omega)).mpr z))
      have none9 : w_X9_trace x i g (fun r2 g2 => P (-9) r2 g2) := by
        unfold w_X9_trace
        refine ht_X9_isMail hn hk5 hm (ie (by decide) (mt (e_isIn (l := 0) (h := ((min c 40 : Nat) : Int) - 1) rfl hI ?_)))
        rw [hb]
        exact it rfl (ok _)
      refine is (fun _ => none9) (fun c1 => rd_e em (by omega) (by omega) (is (fun _ => none9) (fun c2 => is (fun _ => none9) (fun c3 => ?_))))
      have c2 : ¬ g 49 m ≤ i := c2
      rw [ec, le_I, nI_I (by omega)] at c2
      rw [show (40 : Int32) = nI 40 from rfl, le_I, nI_I (by omega)] at c3
      rw [lt_I, z0] at c1
      exact absurd ((in_I (by omega)).mpr ⟨by omega, by omega⟩) hi
  · refine hf_X1_has hn h5 hm (it rfl (e_refuse (k := 1) rfl (by decide) ?_))
    unfold w_X9_trace
    exact hf_X9_isMail hn hk5 hm (it rfl (e_no (k := 1) rfl (by decide) (no' _ 1)))
