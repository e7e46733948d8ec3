/-! ===== calls that only ask: waiting, paid, mailOf ===== -/
theorem c_waiting {x : Int32} {g : fp_G} {P : Int32 → Int32 → fp_G → Prop} {n no : Nat} (hn : n ≤ 60) (hno : no ≤ 12) (h6 : g 6 3 = nI no) (hk6 : g 67 12 = nI no) (h5 : g 37 5 = nI n) (hk5 : g 67 42 = nI n) (e1 : g 95 = g 44) (e2 : g 96 = g 45) (ok : ∀ r, P r r g) (no' : ∀ r k, P r r (refG g k)) : w_X8_waiting x g (fun r g1 => w_X9_waiting x g1 (fun r2 g2 => P r r2 g2)) := by
  unfold w_X8_waiting
  by_cases ho : inN x no
  · refine ht_X2_hasOffice hno h6 ho (ie (by decide) ⟨n + 1, ?_⟩)
    refine l_X8_waiting_21 hn h5 ?_ n 0 (by omega)
    unfold w_X9_waiting
    refine ht_X9_isOffice hno hk6 ho (ie (by decide) ⟨n + 1, l_X9_waiting_18 hn hk5 ?_ n 0 (by omega)⟩)
    rw [e1, e2]
    exact ok _
  · refine hf_X2_hasOffice hno h6 ho (it rfl (e_refuse (k := 1) rfl (by decide) ?_))
    unfold w_X9_waiting
    exact hf_X9_isOffice hno hk6 ho (it rfl (e_no (k := 1) rfl (by decide) (no' _ 1)))
theorem c_paid {x : Int32} {g : fp_G} {P : Int32 → Int32 → fp_G → Prop} {n no : Nat} (hn : n ≤ 60) (hno : no ≤ 40) (h6 : g 18 7 = nI no) (hk6 : g 67 27 = nI no) (h5 : g 37 5 = nI n) (hk5 : g 67 42 = nI n) (e1 : g 93 = g 40) (e2 : g 90 = g 38) (e3 : g 95 = g 44) (e4 : g 94 = g 41) (ok : ∀ r, P r r g) (no' : ∀ r k, P r r (refG g k)) : w_X8_paid x g (fun r g1 => w_X9_paid x g1 (fun r2 g2 => P r r2 g2)) := by
  unfold w_X8_paid
  by_cases ho : inN x no
  · refine ht_X6_hasMan hno h6 ho (ie (by decide) ⟨n + 1, ?_⟩)
    refine l_X8_paid_21 hn h5 ?_ n 0 (by omega)
    unfold w_X9_paid
    refine ht_X9_isMan hno hk6 ho (ie (by decide) ⟨n + 1, l_X9_paid_18 hn hk5 ?_ n 0 (by omega)⟩)
    rw [e1, e2, e3, e4]
    exact ok _
  · refine hf_X6_hasMan hno h6 ho (it rfl (e_refuse (k := 1) rfl (by decide) ?_))
    unfold w_X9_paid
    exact hf_X9_isMan hno hk6 ho (it rfl (e_no (k := 1) rfl (by decide) (no' _ 1)))
theorem c_mailOf {x y : Int32} {g : fp_G} {P : Int32 → Int32 → fp_G → Prop} {n : Nat} (hn : n ≤ 60) (h5 : g 37 5 = nI n) (hk5 : g 67 42 = nI n) (e0 : g 90 = g 38) (e1 : g 95 = g 44) (e2 : g 96 = g 45) (e3 : g 97 = g 46) (e4 : g 101 = g 47) (e5 : g 98 = g 48) (e6 : g 99 = g 49) (e7 : g 102 = g 50) (ok : ∀ r, P r r g) (no' : ∀ r k, P r r (refG g k)) : w_X8_mailOf x y g (fun r g1 => w_X9_mailOf x y g1 (fun r2 g2 => P r r2 g2)) := by
  unfold w_X8_mailOf
  by_cases hm : inN x n
  · refine ht_X1_has hn h5 hm (ie (by decide) ?_)
    have hm2 := hm
    obtain ⟨j, hj, ej⟩ := hm2
    refine is (fun c0 => rd_e ej (by omega) (by omega) ?_) (fun c0 => ?_)
    · unfold w_X9_mailOf
      refine ht_X9_isMail hn hk5 hm (ie (by decide) (it c0 (rd_e ej (by omega) (by omega) ?_)))
      rw [e0]
      exact ok _
    refine is (fun c1 => rd_e ej (by omega) (by omega) ?_) (fun c1 => ?_)
    · unfold w_X9_mailOf
      refine ht_X9_isMail hn hk5 hm (ie (by decide) (ie c0 (it c1 (rd_e ej (by omega) (by omega) ?_))))
      rw [e1]
      exact ok _
    refine is (fun c2 => rd_e ej (by omega) (by omega) ?_) (fun c2 => ?_)
    · unfold w_X9_mailOf
      refine ht_X9_isMail hn hk5 hm (ie (by decide) (ie c0 (ie c1 (it c2 (rd_e ej (by omega) (by omega) ?_)))))
      rw [e2]
      exact ok _
    refine is (fun c3 => rd_e ej (by omega) (by omega) ?_) (fun c3 => ?_)
    · unfold w_X9_mailOf
      refine ht_X9_isMail hn hk5 hm (ie (by decide) (ie c0 (ie c1 (ie c2 (it c3 (rd_e ej (by omega) (by omega) ?_))))))
      rw [e3]
      exact ok _
    refine is (fun c4 => rd_e ej (by omega) (by omega) ?_) (fun c4 => ?_)
    · by_cases z : g 47 j = 0
      · refine it z ?_
        unfold w_X9_mailOf
        exact ht_X9_isMail hn hk5 hm (ie (by decide) (ie c0 (ie c1 (ie c2 (ie c3 (it c4 (rd_e ej (by omega) (by omega) (it (by rw [e4]; exact z) (ok _)))))))))
      · refine ie z ?_
        unfold w_X9_mailOf
        exact ht_X9_isMail hn hk5 hm (ie (by decide) (ie c0 (ie c1 (ie c2 (ie c3 (it c4 (rd_e ej (by omega) (by omega) (ie (by rw [e4]; exact z) (ok _)))))))))
    refine is (fun c5 => rd_e ej (by omega) (by omega) ?_) (fun c5 => ?_)
    · unfold w_X9_mailOf
      refine ht_X9_isMail hn hk5 hm (ie (by decide) (ie c0 (ie c1 (ie c2 (ie c3 (ie c4 (it c5 (rd_e ej (by omega) (by omega) ?_))))))))
      rw [e5]
      exact ok _
    refine is (fun c6 => rd_e ej (by omega) (by omega) ?_) (fun c6 => ?_)
    · unfold w_X9_mailOf
      refine ht_X9_isMail hn hk5 hm (ie (by decide) (ie c0 (ie c1 (ie c2 (ie c3 (ie c4 (ie c5 (it c6 (rd_e ej (by omega) (by omega) ?_)))))))))
      rw [e6]
      exact ok _
    refine is (fun c7 => rd_e ej (by omega) (by omega) ?_) (fun c7 => ?_)
    · by_cases z : g 50 j = 0
      · refine it z ?_
        unfold w_X9_mailOf
        exact ht_X9_isMail hn hk5 hm (ie (by decide) (ie c0 (ie c1 (ie c2 (ie c3 (ie c4 (ie c5 (ie c6 (it c7 (rd_e ej (by omega) (by omega) (it (by rw [e7]; exact z) (ok _))))))))))))
      · refine ie z ?_
        unfold w_X9_mailOf
        exact ht_X9_isMail hn hk5 hm (ie (by decide) (ie c0 (ie c1 (ie c2 (ie c3 (ie c4 (ie c5 (ie c6 (it c7 (rd_e ej (by omega) (by omega) (ie (by rw [e7]; exact z) (ok _))))))))))))
    refine e_refuse (k := 2) rfl (by decide) ?_
    unfold w_X9_mailOf
    exact ht_X9_isMail hn hk5 hm (ie (by decide) (ie c0 (ie c1 (ie c2 (ie c3 (ie c4 (ie c5 (ie c6 (ie c7 (e_no (k := 2) rfl (by decide) (no' _ 2)))))))))))
  · refine hf_X1_has hn h5 hm (it rfl (e_refuse (k := 1) rfl (by decide) ?_))
    unfold w_X9_mailOf
    exact hf_X9_isMail hn hk5 hm (it rfl (e_no (k := 1) rfl (by decide) (no' _ 1)))
