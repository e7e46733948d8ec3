/-! ===== mail ===== -/
theorem byte_12 : ∀ a, a < 12 → vp_nar .byte ((nI a).toInt8.toInt32) = nI a := by decide
/-- the state behind a MAIL that is posted -/
def mailG (g : fp_G) (n t : Nat) (x1 x2 x3 x4 : Int32) : fp_G :=
  gu (gu (gu (gu (gu (gu (gu (gu (gu (gu (gu
  (gu (gu (gu (gu (gu (gu (gu (gu (gu (gu (gu g 38 n x1) 39 n x2) 40 n x3) 41 n x4) 42 n (nI t)) 37 5 (nI (n + 1))) 45 n x2) 46 n (nI t)) 44 n 0) 51 (40 * n) x2) 49 n 1)
  90 n x1) 92 n (nI t)) 91 n x2) 93 n x3) 94 n x4) 67 42 (nI (n + 1))) 95 n 0) 96 n x2) 97 n (nI t)) 100 (40 * n) x2) 99 n 1
theorem s9_mail {x1 x2 x3 x4 : Int32} {g : fp_G} {K : Int32 → fp_G → Prop} {n nm no t : Nat} (hn : n < 60) (hnm : nm ≤ 40) (hno : no ≤ 12) (hk : g 67 42 = nI n) (hk7 : g 67 27 = nI nm) (hk6 : g 67 12 = nI no) (hk9 : g 67 15 = nI t) (c0 : g 99 n = 0)
    (h1 : 0 ≤ x1.toInt ∧ x1.toInt ≤ 2) (ho : inN x2 no) (hm : inN x3 nm) (hw : (if x1 = 1 then (1 : Int32) else 0) ≤ x4) (hx : ¬ (if x1 = 0 then (99 : Int32) else if x1 = 1 then 999 else 9999) < x4)
    (k : K (nI n) (gu (gu (gu (gu (gu (gu (gu (gu (gu (gu (gu g 90 n x1) 92 n (nI t)) 91 n x2) 93 n x3) 94 n x4) 67 42 (nI (n + 1))) 95 n 0) 96 n x2) 97 n (nI t)) 100 (40 * n) x2) 99 n 1)) : w_X9_mail x1 x2 x3 x4 g K := by
  unfold w_X9_mail
  refine e_isIn (l := 0) (h := 2) rfl rfl ?_
  rw [bi_t h1]
  refine ie (by decide) (ht_X9_isOffice hno hk6 ho (j_I (ie (by decide) (ht_X9_isMan hnm hk7 hm (ie (by decide) (j_I ?_))))))
  have fin : w_X9_comes (g 67 42) x2 (g 67 15) (gu (gu (gu (gu (gu (gu g 90 n x1) 92 n (g 67 15)) 91 n x2) 93 n x3) 94 n x4) 67 42 (g 67 42 + 1)) (fun _ g12 => K (g 67 42) g12) := by
    unfold w_X9_comes
    rw [hk, hk9]
    refine wr_n (by omega) (by omega) (wr_n (by omega) (by omega) (wr_n (by omega) (by omega) (rd_n (by omega) (by omega) (j_I ?_))))
    refine ie ?_ (rd_n (by omega) (by omega) ?_)
    · show ¬ 40 ≤ g 99 n
      rw [c0]
      decide
    have e4 : 40 * nI n + g 99 n = nI (40 * n) := by
      rw [c0, show (40 : Int32) = nI 40 from rfl, pk_mul, show (0 : Int32) = nI 0 from rfl, nI_add, Nat.add_zero]
    refine wr_e (k := 40 * n) e4 (by omega) (by omega) (rd_n (by omega) (by omega) (wr_n (by omega) (by omega) ?_))
    have e5 : g 99 n + 1 = 1 := by rw [c0]; rfl
    have k2 := k
    rw [← e5, nI_succ] at k2
    exact k2
  by_cases d1 : x1 = 1
  · rw [if_pos d1] at hw
    have d0 : ¬ x1 = 0 := by rw [d1]; decide
    rw [if_neg d0, if_pos d1] at hx
    refine it d1 (j_I (it hw (j_I (ie d0 (it d1 (j_I (ie hx (ie (ne_c (b := 60) hk (by decide) (by omega)) (it rfl ?_)))))))))
    exact wr_e hk (by omega) (by omega) (wr_e hk (by omega) (by omega) (wr_e hk (by omega) (by omega) (wr_e hk (by omega) (by omega) (wr_e hk (by omega) (by omega) (pf_i fin)))))
  · rw [if_neg d1] at hw
    by_cases d0 : x1 = 0
    · rw [if_pos d0] at hx
      refine ie d1 (j_I (it hw (j_I (it d0 (j_I (ie hx (ie (ne_c (b := 60) hk (by decide) (by omega)) (it rfl ?_))))))))
      exact wr_e hk (by omega) (by omega) (wr_e hk (by omega) (by omega) (wr_e hk (by omega) (by omega) (wr_e hk (by omega) (by omega) (wr_e hk (by omega) (by omega) (pf_i fin)))))
    · rw [if_neg d0, if_neg d1] at hx
      refine ie d1 (j_I (it hw (j_I (ie d0 (ie d1 (j_I (ie hx (ie (ne_c (b := 60) hk (by decide) (by omega)) (it rfl ?_)))))))))
      exact wr_e hk (by omega) (by omega) (wr_e hk (by omega) (by omega) (wr_e hk (by omega) (by omega) (wr_e hk (by omega) (by omega) (wr_e hk (by omega) (by omega) (pf_i fin)))))
theorem s8_mail {x1 x2 x3 x4 : Int32} {g : fp_G} {K : Int32 → fp_G → Prop} {n t a : Nat} (hn : n < 60) (h5 : g 37 5 = nI n) (h9 : g 0 9 = nI t) (c0 : g 49 n = 0) (ha : a < 12) (ea : x2 = nI a)
    (k : K (nI n) (gu (gu (gu (gu (gu (gu (gu (gu (gu (gu (gu g 38 n x1) 39 n x2) 40 n x3) 41 n x4) 42 n (nI t)) 37 5 (nI (n + 1))) 45 n x2) 46 n (nI t)) 44 n 0) 51 (40 * n) x2) 49 n 1)) :
    w_X1_add x1 x2 x3 x4 (g 0 9) g (fun v7 g8 => w_X0_begin 43 v7 x2 (g8 0 9) g8 fun _ g9 => K v7 g9) := by
  unfold w_X1_add
  refine wr_e h5 (by omega) (by omega) (wr_e h5 (by omega) (by omega) (wr_e h5 (by omega) (by omega) (wr_e h5 (by omega) (by omega) (wr_e h5 (by omega) (by omega) (pf_i ?_)))))
  have e1 : g 37 5 + 1 - 1 = nI n := by rw [h5, inc_dec]
  show w_X0_begin 43 (g 37 5 + 1 - 1) x2 (g 0 9) (gu (gu (gu (gu (gu (gu g 38 n x1) 39 n x2) 40 n x3) 41 n x4) 42 n (g 0 9)) 37 5 (g 37 5 + 1)) fun _ g9 => K (g 37 5 + 1 - 1) g9
  rw [e1, h9, h5]
  unfold w_X0_begin
  refine wr_n (by omega) (by omega) (wr_n (by omega) (by omega) ?_)
  unfold w_X0_come
  refine wr_n (by omega) (by omega) (rd_n (by omega) (by omega) (rd_n (by omega) (by omega) (j_I ?_)))
  have e4 : nI n * 40 + g 49 n = nI (40 * n) := by
    rw [c0, show (40 : Int32) = nI 40 from rfl, show (0 : Int32) = nI 0 from rfl, ix_mul, Nat.add_zero]
  refine ie ?_ (ie ?_ (rd_n (by omega) (by omega) ?_))
  · show ¬ 40 ≤ g 49 n
    rw [c0]
    decide
  · show ¬ Int32.ofNat (fp_trl 43) ≤ nI n * 40 + g 49 n
    rw [e4, show Int32.ofNat (fp_trl 43) = nI 2400 from rfl, le_I, nI_I (by omega), nI_I (by omega)]
    omega
  refine wr_e (k := 40 * n) e4 (show 40 * n < 2400 by omega) (by decide) (rd_n (by omega) (by omega) (wr_n (by omega) (by omega) ?_))
  have e5 : g 49 n + 1 = 1 := by rw [c0]; rfl
  have e6 : vp_nar .byte (((gu (gu (gu (gu (gu (gu (gu (gu (gu g 38 n x1) 39 n x2) 40 n x3) 41 n x4) 42 n (nI t)) 37 5 (nI n + 1)) 45 n x2) 46 n (nI t)) 44 n 0) 45 n).toInt8.toInt32) = x2 := by
    have : (gu (gu (gu (gu (gu (gu (gu (gu (gu g 38 n x1) 39 n x2) 40 n x3) 41 n x4) 42 n (nI t)) 37 5 (nI n + 1)) 45 n x2) 46 n (nI t)) 44 n 0) 45 n = x2 := by
      show (gu (gu (gu (gu (gu (gu (gu g 38 n x1) 39 n x2) 40 n x3) 41 n x4) 42 n (nI t)) 37 5 (nI n + 1)) 45 n x2) 45 n = x2
      rw [gu_s]
    rw [this, ea]
    exact byte_12 a ha
  have k2 := k
  rw [nI_succ] at k2
  show K (nI n) (gu (gu (gu (gu (gu (gu (gu (gu (gu (gu (gu g 38 n x1) 39 n x2) 40 n x3) 41 n x4) 42 n (nI t)) 37 5 (nI n + 1)) 45 n x2) 46 n (nI t)) 44 n 0) 51 (40 * n) (vp_nar .byte (((gu (gu (gu (gu (gu (gu (gu (gu (gu g 38 n x1) 39 n x2) 40 n x3) 41 n x4) 42 n (nI t)) 37 5 (nI n + 1)) 45 n x2) 46 n (nI t)) 44 n 0) 45 n).toInt8.toInt32))) 49 n (g 49 n + 1))
  rw [e6, e5]
  exact k2
