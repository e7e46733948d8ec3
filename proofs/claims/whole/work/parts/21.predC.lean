def w_X0_copyFrom (c : Nat) (x2 : Int32) (g : fp_G) (K : Int32 → fp_G → Prop) : Prop :=
  fp_cp .int g 44 60 (c + 1) 60 0 0 x2 fun g1 =>
  fp_cp .int g1 45 60 (c + 2) 60 0 0 x2 fun g2 =>
  fp_cp .int g2 46 60 (c + 3) 60 0 0 x2 fun g3 =>
  fp_cp .boolean g3 47 60 (c + 4) 60 0 0 x2 fun g4 =>
  fp_cp .int g4 48 60 (c + 5) 60 0 0 x2 fun g5 =>
  fp_cp .int g5 49 60 (c + 6) 60 0 0 x2 fun g6 =>
  fp_cp .boolean g6 50 60 (c + 7) 60 0 0 x2 fun g7 =>
  K 0 g7

def w_X0_come (c : Nat) (x1 : Int32) (g : fp_G) (K : Int32 → fp_G → Prop) : Prop :=
  fp_wr g (c + 1) 60 x1 0 fun g1 =>
  fp_rd (g1 (c + 6)) 60 x1 fun v1 =>
  fp_rd (g1 (c + 6)) 60 x1 fun v2 =>
  fp_j (fun (g2 : fp_G) =>
      fp_rd (g2 (c + 6)) 60 x1 fun v3 =>
      fp_wr g2 (c + 6) 60 x1 (v3 + 1) fun g3 =>
      K 0 g3) fun J52 =>
  if 40 ≤ v2 then
    J52 g1
  else
    if (Int32.ofNat (fp_trl c)) ≤ ((x1 * 40) + v1) then
      J52 g1
    else
      fp_rd (g1 (c + 2)) 60 x1 fun v4 =>
      fp_wr g1 (c + 8) (fp_trl c) ((x1 * 40) + v1) (vp_nar .byte ((v4 : Int32).toInt8.toInt32)) fun g4 =>
      J52 g4

def w_X0_begin (c : Nat) (x1 : Int32) (x2 : Int32) (x3 : Int32) (g : fp_G) (K : Int32 → fp_G → Prop) : Prop :=
  fp_wr g (c + 2) 60 x1 x2 fun g1 =>
  fp_wr g1 (c + 3) 60 x1 x3 fun g2 =>
  w_X0_come c x1 g2 fun _ g3 =>
  K 0 g3

def w_X0_arrive_2 : Nat → Nat → Int32 → Int32 → Int32 → fp_G → (Int32 → fp_G → Prop) → Prop
  | 0, _, _, _, _, _, _ => False
  | n + 1, c, x1, x2, x3, g, K =>
    if x1 ≤ x3 then
      K 0 g
    else
      fp_rd (g (c + 1)) 60 x3 fun v1 =>
      fp_j (fun (g1 : fp_G) =>
          w_X0_arrive_2 n c x1 x2 (x3 + 1) g1 K) fun J32 =>
      if v1 = 1 then
        fp_rd (g (c + 3)) 60 x3 fun v2 =>
        if v2 = x2 then
          w_X0_come c x3 g fun _ g2 =>
          J32 g2
        else
          J32 g
      else
        J32 g

def w_X0_arrive (c : Nat) (x1 : Int32) (x2 : Int32) (g : fp_G) (K : Int32 → fp_G → Prop) : Prop :=
  ∃ n2, w_X0_arrive_2 n2 c x1 x2 0 g K

def w_X0_send (c : Nat) (x1 : Int32) (x2 : Int32) (x3 : Int32) (g : fp_G) (K : Int32 → fp_G → Prop) : Prop :=
  fp_wr g (c + 1) 60 x1 1 fun g1 =>
  fp_wr g1 (c + 2) 60 x1 x2 fun g2 =>
  fp_wr g2 (c + 3) 60 x1 x3 fun g3 =>
  K 0 g3

def w_X0_turn (c : Nat) (x1 : Int32) (x2 : Int32) (g : fp_G) (K : Int32 → fp_G → Prop) : Prop :=
  fp_wr g (c + 4) 60 x1 (vp_nar .boolean 1) fun g1 =>
  fp_wr g1 (c + 5) 60 x1 x2 fun g2 =>
  K 0 g2

def w_X0_finish (c : Nat) (x1 : Int32) (x2 : Int32) (x3 : Int32) (g : fp_G) (K : Int32 → fp_G → Prop) : Prop :=
  fp_wr g (c + 1) 60 x1 x2 fun g1 =>
  fp_wr g1 (c + 3) 60 x1 x3 fun g2 =>
  K 0 g2

def w_X0_ended (c : Nat) (x1 : Int32) (g : fp_G) (K : Int32 → fp_G → Prop) : Prop :=
  fp_rd (g (c + 1)) 60 x1 fun v1 =>
  if v1 < 2 then
    K 0 g
  else
    K 1 g

def w_X0_howMany_5 : Nat → Nat → Int32 → Int32 → Int32 → Int32 → fp_G → (Int32 → fp_G → Prop) → Prop
  | 0, _, _, _, _, _, _, _ => False
  | n + 1, c, x1, x2, x3, x4, g, K =>
    if x2 ≤ x4 then
      K x3 g
    else
      fp_rd (g (c + 1)) 60 x4 fun v1 =>
      fp_j (fun (x3j25 : Int32) =>
          w_X0_howMany_5 n c x1 x2 x3j25 (x4 + 1) g K) fun J25 =>
      if v1 = x1 then
        J25 (x3 + 1)
      else
        J25 x3

def w_X0_howMany (c : Nat) (x1 : Int32) (x2 : Int32) (g : fp_G) (K : Int32 → fp_G → Prop) : Prop :=
  ∃ n5, w_X0_howMany_5 n5 c x1 x2 0 0 g K

def w_X0_howManySpoilt_4 : Nat → Nat → Int32 → Int32 → Int32 → fp_G → (Int32 → fp_G → Prop) → Prop
  | 0, _, _, _, _, _, _ => False
  | n + 1, c, x1, x2, x3, g, K =>
    if x1 ≤ x3 then
      K x2 g
    else
      fp_rd (g (c + 7)) 60 x3 fun v1 =>
      fp_j (fun (x2j21 : Int32) =>
          w_X0_howManySpoilt_4 n c x1 x2j21 (x3 + 1) g K) fun J21 =>
      if v1 = 0 then
        J21 x2
      else
        J21 (x2 + 1)

def w_X0_howManySpoilt (c : Nat) (x1 : Int32) (g : fp_G) (K : Int32 → fp_G → Prop) : Prop :=
  ∃ n4, w_X0_howManySpoilt_4 n4 c x1 0 0 g K

def w_X0_traced (c : Nat) (x1 : Int32) (x2 : Int32) (g : fp_G) (K : Int32 → fp_G → Prop) : Prop :=
  if x2 < 0 then
    K (-9) g
  else
    fp_rd (g (c + 6)) 60 x1 fun v1 =>
    if v1 ≤ x2 then
      K (-9) g
    else
      if 40 ≤ x2 then
        K (-9) g
      else
        if ((x1 * 40) + x2) < (Int32.ofNat (fp_trl c)) then
          fp_rd (g (c + 8)) (fp_trl c) ((x1 * 40) + x2) fun v2 =>
          K v2 g
        else
          K (-9) g

def w_X0_toAndFro_14 : Nat → Nat → Int32 → Int32 → Int32 → fp_G → (Int32 → fp_G → Prop) → Prop
  | 0, _, _, _, _, _, _ => False
  | n + 1, c, x1, x2, x3, g, K =>
    if x2 ≤ (x3 + 3) then
      K (-9) g
    else
      w_X0_traced c x1 x3 g fun v2 g1 =>
      w_X0_traced c x1 (x3 + 2) g1 fun v3 g2 =>
      fp_j (fun (z0j43 : Int32) =>
          fp_j (fun (g3 : fp_G) =>
              w_X0_toAndFro_14 n c x1 x2 (x3 + 1) g3 K) fun J71 =>
          if z0j43 = 0 then
            J71 g2
          else
            w_X0_traced c x1 (x3 + 1) g2 fun v4 g4 =>
            w_X0_traced c x1 (x3 + 3) g4 fun v5 g5 =>
            if v4 = v5 then
              K x3 g5
            else
              J71 g5) fun J43 =>
      if v2 = v3 then
        J43 1
      else
        J43 0

def w_X0_toAndFro (c : Nat) (x1 : Int32) (g : fp_G) (K : Int32 → fp_G → Prop) : Prop :=
  fp_rd (g (c + 6)) 60 x1 fun v1 =>
  ∃ n14, w_X0_toAndFro_14 n14 c x1 (if 40 < v1 then 40 else v1) 0 g K

def w_X1_has (x1 : Int32) (g : fp_G) (K : Int32 → fp_G → Prop) : Prop :=
  fp_j (K 0 g) fun J16 =>
  if x1 < 0 then
    J16
  else
    if (g 37 5) ≤ x1 then
      J16
    else
      K 1 g

def w_X1_add (x1 : Int32) (x2 : Int32) (x3 : Int32) (x4 : Int32) (x5 : Int32) (g : fp_G) (K : Int32 → fp_G → Prop) : Prop :=
  fp_wr g 38 60 (g 37 5) x1 fun g1 =>
  fp_wr g1 39 60 (g1 37 5) x2 fun g2 =>
  fp_wr g2 40 60 (g2 37 5) x3 fun g3 =>
  fp_wr g3 41 60 (g3 37 5) x4 fun g4 =>
  fp_wr g4 42 60 (g4 37 5) x5 fun g5 =>
  fp_pf g5 37 5 ((g5 37 5) + 1) fun g6 =>
  K ((g6 37 5) - 1) g6

def w_X2_hasOffice (x1 : Int32) (g : fp_G) (K : Int32 → fp_G → Prop) : Prop :=
  fp_j (K 0 g) fun J16 =>
  if x1 < 0 then
    J16
  else
    if (g 6 3) ≤ x1 then
      J16
    else
      K 1 g

def w_X2_hasWay (x1 : Int32) (g : fp_G) (K : Int32 → fp_G → Prop) : Prop :=
  fp_j (K 0 g) fun J16 =>
  if x1 < 0 then
    J16
  else
    if (g 6 9) ≤ x1 then
      J16
    else
      K 1 g

def w_X2_addOffice (x1 : Int32) (x2 : Int32) (g : fp_G) (K : Int32 → fp_G → Prop) : Prop :=
  fp_wr g 7 12 (g 6 3) x1 fun g1 =>
  fp_wr g1 8 12 (g1 6 3) (vp_nar .boolean x2) fun g2 =>
  fp_pf g2 6 3 ((g2 6 3) + 1) fun g3 =>
  K ((g3 6 3) - 1) g3

def w_X2_setOffice (x1 : Int32) (x2 : Int32) (x3 : Int32) (g : fp_G) (K : Int32 → fp_G → Prop) : Prop :=
  fp_rd (g 7) 12 x1 fun v1 =>
  fp_wr g 7 12 x1 x2 fun g1 =>
  fp_wr g1 8 12 x1 (vp_nar .boolean x3) fun g2 =>
  K v1 g2

def w_X2_farBetween (x1 : Int32) (x2 : Int32) (g : fp_G) (K : Int32 → fp_G → Prop) : Prop :=
  fp_rd (g 9) 144 ((x1 * 12) + x2) fun v1 =>
  K v1 g

def w_X2_shorten_15 : Nat → Int32 → Int32 → Int32 → Int32 → Int32 → fp_G → (Int32 → fp_G → Prop) → (fp_G → Prop) → Prop
  | 0, _, _, _, _, _, _, _, _ => False
  | n + 1, x1, x2, x3, x4, x5, g, K, E105 =>
    if (g 6 3) ≤ x5 then
      E105 g
    else
      w_X2_farBetween x4 x1 g fun v1 g1 =>
      w_X2_farBetween x2 x5 g1 fun v2 g2 =>
      w_X2_farBetween x4 x2 g2 fun v3 g3 =>
      w_X2_farBetween x1 x5 g3 fun v4 g4 =>
      w_X2_farBetween x4 x5 g4 fun v5 g5 =>
      fp_j (fun (g6 : fp_G) =>
          w_X2_shorten_15 n x1 x2 x3 x4 (x5 + 1) g6 K E105) fun J99 =>
      if v5 ≤ (if (v3 + x3) + v4 < (v1 + x3) + v2 then (v3 + x3) + v4 else (v1 + x3) + v2) then
        J99 g5
      else
        fp_wr g5 9 144 ((x4 * 12) + x5) (if (v3 + x3) + v4 < (v1 + x3) + v2 then (v3 + x3) + v4 else (v1 + x3) + v2) fun g7 =>
        J99 g7

def w_X2_shorten_3 : Nat → Int32 → Int32 → Int32 → Int32 → fp_G → (Int32 → fp_G → Prop) → Prop
  | 0, _, _, _, _, _, _ => False
  | n + 1, x1, x2, x3, x4, g, K =>
    if (g 6 3) ≤ x4 then
      K 0 g
    else
      ∃ n15, w_X2_shorten_15 n15 x1 x2 x3 x4 0 g K (fun g8 => w_X2_shorten_3 n x1 x2 x3 (x4 + 1) g8 K)

def w_X2_shorten (x1 : Int32) (x2 : Int32) (x3 : Int32) (g : fp_G) (K : Int32 → fp_G → Prop) : Prop :=
  ∃ n3, w_X2_shorten_3 n3 x1 x2 x3 0 g K

def w_X2_addWay (x1 : Int32) (x2 : Int32) (x3 : Int32) (x4 : Int32) (x5 : Int32) (g : fp_G) (K : Int32 → fp_G → Prop) : Prop :=
  fp_wr g 10 24 (g 6 9) x1 fun g1 =>
  fp_wr g1 11 24 (g1 6 9) x2 fun g2 =>
  fp_wr g2 12 24 (g2 6 9) x3 fun g3 =>
  fp_wr g3 13 24 (g3 6 9) x4 fun g4 =>
  fp_wr g4 14 24 (g4 6 9) x5 fun g5 =>
  fp_pf g5 6 9 ((g5 6 9) + 1) fun g6 =>
  w_X2_shorten x1 x2 x3 g6 fun _ g7 =>
  K ((g7 6 9) - 1) g7

def w_X2_addShut (x1 : Int32) (x2 : Int32) (x3 : Int32) (g : fp_G) (K : Int32 → fp_G → Prop) : Prop :=
  fp_wr g 15 40 (g 6 13) x1 fun g1 =>
  fp_wr g1 16 40 (g1 6 13) x2 fun g2 =>
  fp_wr g2 17 40 (g2 6 13) x3 fun g3 =>
  fp_pf g3 6 13 ((g3 6 13) + 1) fun g4 =>
  K (g4 6 13) g4

def w_X2_lateAt (x1 : Int32) (g : fp_G) (K : Int32 → fp_G → Prop) : Prop :=
  fp_rd (g 8) 12 x1 fun v1 =>
  if v1 = 0 then
    w_X2_farBetween 0 x1 g fun v2 g1 =>
    K v2 g1
  else
    K 0 g

def w_X2_leaves_40 : Nat → Int32 → Int32 → Int32 → fp_G → (Int32 → fp_G → Prop) → Prop
  | 0, _, _, _, _, _ => False
  | n + 1, x1, x2, x4, g, K =>
    if (g 6 13) ≤ x4 then
      K 1 g
    else
      fp_rd (g 15) 40 x4 fun v4 =>
      fp_j (w_X2_leaves_40 n x1 x2 (x4 + 1) g K) fun J84 =>
      if v4 = x1 then
        fp_rd (g 16) 40 x4 fun v5 =>
        if x2 < v5 then
          J84
        else
          fp_rd (g 17) 40 x4 fun v6 =>
          if v6 < x2 then
            J84
          else
            K 0 g
      else
        J84

def w_X2_leaves (x1 : Int32) (x2 : Int32) (g : fp_G) (K : Int32 → fp_G → Prop) : Prop :=
  fp_rd (g 14) 24 x1 fun v1 =>
  if v1 < 1 then
    K 0 g
  else
    fp_rd (g 13) 24 x1 fun v2 =>
    if x2 < v2 then
      K 0 g
    else
      fp_rd (g 13) 24 x1 fun v3 =>
      fp_dv v1 (if ((x2 - v3) - (x2 - v3) / v1 * v1) = 0 then
        ∃ n40, w_X2_leaves_40 n40 x1 x2 0 g K
      else
        K 0 g)

def w_X2_otherEnd (x1 : Int32) (x2 : Int32) (g : fp_G) (K : Int32 → fp_G → Prop) : Prop :=
  fp_rd (g 10) 24 x1 fun v1 =>
  if v1 = x2 then
    fp_rd (g 11) 24 x1 fun v3 =>
    K v3 g
  else
    fp_rd (g 10) 24 x1 fun v2 =>
    K v2 g

def w_X2_wayTo_29 : Nat → Int32 → Int32 → Int32 → fp_G → (Int32 → fp_G → Prop) → Prop
  | 0, _, _, _, _, _ => False
  | n + 1, x1, x2, x3, g, K =>
    if (g 6 9) ≤ x3 then
      K (-9) g
    else
      fp_rd (g 10) 24 x3 fun v3 =>
      fp_j (fun (g3 : fp_G) =>
          w_X2_wayTo_29 n x1 x2 (x3 + 1) g3 K) fun J86 =>
      fp_j (fp_rd (g 12) 24 x3 fun v4 =>
          w_X2_otherEnd x3 x1 g fun v5 g4 =>
          w_X2_farBetween v5 x2 g4 fun v6 g5 =>
          w_X2_farBetween x1 x2 g5 fun v7 g6 =>
          if (v4 + v6) = v7 then
            K x3 g6
          else
            J86 g6) fun J57 =>
      if v3 = x1 then
        J57
      else
        fp_rd (g 11) 24 x3 fun v8 =>
        if v8 = x1 then
          J57
        else
          J86 g

def w_X2_wayTo (x1 : Int32) (x2 : Int32) (g : fp_G) (K : Int32 → fp_G → Prop) : Prop :=
  w_X2_hasOffice x2 g fun v1 g1 =>
  if v1 = 0 then
    K (-9) g1
  else
    if x2 = x1 then
      K (-9) g1
    else
      w_X2_farBetween x1 x2 g1 fun v2 g2 =>
      if v2 < 1000000 then
        ∃ n29, w_X2_wayTo_29 n29 x1 x2 0 g2 K
      else
        K (-9) g2

def w_X3_addBytes_3 : Nat → Int32 → Int64 → Int32 → fp_G → (Int32 → fp_G → Prop) → Prop
  | 0, _, _, _, _, _ => False
  | n + 1, x1, x2, x4, g, K =>
    if x1 ≤ x4 then
      K (g 29 1) g
    else
      fp_wr g 35 60 (g 29 1) (vp_nar .byte (((x2 >>> ((8 * x4 : Int32).toInt64 &&& 63) : Int64).toInt32 : Int32).toInt8.toInt32)) fun g1 =>
      fp_pf g1 29 1 ((g1 29 1) + 1) fun g2 =>
      w_X3_addBytes_3 n x1 x2 (x4 + 1) g2 K

def w_X3_addBytes (x1 : Int32) (x2 : Int64) (g : fp_G) (K : Int32 → fp_G → Prop) : Prop :=
  ∃ n3, w_X3_addBytes_3 n3 x1 x2 0 g K

def w_X5_goTo (x1 : Int32) (g : fp_G) (K : Int32 → fp_G → Prop) : Prop :=
  fp_pf g 34 4 x1 fun g1 =>
  fp_j (fp_pc g1 34 6 0 fun g2 =>
      K 0 g2) fun J32 =>
  if x1 < 0 then
    J32
  else
    if (g1 34 3) ≤ x1 then
      J32
    else
      fp_rd (g1 35) 60 x1 fun v1 =>
      fp_pc g1 34 6 (((v1 &&& 255 : Int32).toUInt32 % 65536).toInt32) fun g3 =>
      K 0 g3

def w_X5_fail  (g : fp_G) (K : Int32 → fp_G → Prop) : Prop :=
  fp_j (fun (g1 : fp_G) =>
      fp_pc g1 34 6 0 fun g2 =>
      K 0 g2) fun J15 =>
  if 0 ≤ (g 34 5) then
    J15 g
  else
    fp_pf g 34 5 (g 34 4) fun g3 =>
    J15 g3

def w_X5_take (x1 : Int32) (g : fp_G) (K : Int32 → fp_G → Prop) : Prop :=
  if (g 34 6) = x1 then
    w_X5_goTo ((g 34 4) + 1) g fun _ g1 =>
    K 1 g1
  else
    K 0 g

def w_X5_write (x1 : Int32) (g : fp_G) (K : Int32 → fp_G → Prop) : Prop :=
  if 60 ≤ (g 34 2) then
    K 0 g
  else
    fp_wr g 36 60 (g 34 2) x1 fun g1 =>
    fp_pf g1 34 2 ((g1 34 2) + 1) fun g2 =>
    K 0 g2

def w_X5_unit_56 : Nat → Int32 → Int32 → fp_G → (Int32 → fp_G → Prop) → Prop
  | 0, _, _, _, _ => False
  | n + 1, x2, x3, g, K =>
    if 4 ≤ x3 then
      K x2 g
    else
      if (g 34 6) < 48 then
        K x2 g
      else
        if 57 < (g 34 6) then
          K x2 g
        else
          w_X5_goTo ((g 34 4) + 1) g fun _ g2 =>
          w_X5_unit_56 n ((x2 * 10) + ((g 34 6) - 48)) (x3 + 1) g2 K

def w_X5_unit  (g : fp_G) (K : Int32 → fp_G → Prop) : Prop :=
  fp_ix 0 (g 34 6) fun v1 =>
  if v1 < 0 then
    fp_j (fun (g1 : fp_G) =>
        ∃ n56, w_X5_unit_56 n56 0 0 g1 K) fun J52 =>
    fp_j (w_X5_fail g fun _ g3 =>
        J52 g3) fun J48 =>
    if (g 34 6) < 48 then
      J48
    else
      if (g 34 6) ≤ 57 then
        J52 g
      else
        J48
  else
    w_X5_goTo ((g 34 4) + 1) g fun _ g4 =>
    K (10000 + v1) g4

def w_X5_sign  (g : fp_G) (K : Int32 → fp_G → Prop) : Prop :=
  fp_ix 1 (g 34 6) fun v1 =>
  if 0 ≤ v1 then
    w_X5_goTo ((g 34 4) + 1) g fun _ g1 =>
    K v1 g1
  else
    w_X5_fail g fun _ g2 =>
    K 0 g2

def w_X5_test_s (r_X5_test : Int32 → fp_G → (Int32 → fp_G → Prop) → Prop) (r_X5_ors : Int32 → fp_G → (Int32 → fp_G → Prop) → Prop) (x1 : Int32) (g : fp_G) (K : Int32 → fp_G → Prop) : Prop :=
  fp_j (fun (z0j23 : Int32) =>
      fp_j (w_X5_take 33 g fun v1 g1 =>
          if v1 = 0 then
            w_X5_take 40 g1 fun v2 g2 =>
            if v2 = 0 then
              w_X5_unit g2 fun v3 g3 =>
              w_X5_sign g3 fun v4 g4 =>
              w_X5_unit g4 fun v5 g5 =>
              w_X5_write ((((v3 <<< (2 &&& 31)) ||| v4) <<< (14 &&& 31)) ||| v5) g5 fun _ g6 =>
              K 0 g6
            else
              r_X5_ors (x1 + 1) g2 fun _ g7 =>
              w_X5_take 41 g7 fun v8 g8 =>
              if v8 = 0 then
                w_X5_fail g8 fun _ g9 =>
                K 0 g9
              else
                K 0 g8
          else
            r_X5_test (x1 + 1) g1 fun _ g10 =>
            w_X5_write (-1) g10 fun _ g11 =>
            K 0 g11) fun J40 =>
      if z0j23 = 0 then
        J40
      else
        if x1 < 5 then
          J40
        else
          w_X5_fail g fun _ g12 =>
          K 0 g12) fun J23 =>
  fp_j (J23 1) fun J18 =>
  if (g 34 6) = 33 then
    J18
  else
    if (g 34 6) = 40 then
      J18
    else
      J23 0

def w_X5_ands_7 : Nat → (Int32 → fp_G → (Int32 → fp_G → Prop) → Prop) → Int32 → Int32 → fp_G → (Int32 → fp_G → Prop) → Prop
  | 0, _, _, _, _, _ => False
  | n + 1, r_X5_test, x1, x2, g, K =>
    if 60 ≤ x2 then
      K 0 g
    else
      w_X5_take 38 g fun v2 g2 =>
      if v2 = 0 then
        K 0 g2
      else
        r_X5_test x1 g2 fun _ g3 =>
        w_X5_write (-2) g3 fun _ g4 =>
        w_X5_ands_7 n r_X5_test x1 (x2 + 1) g4 K

def w_X5_ands_s (r_X5_test : Int32 → fp_G → (Int32 → fp_G → Prop) → Prop) (x1 : Int32) (g : fp_G) (K : Int32 → fp_G → Prop) : Prop :=
  r_X5_test x1 g fun _ g1 =>
  ∃ n7, w_X5_ands_7 n7 r_X5_test x1 0 g1 K

def w_X5_ors_7 : Nat → (Int32 → fp_G → (Int32 → fp_G → Prop) → Prop) → Int32 → Int32 → fp_G → (Int32 → fp_G → Prop) → Prop
  | 0, _, _, _, _, _ => False
  | n + 1, r_X5_ands, x1, x2, g, K =>
    if 60 ≤ x2 then
      K 0 g
    else
      w_X5_take 124 g fun v2 g2 =>
      if v2 = 0 then
        K 0 g2
      else
        r_X5_ands x1 g2 fun _ g3 =>
        w_X5_write (-3) g3 fun _ g4 =>
        w_X5_ors_7 n r_X5_ands x1 (x2 + 1) g4 K

def w_X5_ors_s (r_X5_ands : Int32 → fp_G → (Int32 → fp_G → Prop) → Prop) (x1 : Int32) (g : fp_G) (K : Int32 → fp_G → Prop) : Prop :=
  r_X5_ands x1 g fun _ g1 =>
  ∃ n7, w_X5_ors_7 n7 r_X5_ands x1 0 g1 K

def w_X5_test : Nat → Int32 → fp_G → (Int32 → fp_G → Prop) → Prop
  | 0, _, _, _ => False
  | d + 1, x, g, K => w_X5_test_s (w_X5_test d) (w_X5_ors_s (w_X5_ands_s (w_X5_test d))) x g K
def w_X5_ors (x : Int32) (g : fp_G) (K : Int32 → fp_G → Prop) : Prop := w_X5_ors_s (w_X5_ands_s (w_X5_test 7)) x g K

def w_X5_readText (x1 : Int32) (g : fp_G) (K : Int32 → fp_G → Prop) : Prop :=
  fp_pf g 34 3 (if 60 < x1 then 60 else x1) fun g1 =>
  fp_pf g1 34 2 0 fun g2 =>
  fp_pf g2 34 5 (-1) fun g3 =>
  w_X5_goTo 0 g3 fun _ g4 =>
  w_X5_ors 0 g4 fun _ g5 =>
  fp_j (fun (g6 : fp_G) =>
      K (g6 34 5) g6) fun J48 =>
  if (g5 34 3) ≤ (g5 34 4) then
    J48 g5
  else
    w_X5_fail g5 fun _ g7 =>
    J48 g7

def w_X3_addOrder (x1 : Int32) (x2 : Int32) (g : fp_G) (K : Int32 → fp_G → Prop) : Prop :=
  w_X5_readText (g 29 1) g fun v1 g1 =>
  fp_pf g1 29 1 0 fun g2 =>
  if 0 ≤ v1 then
    K v1 g2
  else
    fp_wr g2 30 30 (g2 29 6) x1 fun g3 =>
    fp_wr g3 31 30 (g3 29 6) x2 fun g4 =>
    fp_wr g4 32 30 (g4 29 6) (g4 34 2) fun g5 =>
    fp_cp .int g5 36 60 33 1800 0 ((g5 29 6) * 60) (g5 34 2) fun g6 =>
    fp_pf g6 29 6 ((g6 29 6) + 1) fun g7 =>
    K v1 g7

def w_X3_inForce_8 : Nat → Int32 → Int32 → Int32 → Int32 → fp_G → (Int32 → fp_G → Prop) → Prop
  | 0, _, _, _, _, _, _ => False
  | n + 1, x1, x2, x3, x4, g, K =>
    if x4 < 0 then
      K (-1) g
    else
      fp_rd (g 30) 30 x4 fun v1 =>
      fp_j (w_X3_inForce_8 n x1 x2 x3 (x4 + (-1)) g K) fun J40 =>
      if v1 = x1 then
        fp_rd (g 31) 30 x4 fun v2 =>
        if x2 < (v2 + x3) then
          J40
        else
          K x4 g
      else
        J40

def w_X3_inForce (x1 : Int32) (x2 : Int32) (x3 : Int32) (g : fp_G) (K : Int32 → fp_G → Prop) : Prop :=
  ∃ n8, w_X3_inForce_8 n8 x1 x2 x3 ((g 29 6) - 1) g K

def w_X3_valueOf (x0 : Int32) (g : fp_G) (K : Int32 → fp_G → Prop) : Prop :=
  fp_j (K x0 g) fun J22 =>
  if (x0 - 10000) < 0 then
    J22
  else
    if 9 ≤ (x0 - 10000) then
      J22
    else
      fp_rd (g 5) 9 (x0 - 10000) fun v1 =>
      K v1 g

def w_X3_isTrueStep (x0 : Int32) (g : fp_G) (K : Int32 → fp_G → Prop) : Prop :=
  w_X3_valueOf (x0 >>> (16 &&& 31)) g fun v1 g1 =>
  w_X3_valueOf (x0 &&& 16383) g1 fun v2 g2 =>
  if ((x0 >>> (14 &&& 31)) &&& 3) = 0 then
    if v2 ≤ v1 then
      K 0 g2
    else
      K 1 g2
  else
    if ((x0 >>> (14 &&& 31)) &&& 3) = 1 then
      if v1 = v2 then
        K 1 g2
      else
        K 0 g2
    else
      if v1 ≤ v2 then
        K 0 g2
      else
        K 1 g2

def w_X3_isTrue_11 : Nat → Int32 → Int32 → Int32 → Int32 → fp_G → (Int32 → fp_G → Prop) → Prop
  | 0, _, _, _, _, _, _ => False
  | n + 1, x1, x3, x4, x5, g, K =>
    fp_rd (g 32) 30 x1 fun v1 =>
    if v1 ≤ x5 then
      if (x3 &&& 1) = 1 then
        K 1 g
      else
        K 0 g
    else
      fp_rd (g 33) 1800 (x4 + x5) fun v2 =>
      fp_j (fun (x3j117 : Int32) (g1 : fp_G) =>
          w_X3_isTrue_11 n x1 x3j117 x4 (x5 + 1) g1 K) fun J117 =>
      if v2 = (-1) then
        J117 (x3 ^^^ 1) g
      else
        if v2 = (-2) then
          fp_j (fun (z0j77 : Int32) =>
              J117 z0j77 g) fun J77 =>
          if (x3 &&& 1) = 1 then
            J77 (x3 >>> (1 &&& 31))
          else
            J77 ((x3 >>> (1 &&& 31)) &&& (-2))
        else
          if v2 = (-3) then
            J117 ((x3 >>> (1 &&& 31)) ||| (x3 &&& 1)) g
          else
            w_X3_isTrueStep v2 g fun v3 g2 =>
            fp_j (fun (z0j115 : Int32) =>
                J117 ((x3 <<< (1 &&& 31)) ||| z0j115) g2) fun J115 =>
            if v3 = 0 then
              J115 0
            else
              J115 1

def w_X3_isTrue (x1 : Int32) (g : fp_G) (K : Int32 → fp_G → Prop) : Prop :=
  ∃ n11, w_X3_isTrue_11 n11 x1 0 (x1 * 60) 0 g K

def w_X4_lineUp_27 : Nat → Nat → Int32 → Int32 → Int32 → fp_G → (Int32 → fp_G → Prop) → (Int32 → fp_G → Prop) → Prop
  | 0, _, _, _, _, _, _, _ => False
  | n + 1, c, x2, x3, x4, g, K, E77 =>
    if x4 ≤ 0 then
      E77 x4 g
    else
      fp_rd (g 3) 60 (x4 - 1) fun v2 =>
      fp_rd (g (c + 3)) 60 v2 fun v3 =>
      fp_rd (g (c + 3)) 60 x3 fun v4 =>
      if v3 ≤ v4 then
        E77 x4 g
      else
        fp_rd (g 3) 60 (x4 - 1) fun v5 =>
        fp_wr g 3 60 x4 v5 fun g2 =>
        w_X4_lineUp_27 n c x2 x3 (x4 + (-1)) g2 K E77

def w_X4_lineUp_4 : Nat → Nat → Int32 → Int32 → fp_G → (Int32 → fp_G → Prop) → Prop
  | 0, _, _, _, _, _ => False
  | n + 1, c, x2, x3, g, K =>
    if (g 37 5) ≤ x3 then
      K x2 g
    else
      fp_rd (g (c + 1)) 60 x3 fun v1 =>
      fp_j (fun (x2j88 : Int32) (g1 : fp_G) =>
          w_X4_lineUp_4 n c x2j88 (x3 + 1) g1 K) fun J88 =>
      if v1 = 0 then
        ∃ n27, w_X4_lineUp_27 n27 c x2 x3 x2 g K (fun v6 g3 => fp_wr g3 3 60 v6 x3 fun g4 =>
          J88 (x2 + 1) g4)
      else
        J88 x2 g

def w_X4_lineUp (c : Nat) (g : fp_G) (K : Int32 → fp_G → Prop) : Prop :=
  ∃ n4, w_X4_lineUp_4 n4 c 0 0 g K

def w_J7_fill_53178_5 : Nat → Nat → Nat → Int32 → Int32 → Int32 → fp_G → (Int32 → fp_G → Prop) → Prop
  | 0, _, _, _, _, _, _, _ => False
  | n + 1, a, na, x1, x2, x3, g, K =>
    if x3 ≤ x2 then
      K 0 g
    else
      fp_wr g a na x2 x1 fun g1 =>
      w_J7_fill_53178_5 n a na x1 (x2 + 1) x3 g1 K

def w_J7_fill_53178 (a na : Nat) (x1 : Int32) (g : fp_G) (K : Int32 → fp_G → Prop) : Prop :=
  ∃ n5, w_J7_fill_53178_5 n5 a na x1 0 (Int32.ofNat na) g K

def w_X6_lastState_8 : Nat → Int32 → Int32 → Int32 → Int32 → fp_G → (Int32 → fp_G → Prop) → Prop
  | 0, _, _, _, _, _, _ => False
  | n + 1, x1, x2, x3, x4, g, K =>
    if x4 < 0 then
      K (-1) g
    else
      fp_rd (g 25) 80 x4 fun v1 =>
      fp_j (w_X6_lastState_8 n x1 x2 x3 (x4 + (-1)) g K) fun J40 =>
      if v1 = x1 then
        fp_rd (g 28) 80 x4 fun v2 =>
        if x2 < (v2 + x3) then
          J40
        else
          K x4 g
      else
        J40

def w_X6_lastState (x1 : Int32) (x2 : Int32) (x3 : Int32) (g : fp_G) (K : Int32 → fp_G → Prop) : Prop :=
  ∃ n8, w_X6_lastState_8 n8 x1 x2 x3 ((g 18 12) - 1) g K

def w_X6_stateBy (x1 : Int32) (x2 : Int32) (x3 : Int32) (g : fp_G) (K : Int32 → fp_G → Prop) : Prop :=
  w_X6_lastState x1 x2 x3 g fun v1 g1 =>
  if 0 ≤ v1 then
    fp_rd (g1 26) 80 v1 fun v2 =>
    K v2 g1
  else
    K 0 g1

def w_X4_takeFacts (c : Nat) (x2 : Int32) (x3 : Int32) (g : fp_G) (K : Int32 → fp_G → Prop) : Prop :=
  fp_rd (g (c + 2)) 60 x2 fun v1 =>
  fp_rd (g 40) 60 x2 fun v2 =>
  fp_rd (g 38) 60 x2 fun v3 =>
  fp_wr g 5 9 0 v3 fun g1 =>
  fp_rd (g1 41) 60 x2 fun v4 =>
  fp_wr g1 5 9 1 v4 fun g2 =>
  fp_rd (g2 42) 60 x2 fun v5 =>
  fp_wr g2 5 9 2 (x3 - v5) fun g3 =>
  fp_rd (g3 (c + 3)) 60 x2 fun v6 =>
  fp_wr g3 5 9 3 (x3 - v6) fun g4 =>
  w_X2_lateAt v1 g4 fun v7 g5 =>
  w_X6_stateBy v2 x3 v7 g5 fun v8 g6 =>
  fp_wr g6 5 9 4 v8 fun g7 =>
  fp_rd (g7 23) 40 v2 fun v9 =>
  fp_wr g7 5 9 5 v9 fun g8 =>
  fp_wr g8 5 9 6 v1 fun g9 =>
  fp_rd (g9 (c + 4)) 60 x2 fun v10 =>
  fp_j (fun (z0j150 : Int32) =>
      fp_wr g9 5 9 7 z0j150 fun g10 =>
      fp_rd (g10 (c + 6)) 60 x2 fun v11 =>
      fp_wr g10 5 9 8 v11 fun g11 =>
      K 0 g11) fun J150 =>
  if v10 = 0 then
    J150 0
  else
    J150 1

def w_X4_purposeHolds (x1 : Int32) (x2 : Int32) (x3 : Int32) (g : fp_G) (K : Int32 → fp_G → Prop) : Prop :=
  w_X2_lateAt x2 g fun v1 g1 =>
  w_X3_inForce x1 x3 v1 g1 fun v2 g2 =>
  fp_j (fun (g3 : fp_G) =>
      K 0 g3) fun J44 =>
  if v2 < 0 then
    J44 g2
  else
    w_X3_isTrue v2 g2 fun v3 g4 =>
    if v3 = 0 then
      J44 g4
    else
      K 1 g4

def w_X4_turnBack (c : Nat) (x2 : Int32) (x3 : Int32) (g : fp_G) (K : Int32 → fp_G → Prop) : Prop :=
  fp_rd (g (c + 4)) 60 x2 fun v1 =>
  if v1 = 0 then
    fp_rd (g 5) 9 4 fun v2 =>
    fp_rd (g (c + 2)) 60 x2 fun v3 =>
    w_X4_purposeHolds 2 v3 x3 g fun v4 g1 =>
    if v4 = 0 then
      fp_j (w_X0_turn c x2 v2 g1 fun _ g2 =>
          K 0 g2) fun J54 =>
      if v2 = 2 then
        J54
      else
        if v2 = 3 then
          J54
        else
          K 0 g1
    else
      w_X0_turn c x2 4 g1 fun _ g3 =>
      K 0 g3
  else
    K 0 g

def w_X6_unitAt_10 : Nat → Int32 → Int32 → Int32 → Int32 → Int32 → Int32 → fp_G → (Int32 → fp_G → Prop) → Prop
  | 0, _, _, _, _, _, _, _, _ => False
  | n + 1, x1, x2, x3, x4, x5, x6, g, K =>
    if (g 18 4) ≤ x6 then
      K x4 g
    else
      fp_rd (g 19) 60 x6 fun v1 =>
      fp_j (fun (z0j59 : Int32) =>
          fp_j (fun (x4j96 : Int32) (x5j96 : Int32) =>
              w_X6_unitAt_10 n x1 x2 x3 x4j96 x5j96 (x6 + 1) g K) fun J96 =>
          if z0j59 = 0 then
            J96 x4 x5
          else
            fp_rd (g 21) 60 x6 fun v2 =>
            if v2 < x5 then
              J96 x4 x5
            else
              fp_rd (g 21) 60 x6 fun v3 =>
              fp_rd (g 20) 60 x6 fun v4 =>
              J96 v4 v3) fun J59 =>
      fp_j (J59 0) fun J58 =>
      if v1 = x1 then
        fp_rd (g 22) 60 x6 fun v5 =>
        if x2 < (v5 + x3) then
          J58
        else
          fp_rd (g 21) 60 x6 fun v6 =>
          if x2 < v6 then
            J58
          else
            J59 1
      else
        J58

def w_X6_unitAt (x1 : Int32) (x2 : Int32) (x3 : Int32) (g : fp_G) (K : Int32 → fp_G → Prop) : Prop :=
  ∃ n10, w_X6_unitAt_10 n10 x1 x2 x3 (-9) 0 0 g K

def w_X4_goalOf (c : Nat) (x2 : Int32) (x3 : Int32) (g : fp_G) (K : Int32 → fp_G → Prop) : Prop :=
  fp_rd (g (c + 4)) 60 x2 fun v1 =>
  if v1 = 0 then
    fp_rd (g 40) 60 x2 fun v2 =>
    fp_rd (g (c + 2)) 60 x2 fun v3 =>
    w_X2_lateAt v3 g fun v4 g1 =>
    w_X6_lastState v2 x3 v4 g1 fun v5 g2 =>
    fp_j (fp_rd (g2 23) 40 v2 fun v6 =>
        w_X6_unitAt v6 x3 v4 g2 fun v7 g3 =>
        K v7 g3) fun J89 =>
    if v5 < 0 then
      J89
    else
      fp_rd (g2 26) 80 v5 fun v8 =>
      if v8 = 1 then
        fp_rd (g2 27) 80 v5 fun v9 =>
        K v9 g2
      else
        J89
  else
    fp_rd (g 39) 60 x2 fun v10 =>
    K v10 g

def w_X6_manIsAt (x1 : Int32) (x2 : Int32) (g : fp_G) (K : Int32 → fp_G → Prop) : Prop :=
  w_X6_lastState x1 x2 0 g fun v1 g1 =>
  fp_j (fp_rd (g1 23) 40 x1 fun v2 =>
      w_X6_unitAt v2 x2 0 g1 fun v3 g2 =>
      K v3 g2) fun J21 =>
  if v1 < 0 then
    J21
  else
    fp_rd (g1 26) 80 v1 fun v4 =>
    if v4 = 0 then
      J21
    else
      fp_rd (g1 26) 80 v1 fun v5 =>
      if v5 = 1 then
        fp_rd (g1 27) 80 v1 fun v6 =>
        K v6 g1
      else
        K (-9) g1

def w_X4_give (c : Nat) (x2 : Int32) (x3 : Int32) (g : fp_G) (K : Int32 → fp_G → Prop) : Prop :=
  fp_rd (g 38) 60 x2 fun v1 =>
  fp_j (fun (z0j18 : Int32) =>
      fp_j (fun (z0j58 : Int32) =>
          fp_wr g (c + 7) 60 x2 (vp_nar .boolean z0j58) fun g1 =>
          w_X0_finish c x2 2 x3 g1 fun _ g2 =>
          K 0 g2) fun J58 =>
      fp_j (J58 0) fun J57 =>
      if z0j18 = 0 then
        J57
      else
        fp_rd (g 42) 60 x2 fun v3 =>
        fp_rd (g 41) 60 x2 fun v4 =>
        if (x3 - v3) ≤ v4 then
          J57
        else
          J58 1) fun J18 =>
  if v1 = 1 then
    J18 1
  else
    J18 0

def w_X4_sendOn (c : Nat) (x2 : Int32) (x3 : Int32) (x4 : Int32) (g : fp_G) (K : Int32 → fp_G → Prop) : Prop :=
  fp_rd (g (c + 2)) 60 x2 fun v1 =>
  w_X2_wayTo v1 x3 g fun v2 g1 =>
  w_X2_hasWay v2 g1 fun v3 g2 =>
  if v3 = 0 then
    K 0 g2
  else
    w_X2_leaves v2 x4 g2 fun v4 g3 =>
    if v4 = 0 then
      K 0 g3
    else
      w_X2_otherEnd v2 v1 g3 fun v5 g4 =>
      fp_rd (g4 12) 24 v2 fun v6 =>
      w_X0_send c x2 v5 (x4 + v6) g4 fun _ g5 =>
      K 0 g5

def w_X4_handle (c : Nat) (x2 : Int32) (x3 : Int32) (g : fp_G) (K : Int32 → fp_G → Prop) : Prop :=
  fp_rd (g (c + 2)) 60 x2 fun v1 =>
  w_X4_goalOf c x2 x3 g fun v2 g1 =>
  fp_j (fp_j (fun (g2 : fp_G) =>
          fp_j (fp_rd (g2 (c + 3)) 60 x2 fun v3 =>
              if (x3 - v3) < (g2 2 7) then
                K 0 g2
              else
                w_X0_turn c x2 1 g2 fun _ g3 =>
                K 0 g3) fun J96 =>
          if v2 = v1 then
            J96
          else
            if v2 = (-9) then
              J96
            else
              w_X4_sendOn c x2 v2 x3 g2 fun _ g4 =>
              K 0 g4) fun J82 =>
      if v2 = v1 then
        fp_rd (g1 40) 60 x2 fun v6 =>
        w_X6_manIsAt v6 x3 g1 fun v7 g5 =>
        if v7 = v1 then
          w_X4_give c x2 x3 g5 fun _ g6 =>
          K 0 g6
        else
          J82 g5
      else
        J82 g1) fun J43 =>
  if v2 = v1 then
    fp_rd (g1 (c + 4)) 60 x2 fun v9 =>
    if v9 = 0 then
      J43
    else
      w_X0_finish c x2 3 x3 g1 fun _ g7 =>
      K 0 g7
  else
    J43

def w_X4_see (c : Nat) (x2 : Int32) (x3 : Int32) (g : fp_G) (K : Int32 → fp_G → Prop) : Prop :=
  fp_rd (g (c + 2)) 60 x2 fun v1 =>
  w_X4_takeFacts c x2 x3 g fun _ g1 =>
  w_X4_purposeHolds 0 v1 x3 g1 fun v3 g2 =>
  if v3 = 0 then
    w_X4_purposeHolds 1 v1 x3 g2 fun v4 g3 =>
    if v4 = 0 then
      w_X4_turnBack c x2 x3 g3 fun _ g4 =>
      w_X4_handle c x2 x3 g4 fun _ g5 =>
      K 0 g5
    else
      K 0 g3
  else
    w_X0_finish c x2 4 x3 g2 fun _ g6 =>
    K 0 g6

def w_X4_passHour_29 : Nat → Nat → Int32 → Int32 → Int32 → fp_G → (Int32 → fp_G → Prop) → Prop
  | 0, _, _, _, _, _, _ => False
  | n + 1, c, x2, x3, x4, g, K =>
    if x3 ≤ x4 then
      K 0 g
    else
      fp_rd (g 3) 60 x4 fun v4 =>
      fp_rd (g (c + 2)) 60 v4 fun v5 =>
      fp_rd (g 4) 12 v5 fun v6 =>
      fp_rd (g 7) 12 v5 fun v7 =>
      fp_j (fun (g4 : fp_G) =>
          w_X4_passHour_29 n c x2 x3 (x4 + 1) g4 K) fun J92 =>
      if v7 ≤ v6 then
        J92 g
      else
        fp_rd (g 4) 12 v5 fun v8 =>
        fp_wr g 4 12 v5 (v8 + 1) fun g5 =>
        w_X4_see c v4 x2 g5 fun _ g6 =>
        J92 g6

def w_X4_passHour (c : Nat) (x2 : Int32) (g : fp_G) (K : Int32 → fp_G → Prop) : Prop :=
  w_X0_arrive c (g 37 5) x2 g fun _ g1 =>
  w_X4_lineUp c g1 fun v2 g2 =>
  w_J7_fill_53178 4 12 0 g2 fun _ g3 =>
  ∃ n29, w_X4_passHour_29 n29 c x2 v2 0 g3 K

def w_X6_hasMan (x1 : Int32) (g : fp_G) (K : Int32 → fp_G → Prop) : Prop :=
  fp_j (K 0 g) fun J16 =>
  if x1 < 0 then
    J16
  else
    if (g 18 7) ≤ x1 then
      J16
    else
      K 1 g

def w_X6_addMove (x1 : Int32) (x2 : Int32) (x3 : Int32) (x4 : Int32) (g : fp_G) (K : Int32 → fp_G → Prop) : Prop :=
  fp_wr g 19 60 (g 18 4) x1 fun g1 =>
  fp_wr g1 20 60 (g1 18 4) x2 fun g2 =>
  fp_wr g2 21 60 (g2 18 4) x3 fun g3 =>
  fp_wr g3 22 60 (g3 18 4) x4 fun g4 =>
  fp_pf g4 18 4 ((g4 18 4) + 1) fun g5 =>
  K (g5 18 4) g5

def w_X6_addMan (x1 : Int32) (x2 : Int32) (g : fp_G) (K : Int32 → fp_G → Prop) : Prop :=
  fp_wr g 23 40 (g 18 7) x1 fun g1 =>
  fp_wr g1 24 40 (g1 18 7) x2 fun g2 =>
  fp_pf g2 18 7 ((g2 18 7) + 1) fun g3 =>
  K ((g3 18 7) - 1) g3

def w_X6_addState (x1 : Int32) (x2 : Int32) (x3 : Int32) (x4 : Int32) (g : fp_G) (K : Int32 → fp_G → Prop) : Prop :=
  fp_wr g 25 80 (g 18 12) x1 fun g1 =>
  fp_wr g1 26 80 (g1 18 12) x2 fun g2 =>
  fp_wr g2 27 80 (g2 18 12) x3 fun g3 =>
  fp_wr g3 28 80 (g3 18 12) x4 fun g4 =>
  fp_pf g4 18 12 ((g4 18 12) + 1) fun g5 =>
  K (g5 18 12) g5

def w_X6_fits_31 : Nat → Int32 → Int32 → Int32 → fp_G → (Int32 → fp_G → Prop) → Prop
  | 0, _, _, _, _, _ => False
  | n + 1, x4, x5, x6, g, K =>
    if 4 ≤ x6 then
      K 1 g
    else
      fp_dv 11 (fp_j (fp_dv 11 (fp_dv 10 (w_X6_fits_31 n (x4 / 10) (x5 / 11) (x6 + 1) g K))) fun J63 =>
      if (x5 - x5 / 11 * 11) = 10 then
        J63
      else
        fp_dv 10 (if (x5 - x5 / 11 * 11) = (x4 - x4 / 10 * 10) then
          J63
        else
          K 0 g))

def w_X6_fits (x1 : Int32) (x2 : Int32) (x3 : Int32) (g : fp_G) (K : Int32 → fp_G → Prop) : Prop :=
  fp_j (fp_rd (g 24) 40 x1 fun v1 =>
      ∃ n31, w_X6_fits_31 n31 v1 x3 0 g K) fun J17 =>
  if x2 = (-1) then
    J17
  else
    fp_rd (g 23) 40 x1 fun v2 =>
    if v2 = x2 then
      J17
    else
      K 0 g

def w_X6_fitting_5 : Nat → Int32 → Int32 → Int32 → Int32 → fp_G → (Int32 → fp_G → Prop) → Prop
  | 0, _, _, _, _, _, _ => False
  | n + 1, x1, x2, x3, x4, g, K =>
    if (g 18 7) ≤ x4 then
      K x3 g
    else
      w_X6_fits x4 x1 x2 g fun v1 g1 =>
      fp_j (fun (x3j28 : Int32) =>
          w_X6_fitting_5 n x1 x2 x3j28 (x4 + 1) g1 K) fun J28 =>
      if v1 = 0 then
        J28 x3
      else
        J28 (x3 + 1)

def w_X6_fitting (x1 : Int32) (x2 : Int32) (g : fp_G) (K : Int32 → fp_G → Prop) : Prop :=
  ∃ n5, w_X6_fitting_5 n5 x1 x2 0 0 g K

def w_X6_firstFitting_2 : Nat → Int32 → Int32 → Int32 → fp_G → (Int32 → fp_G → Prop) → Prop
  | 0, _, _, _, _, _ => False
  | n + 1, x1, x2, x3, g, K =>
    if (g 18 7) ≤ x3 then
      K (-9) g
    else
      w_X6_fits x3 x1 x2 g fun v1 g1 =>
      if v1 = 0 then
        w_X6_firstFitting_2 n x1 x2 (x3 + 1) g1 K
      else
        K x3 g1

def w_X6_firstFitting (x1 : Int32) (x2 : Int32) (g : fp_G) (K : Int32 → fp_G → Prop) : Prop :=
  ∃ n2, w_X6_firstFitting_2 n2 x1 x2 0 g K

def w_X7_addSack_36 : Nat → Int32 → Int32 → fp_G → (Int32 → fp_G → Prop) → Prop
  | 0, _, _, _, _ => False
  | n + 1, x2, x4, g, K =>
    fp_j (fp_wr g 65 7 x4 (g 61 3) fun g4 =>
        fp_pf g4 61 3 ((g4 61 3) + 1) fun g5 =>
        K ((g5 61 3) - 1) g5) fun J81 =>
    if x4 ≤ 0 then
      J81
    else
      fp_rd (g 65) 7 (x4 - 1) fun v1 =>
      fp_rd (g 63) 7 v1 fun v2 =>
      if v2 ≤ x2 then
        J81
      else
        fp_rd (g 65) 7 (x4 - 1) fun v3 =>
        fp_wr g 65 7 x4 v3 fun g6 =>
        w_X7_addSack_36 n x2 (x4 + (-1)) g6 K

def w_X7_addSack (x1 : Int32) (x2 : Int32) (x3 : Int32) (g : fp_G) (K : Int32 → fp_G → Prop) : Prop :=
  fp_wr g 62 7 (g 61 3) x1 fun g1 =>
  fp_wr g1 63 7 (g1 61 3) x2 fun g2 =>
  fp_wr g2 64 7 (g2 61 3) x3 fun g3 =>
  ∃ n36, w_X7_addSack_36 n36 x2 (g3 61 3) g3 K

def w_X7_addToRow (x1 : Int32) (g : fp_G) (K : Int32 → fp_G → Prop) : Prop :=
  fp_wr g 66 12 (g 61 6) x1 fun g1 =>
  fp_pf g1 61 6 ((g1 61 6) + 1) fun g2 =>
  K (g2 61 6) g2

def w_X7_isIn (x0 : Int32) (x1 : Int32) (g : fp_G) (K : Int32 → fp_G → Prop) : Prop :=
  if ((x1 >>> (x0 &&& 31)) &&& 1) = 1 then
    K 1 g
  else
    K 0 g

def w_X7_canBeMade_4 : Nat → Int32 → Int32 → Int32 → fp_G → (Int32 → fp_G → Prop) → Prop
  | 0, _, _, _, _, _ => False
  | n + 1, x1, x2, x3, g, K =>
    if (g 61 3) ≤ x3 then
      K 1 g
    else
      fp_rd (g 65) 7 x3 fun v1 =>
      w_X7_isIn v1 x1 g fun v2 g1 =>
      fp_j (fun (x2j52 : Int32) =>
          w_X7_canBeMade_4 n x1 x2j52 (x3 + 1) g1 K) fun J52 =>
      if v2 = 0 then
        J52 x2
      else
        fp_rd (g1 62) 7 v1 fun v3 =>
        fp_rd (g1 63) 7 v1 fun v4 =>
        if (x2 + v3) ≤ v4 then
          J52 (x2 + v3)
        else
          K 0 g1

def w_X7_canBeMade (x1 : Int32) (g : fp_G) (K : Int32 → fp_G → Prop) : Prop :=
  ∃ n4, w_X7_canBeMade_4 n4 x1 0 0 g K

def w_X7_sumOf_5 : Nat → Nat → Int32 → Int32 → Int32 → fp_G → (Int32 → fp_G → Prop) → Prop
  | 0, _, _, _, _, _, _ => False
  | n + 1, a, x2, x3, x4, g, K =>
    if (g 61 3) ≤ x4 then
      K x3 g
    else
      w_X7_isIn x4 x2 g fun v1 g1 =>
      fp_j (fun (x3j30 : Int32) =>
          w_X7_sumOf_5 n a x2 x3j30 (x4 + 1) g1 K) fun J30 =>
      if v1 = 0 then
        J30 x3
      else
        fp_rd (g1 a) 7 x4 fun v2 =>
        J30 (x3 + v2)

def w_X7_sumOf (a : Nat) (x2 : Int32) (g : fp_G) (K : Int32 → fp_G → Prop) : Prop :=
  ∃ n5, w_X7_sumOf_5 n5 a x2 0 0 g K

def w_X7_lettersOf (x1 : Int32) (g : fp_G) (K : Int32 → fp_G → Prop) : Prop :=
  w_X7_sumOf 64 x1 g fun v1 g1 =>
  K v1 g1

def w_X7_hoursOf (x1 : Int32) (g : fp_G) (K : Int32 → fp_G → Prop) : Prop :=
  w_X7_sumOf 62 x1 g fun v1 g1 =>
  K v1 g1

def w_X7_isBetter (x1 : Int32) (x2 : Int32) (g : fp_G) (K : Int32 → fp_G → Prop) : Prop :=
  w_X7_lettersOf x1 g fun v1 g1 =>
  w_X7_lettersOf x2 g1 fun v2 g2 =>
  fp_j (fun (g3 : fp_G) =>
      K 1 g3) fun J33 =>
  if 0 < (v1 - v2) then
    J33 g2
  else
    fp_j (fun (g4 : fp_G) =>
        K 0 g4) fun J37 =>
    if (v1 - v2) = 0 then
      w_X7_hoursOf x1 g2 fun v3 g5 =>
      w_X7_hoursOf x2 g5 fun v4 g6 =>
      if v4 ≤ v3 then
        J37 g6
      else
        J33 g6
    else
      J37 g2

def w_X7_bestSet_4 : Nat → Int32 → Int32 → fp_G → (Int32 → fp_G → Prop) → Prop
  | 0, _, _, _, _ => False
  | n + 1, x1, x2, g, K =>
    if (1 <<< ((g 61 3) &&& 31)) ≤ x2 then
      K x1 g
    else
      w_X7_canBeMade x2 g fun v1 g1 =>
      fp_j (fun (x1j33 : Int32) (g2 : fp_G) =>
          w_X7_bestSet_4 n x1j33 (x2 + 1) g2 K) fun J33 =>
      if v1 = 0 then
        J33 x1 g1
      else
        w_X7_isBetter x2 x1 g1 fun v2 g3 =>
        if v2 = 0 then
          J33 x1 g3
        else
          J33 x2 g3

def w_X7_bestSet  (g : fp_G) (K : Int32 → fp_G → Prop) : Prop :=
  ∃ n4, w_X7_bestSet_4 n4 0 1 g K

def w_X7_rowMade_6 : Nat → Int32 → Int32 → Int32 → fp_G → (Int32 → fp_G → Prop) → Prop
  | 0, _, _, _, _, _ => False
  | n + 1, x1, x2, x3, g, K =>
    if (g 61 6) ≤ x3 then
      K (g 61 6) g
    else
      fp_rd (g 66) 12 x3 fun v1 =>
      if v1 < 0 then
        K x3 g
      else
        if (g 61 3) ≤ v1 then
          K x3 g
        else
          w_X7_isIn v1 x1 g fun v2 g1 =>
          if v2 = 0 then
            fp_rd (g1 62) 7 v1 fun v3 =>
            fp_rd (g1 63) 7 v1 fun v4 =>
            if (x2 + v3) ≤ v4 then
              w_X7_rowMade_6 n (x1 ||| (1 <<< (v1 &&& 31))) (x2 + v3) (x3 + 1) g1 K
            else
              K x3 g1
          else
            K x3 g1

def w_X7_rowMade  (g : fp_G) (K : Int32 → fp_G → Prop) : Prop :=
  ∃ n6, w_X7_rowMade_6 n6 0 0 0 g K

def w_X7_rowLetters_4 : Nat → Int32 → Int32 → Int32 → fp_G → (Int32 → fp_G → Prop) → Prop
  | 0, _, _, _, _, _ => False
  | n + 1, x1, x2, x3, g, K =>
    if x1 ≤ x3 then
      K x2 g
    else
      fp_rd (g 66) 12 x3 fun v1 =>
      fp_rd (g 64) 7 v1 fun v2 =>
      w_X7_rowLetters_4 n x1 (x2 + v2) (x3 + 1) g K

def w_X7_rowLetters (x1 : Int32) (g : fp_G) (K : Int32 → fp_G → Prop) : Prop :=
  ∃ n4, w_X7_rowLetters_4 n4 x1 0 0 g K

def w_X8_refuse (x1 : Int32) (g : fp_G) (K : Int32 → fp_G → Prop) : Prop :=
  if (-x1) < 0 then
    K x1 g
  else
    if 7 ≤ (-x1) then
      K x1 g
    else
      fp_rd (g 1) 7 (-x1) fun v1 =>
      fp_wr g 1 7 (-x1) (v1 + 1) fun g1 =>
      K x1 g1

def w_X8_office (x1 : Int32) (x2 : Int32) (g : fp_G) (K : Int32 → fp_G → Prop) : Prop :=
  if 0 ≤ x1 then
    fp_j (w_X8_refuse (-6) g fun v1 g1 =>
        K v1 g1) fun J29 =>
    if 99 < x1 then
      J29
    else
      if (g 6 3) < 12 then
        w_X2_addOffice x1 x2 g fun v2 g2 =>
        K v2 g2
      else
        J29
  else
    w_X8_refuse (-4) g fun v3 g3 =>
    K v3 g3

def w_X8_outside (x0 : Int32) (x1 : Int32) (x2 : Int32) (g : fp_G) (K : Int32 → fp_G → Prop) : Prop :=
  if x1 ≤ x0 then
    if x0 ≤ x2 then
      K 0 g
    else
      K (-6) g
  else
    K (-4) g

def w_X8_staff (x1 : Int32) (x2 : Int32) (x3 : Int32) (g : fp_G) (K : Int32 → fp_G → Prop) : Prop :=
  w_X2_hasOffice x1 g fun v1 g1 =>
  fp_j (fun (z0j22 : Int32) (g2 : fp_G) =>
      if 0 ≤ z0j22 then
        w_X2_setOffice x1 x2 x3 g2 fun v2 g3 =>
        K v2 g3
      else
        w_X8_refuse z0j22 g2 fun v3 g4 =>
        K v3 g4) fun J22 =>
  if v1 = 0 then
    J22 (-1) g1
  else
    w_X8_outside x2 0 99 g1 fun v4 g5 =>
    J22 v4 g5

def w_X8_way (x1 : Int32) (x2 : Int32) (x3 : Int32) (x4 : Int32) (x5 : Int32) (g : fp_G) (K : Int32 → fp_G → Prop) : Prop :=
  w_X2_hasOffice x1 g fun v1 g1 =>
  fp_j (fun (g2 : fp_G) =>
      w_X8_refuse (-1) g2 fun v2 g3 =>
      K v2 g3) fun J27 =>
  if v1 = 0 then
    J27 g1
  else
    w_X2_hasOffice x2 g1 fun v3 g4 =>
    if v3 = 0 then
      J27 g4
    else
      if x1 = x2 then
        J27 g4
      else
        fp_j (w_X8_refuse (-4) g4 fun v4 g5 =>
            K v4 g5) fun J49 =>
        if x3 < 1 then
          J49
        else
          if x4 < 0 then
            J49
          else
            if 1 ≤ x5 then
              fp_j (w_X8_refuse (-6) g4 fun v5 g6 =>
                  K v5 g6) fun J89 =>
              if 48 < x3 then
                J89
              else
                if 2000 < x4 then
                  J89
                else
                  if 48 < x5 then
                    J89
                  else
                    if (g4 6 9) < 24 then
                      w_X2_addWay x1 x2 x3 x4 x5 g4 fun v6 g7 =>
                      K v6 g7
                    else
                      J89
            else
              J49

def w_X8_shut (x1 : Int32) (x2 : Int32) (x3 : Int32) (g : fp_G) (K : Int32 → fp_G → Prop) : Prop :=
  w_X2_hasWay x1 g fun v1 g1 =>
  if v1 = 0 then
    w_X8_refuse (-1) g1 fun v5 g5 =>
    K v5 g5
  else
    fp_j (w_X8_refuse (-4) g1 fun v2 g2 =>
        K v2 g2) fun J30 =>
    if x2 < (g1 0 9) then
      J30
    else
      if x2 ≤ x3 then
        fp_j (w_X8_refuse (-6) g1 fun v3 g3 =>
            K v3 g3) fun J56 =>
        if 2000 < x3 then
          J56
        else
          if (g1 6 13) < 40 then
            w_X2_addShut x1 x2 x3 g1 fun v4 g4 =>
            K v4 g4
          else
            J56
      else
        J30

def w_X8_reachedOrNone (x0 : Int32) (g : fp_G) (K : Int32 → fp_G → Prop) : Prop :=
  if 1000000 ≤ x0 then
    K (-9) g
  else
    K x0 g

def w_X8_far (x1 : Int32) (x2 : Int32) (g : fp_G) (K : Int32 → fp_G → Prop) : Prop :=
  w_X2_hasOffice x1 g fun v1 g1 =>
  fp_j (fun (g2 : fp_G) =>
      w_X8_refuse (-1) g2 fun v2 g3 =>
      K v2 g3) fun J22 =>
  if v1 = 0 then
    J22 g1
  else
    w_X2_hasOffice x2 g1 fun v3 g4 =>
    if v3 = 0 then
      J22 g4
    else
      w_X2_farBetween x1 x2 g4 fun v4 g5 =>
      w_X8_reachedOrNone v4 g5 fun v5 g6 =>
      K v5 g6

def w_X8_late (x1 : Int32) (g : fp_G) (K : Int32 → fp_G → Prop) : Prop :=
  w_X2_hasOffice x1 g fun v1 g1 =>
  if v1 = 0 then
    w_X8_refuse (-1) g1 fun v4 g4 =>
    K v4 g4
  else
    w_X2_lateAt x1 g1 fun v2 g2 =>
    w_X8_reachedOrNone v2 g2 fun v3 g3 =>
    K v3 g3

def w_X8_hours_33 : Nat → Int32 → Int32 → fp_G → (Int32 → fp_G → Prop) → Prop
  | 0, _, _, _, _ => False
  | n + 1, x1, x2, g, K =>
    if x1 ≤ x2 then
      K (g 0 9) g
    else
      w_X4_passHour 43 (g 0 9) g fun _ g1 =>
      fp_pf g1 0 9 ((g1 0 9) + 1) fun g2 =>
      w_X8_hours_33 n x1 (x2 + 1) g2 K

def w_X8_hours (x1 : Int32) (g : fp_G) (K : Int32 → fp_G → Prop) : Prop :=
  if 1 ≤ x1 then
    if x1 ≤ (2000 - (g 0 9)) then
      ∃ n33, w_X8_hours_33 n33 x1 0 g K
    else
      w_X8_refuse (-6) g fun v2 g3 =>
      K v2 g3
  else
    w_X8_refuse (-4) g fun v3 g4 =>
    K v3 g4

def w_X8_isUnit (x0 : Int32) (g : fp_G) (K : Int32 → fp_G → Prop) : Prop :=
  fp_j (K 0 g) fun J14 =>
  if x0 < 0 then
    J14
  else
    if 16 ≤ x0 then
      J14
    else
      K 1 g

def w_X8_move (x1 : Int32) (x2 : Int32) (x3 : Int32) (g : fp_G) (K : Int32 → fp_G → Prop) : Prop :=
  w_X8_isUnit x1 g fun v1 g1 =>
  fp_j (fun (g2 : fp_G) =>
      w_X8_refuse (-1) g2 fun v2 g3 =>
      K v2 g3) fun J18 =>
  if v1 = 0 then
    J18 g1
  else
    w_X2_hasOffice x2 g1 fun v3 g4 =>
    if v3 = 0 then
      J18 g4
    else
      if (g4 0 9) ≤ x3 then
        fp_j (w_X8_refuse (-6) g4 fun v4 g5 =>
            K v4 g5) fun J58 =>
        if 2000 < x3 then
          J58
        else
          if (g4 18 4) < 60 then
            w_X6_addMove x1 x2 x3 (g4 0 9) g4 fun v5 g6 =>
            K v5 g6
          else
            J58
      else
        w_X8_refuse (-4) g4 fun v6 g7 =>
        K v6 g7

def w_X8_is (x1 : Int32) (x2 : Int32) (g : fp_G) (K : Int32 → fp_G → Prop) : Prop :=
  w_X8_isUnit x1 g fun v1 g1 =>
  fp_j (fun (z0j19 : Int32) (g2 : fp_G) =>
      if 0 ≤ z0j19 then
        w_X6_unitAt x1 x2 0 g2 fun v2 g3 =>
        K v2 g3
      else
        w_X8_refuse z0j19 g2 fun v3 g4 =>
        K v3 g4) fun J19 =>
  if v1 = 0 then
    J19 (-1) g1
  else
    w_X8_outside x2 0 2000 g1 fun v4 g5 =>
    J19 v4 g5

def w_X8_list (x1 : Int32) (x2 : Int32) (x3 : Int32) (g : fp_G) (K : Int32 → fp_G → Prop) : Prop :=
  w_X2_hasOffice x1 g fun v1 g1 =>
  fp_j (fun (z0j23 : Int32) (g2 : fp_G) =>
      fp_j (fun (z0j42 : Int32) (g3 : fp_G) =>
          if 0 ≤ z0j42 then
            w_X2_lateAt x1 g3 fun v2 g4 =>
            w_X6_unitAt x2 x3 v2 g4 fun v3 g5 =>
            K v3 g5
          else
            w_X8_refuse z0j42 g3 fun v4 g6 =>
            K v4 g6) fun J42 =>
      if z0j23 = 0 then
        J42 (-1) g2
      else
        w_X8_outside x3 0 2000 g2 fun v5 g7 =>
        J42 v5 g7) fun J23 =>
  fp_j (fun (g8 : fp_G) =>
      J23 0 g8) fun J22 =>
  if v1 = 0 then
    J22 g1
  else
    w_X8_isUnit x2 g1 fun v6 g9 =>
    if v6 = 0 then
      J22 g9
    else
      J23 1 g9

def w_X8_man (x1 : Int32) (x2 : Int32) (g : fp_G) (K : Int32 → fp_G → Prop) : Prop :=
  w_X8_isUnit x1 g fun v1 g1 =>
  if v1 = 0 then
    w_X8_refuse (-1) g1 fun v5 g5 =>
    K v5 g5
  else
    if 0 ≤ x2 then
      fp_j (w_X8_refuse (-6) g1 fun v2 g2 =>
          K v2 g2) fun J43 =>
      if 9999 < x2 then
        J43
      else
        if (g1 18 7) < 40 then
          w_X6_addMan x1 x2 g1 fun v3 g3 =>
          K v3 g3
        else
          J43
    else
      w_X8_refuse (-4) g1 fun v4 g4 =>
      K v4 g4

def w_X8_state (x1 : Int32) (x2 : Int32) (x3 : Int32) (g : fp_G) (K : Int32 → fp_G → Prop) : Prop :=
  w_X6_hasMan x1 g fun v1 g1 =>
  fp_j (fun (g2 : fp_G) =>
      w_X8_refuse (-1) g2 fun v2 g3 =>
      K v2 g3) fun J27 =>
  if v1 = 0 then
    J27 g1
  else
    fp_j (fun (g4 : fp_G) =>
        fp_j (w_X8_refuse (-2) g4 fun v3 g5 =>
            K v3 g5) fun J42 =>
        if x2 < 0 then
          J42
        else
          if x2 ≤ 3 then
            if (g4 18 12) < 80 then
              w_X6_addState x1 x2 x3 (g4 0 9) g4 fun v4 g6 =>
              K v4 g6
            else
              w_X8_refuse (-6) g4 fun v5 g7 =>
              K v5 g7
          else
            J42) fun J33 =>
    if x2 = 1 then
      w_X2_hasOffice x3 g1 fun v6 g8 =>
      if v6 = 0 then
        J27 g8
      else
        J33 g8
    else
      J33 g1

def w_X8_stateOf (x1 : Int32) (x2 : Int32) (x3 : Int32) (g : fp_G) (K : Int32 → fp_G → Prop) : Prop :=
  fp_j (fun (z0j10 : Int32) =>
      w_X6_hasMan x1 g fun v1 g1 =>
      fp_j (fun (z0j44 : Int32) (g2 : fp_G) =>
          fp_j (fun (z0j63 : Int32) (g3 : fp_G) =>
              if 0 ≤ z0j63 then
                if z0j10 = 0 then
                  w_X2_lateAt x3 g3 fun v2 g4 =>
                  w_X6_stateBy x1 x2 v2 g4 fun v3 g5 =>
                  K v3 g5
                else
                  w_X6_stateBy x1 x2 0 g3 fun v4 g6 =>
                  K v4 g6
              else
                w_X8_refuse z0j63 g3 fun v5 g7 =>
                K v5 g7) fun J63 =>
          if z0j44 = 0 then
            J63 (-1) g2
          else
            w_X8_outside x2 0 2000 g2 fun v6 g8 =>
            J63 v6 g8) fun J44 =>
      fp_j (fun (g9 : fp_G) =>
          J44 0 g9) fun J43 =>
      if v1 = 0 then
        J43 g1
      else
        fp_j (fun (g10 : fp_G) =>
            J44 1 g10) fun J39 =>
        if z0j10 = 0 then
          w_X2_hasOffice x3 g1 fun v7 g11 =>
          if v7 = 0 then
            J43 g11
          else
            J39 g11
        else
          J39 g1) fun J10 =>
  if x3 = (-1) then
    J10 1
  else
    J10 0

def w_X8_manAt (x1 : Int32) (g : fp_G) (K : Int32 → fp_G → Prop) : Prop :=
  w_X6_hasMan x1 g fun v1 g1 =>
  if v1 = 0 then
    w_X8_refuse (-1) g1 fun v3 g3 =>
    K v3 g3
  else
    w_X6_manIsAt x1 (g1 0 9) g1 fun v2 g2 =>
    K v2 g2

def w_X8_mostWeight (x0 : Int32) (g : fp_G) (K : Int32 → fp_G → Prop) : Prop :=
  if x0 = 2 then
    K 9999 g
  else
    if x0 = 1 then
      K 999 g
    else
      K 99 g

def w_X8_mail (x1 : Int32) (x2 : Int32) (x3 : Int32) (x4 : Int32) (g : fp_G) (K : Int32 → fp_G → Prop) : Prop :=
  fp_j (w_X8_refuse (-2) g fun v1 g1 =>
      K v1 g1) fun J9 =>
  if x1 < 0 then
    J9
  else
    if x1 ≤ 2 then
      w_X2_hasOffice x2 g fun v2 g2 =>
      fp_j (fun (g3 : fp_G) =>
          w_X8_refuse (-1) g3 fun v3 g4 =>
          K v3 g4) fun J38 =>
      if v2 = 0 then
        J38 g2
      else
        w_X6_hasMan x3 g2 fun v4 g5 =>
        if v4 = 0 then
          J38 g5
        else
          fp_j (fun (z0j56 : Int32) =>
              if z0j56 ≤ x4 then
                w_X8_mostWeight x1 g5 fun v5 g6 =>
                fp_j (w_X8_refuse (-6) g6 fun v6 g7 =>
                    K v6 g7) fun J87 =>
                if v5 < x4 then
                  J87
                else
                  if (g6 37 5) < 60 then
                    w_X1_add x1 x2 x3 x4 (g6 0 9) g6 fun v7 g8 =>
                    w_X0_begin 43 v7 x2 (g8 0 9) g8 fun _ g9 =>
                    K v7 g9
                  else
                    J87
              else
                w_X8_refuse (-4) g5 fun v9 g10 =>
                K v9 g10) fun J56 =>
          if x1 = 1 then
            J56 1
          else
            J56 0
    else
      J9

def w_X8_feed (x1 : Int32) (x2 : Int64) (g : fp_G) (K : Int32 → fp_G → Prop) : Prop :=
  if 1 ≤ x1 then
    fp_j (w_X8_refuse (-6) g fun v1 g1 =>
        K v1 g1) fun J32 =>
    if 8 < x1 then
      J32
    else
      if x1 ≤ (60 - (g 29 1)) then
        w_X3_addBytes x1 x2 g fun v2 g2 =>
        K v2 g2
      else
        J32
  else
    w_X8_refuse (-4) g fun v3 g3 =>
    K v3 g3

def w_X8_isPurpose (x0 : Int32) (g : fp_G) (K : Int32 → fp_G → Prop) : Prop :=
  fp_j (K 0 g) fun J13 =>
  if x0 < 0 then
    J13
  else
    if 2 < x0 then
      J13
    else
      K 1 g

def w_X8_order (x1 : Int32) (g : fp_G) (K : Int32 → fp_G → Prop) : Prop :=
  w_X8_isPurpose x1 g fun v1 g1 =>
  if v1 = 0 then
    w_X8_refuse (-2) g1 fun v4 g4 =>
    K v4 g4
  else
    if (g1 29 6) < 30 then
      w_X3_addOrder x1 (g1 0 9) g1 fun v2 g2 =>
      if 0 ≤ v2 then
        K ((-20) - v2) g2
      else
        K (g2 29 6) g2
    else
      w_X8_refuse (-6) g1 fun v3 g3 =>
      K v3 g3

def w_X8_notAtOffice (x1 : Int32) (g : fp_G) (K : Int32 → fp_G → Prop) : Prop :=
  w_X1_has x1 g fun v1 g1 =>
  if v1 = 0 then
    K (-1) g1
  else
    fp_rd (g1 44) 60 x1 fun v2 =>
    if v2 = 0 then
      K 0 g1
    else
      K (-3) g1

def w_X8_holds (x1 : Int32) (x2 : Int32) (g : fp_G) (K : Int32 → fp_G → Prop) : Prop :=
  w_X8_isPurpose x1 g fun v1 g1 =>
  if v1 = 0 then
    w_X8_refuse (-2) g1 fun v7 g6 =>
    K v7 g6
  else
    w_X8_notAtOffice x2 g1 fun v2 g2 =>
    if 0 ≤ v2 then
      w_X4_takeFacts 43 x2 (g2 0 9) g2 fun _ g3 =>
      fp_rd (g3 45) 60 x2 fun v4 =>
      w_X4_purposeHolds x1 v4 (g3 0 9) g3 fun v5 g4 =>
      if v5 = 0 then
        K 0 g4
      else
        K 1 g4
    else
      w_X8_refuse v2 g2 fun v6 g5 =>
      K v6 g5

def w_X8_keep (x1 : Int32) (g : fp_G) (K : Int32 → fp_G → Prop) : Prop :=
  w_X8_outside x1 1 999 g fun v1 g1 =>
  if 0 ≤ v1 then
    fp_pf g1 2 7 x1 fun g2 =>
    K (g1 2 7) g2
  else
    w_X8_refuse v1 g1 fun v2 g3 =>
    K v2 g3

def w_X8_mailOf (x1 : Int32) (x2 : Int32) (g : fp_G) (K : Int32 → fp_G → Prop) : Prop :=
  w_X1_has x1 g fun v1 g1 =>
  if v1 = 0 then
    w_X8_refuse (-1) g1 fun v11 g3 =>
    K v11 g3
  else
    if x2 = 0 then
      fp_rd (g1 38) 60 x1 fun v2 =>
      K v2 g1
    else if x2 = 1 then
      fp_rd (g1 44) 60 x1 fun v3 =>
      K v3 g1
    else if x2 = 2 then
      fp_rd (g1 45) 60 x1 fun v4 =>
      K v4 g1
    else if x2 = 3 then
      fp_rd (g1 46) 60 x1 fun v5 =>
      K v5 g1
    else if x2 = 4 then
      fp_rd (g1 47) 60 x1 fun v6 =>
      if v6 = 0 then
        K 0 g1
      else
        K 1 g1
    else if x2 = 5 then
      fp_rd (g1 48) 60 x1 fun v7 =>
      K v7 g1
    else if x2 = 6 then
      fp_rd (g1 49) 60 x1 fun v8 =>
      K v8 g1
    else if x2 = 7 then
      fp_rd (g1 50) 60 x1 fun v9 =>
      if v9 = 0 then
        K 0 g1
      else
        K 1 g1
    else w_X8_refuse (-2) g1 fun v10 g2 =>
      K v10 g2

def w_X8_goal (x1 : Int32) (g : fp_G) (K : Int32 → fp_G → Prop) : Prop :=
  w_X8_notAtOffice x1 g fun v1 g1 =>
  if 0 ≤ v1 then
    w_X4_goalOf 43 x1 (g1 0 9) g1 fun v2 g2 =>
    K v2 g2
  else
    w_X8_refuse v1 g1 fun v3 g3 =>
    K v3 g3

def w_X8_next (x1 : Int32) (g : fp_G) (K : Int32 → fp_G → Prop) : Prop :=
  w_X8_notAtOffice x1 g fun v1 g1 =>
  if 0 ≤ v1 then
    fp_rd (g1 45) 60 x1 fun v2 =>
    w_X4_goalOf 43 x1 (g1 0 9) g1 fun v3 g2 =>
    w_X2_wayTo v2 v3 g2 fun v4 g3 =>
    K v4 g3
  else
    w_X8_refuse v1 g1 fun v5 g4 =>
    K v5 g4

def w_X8_trace (x1 : Int32) (x2 : Int32) (g : fp_G) (K : Int32 → fp_G → Prop) : Prop :=
  w_X1_has x1 g fun v1 g1 =>
  if v1 = 0 then
    w_X8_refuse (-1) g1 fun v3 g3 =>
    K v3 g3
  else
    w_X0_traced 43 x1 x2 g1 fun v2 g2 =>
    K v2 g2

def w_X8_fro (x1 : Int32) (g : fp_G) (K : Int32 → fp_G → Prop) : Prop :=
  w_X1_has x1 g fun v1 g1 =>
  if v1 = 0 then
    w_X8_refuse (-1) g1 fun v3 g3 =>
    K v3 g3
  else
    w_X0_toAndFro 43 x1 g1 fun v2 g2 =>
    K v2 g2

def w_X8_endOf (c : Nat) (x1 : Int32) (x2 : Int32) (g : fp_G) (K : Int32 → fp_G → Prop) : Prop :=
  if x2 = 0 then
    fp_rd (g (c + 3)) 60 x1 fun v2 =>
    K v2 g
  else
    fp_rd (g (c + 1)) 60 x1 fun v1 =>
    K v1 g

def w_X8_after_74 : Nat → Int32 → Int32 → Int32 → fp_G → (Int32 → fp_G → Prop) → Prop
  | 0, _, _, _, _, _ => False
  | n + 1, x1, x2, x3, g, K =>
    if 300 ≤ x3 then
      K (-9) g
    else
      w_X4_passHour 52 ((g 0 9) + x3) g fun _ g4 =>
      w_X0_ended 52 x1 g4 fun v5 g5 =>
      if v5 = 0 then
        w_X8_after_74 n x1 x2 (x3 + 1) g5 K
      else
        w_X8_endOf 52 x1 x2 g5 fun v6 g6 =>
        K v6 g6

def w_X8_after (x1 : Int32) (x2 : Int32) (g : fp_G) (K : Int32 → fp_G → Prop) : Prop :=
  w_X1_has x1 g fun v1 g1 =>
  if v1 = 0 then
    w_X8_refuse (-1) g1 fun v9 g9 =>
    K v9 g9
  else
    fp_j (w_X0_ended 43 x1 g1 fun v2 g2 =>
        if v2 = 0 then
          w_X0_copyFrom 52 (g2 37 5) g2 fun _ g3 =>
          ∃ n74, w_X8_after_74 n74 x1 x2 0 g3 K
        else
          w_X8_endOf 43 x1 x2 g2 fun v7 g7 =>
          K v7 g7) fun J33 =>
    if x2 = 0 then
      J33
    else
      if x2 = 1 then
        J33
      else
        w_X8_refuse (-2) g1 fun v8 g8 =>
        K v8 g8

def w_X8_paid_21 : Nat → Int32 → Int32 → Int32 → fp_G → (Int32 → fp_G → Prop) → Prop
  | 0, _, _, _, _, _ => False
  | n + 1, x1, x2, x3, g, K =>
    if (g 37 5) ≤ x3 then
      K x2 g
    else
      fp_rd (g 40) 60 x3 fun v2 =>
      fp_j (fun (x2j83 : Int32) =>
          w_X8_paid_21 n x1 x2j83 (x3 + 1) g K) fun J83 =>
      if v2 = x1 then
        fp_rd (g 38) 60 x3 fun v3 =>
        if v3 = 2 then
          fp_rd (g 44) 60 x3 fun v4 =>
          if v4 = 2 then
            fp_rd (g 41) 60 x3 fun v5 =>
            J83 (x2 + v5)
          else
            J83 x2
        else
          J83 x2
      else
        J83 x2

def w_X8_paid (x1 : Int32) (g : fp_G) (K : Int32 → fp_G → Prop) : Prop :=
  w_X6_hasMan x1 g fun v1 g1 =>
  if v1 = 0 then
    w_X8_refuse (-1) g1 fun v6 g2 =>
    K v6 g2
  else
    ∃ n21, w_X8_paid_21 n21 x1 0 0 g1 K

def w_X8_notACover (x0 : Int32) (x1 : Int32) (g : fp_G) (K : Int32 → fp_G → Prop) : Prop :=
  fp_j (fun (g1 : fp_G) =>
      w_X8_outside x1 0 14640 g1 fun v1 g2 =>
      K v1 g2) fun J12 =>
  if x0 = (-1) then
    J12 g
  else
    w_X8_isUnit x0 g fun v2 g3 =>
    if v2 = 0 then
      K (-1) g3
    else
      J12 g3

def w_X8_cover (x1 : Int32) (x2 : Int32) (g : fp_G) (K : Int32 → fp_G → Prop) : Prop :=
  w_X8_notACover x1 x2 g fun v1 g1 =>
  if 0 ≤ v1 then
    w_X6_fitting x1 x2 g1 fun v2 g2 =>
    K v2 g2
  else
    w_X8_refuse v1 g1 fun v3 g3 =>
    K v3 g3

def w_X8_sure (x1 : Int32) (x2 : Int32) (g : fp_G) (K : Int32 → fp_G → Prop) : Prop :=
  w_X8_notACover x1 x2 g fun v1 g1 =>
  if 0 ≤ v1 then
    w_X6_fitting x1 x2 g1 fun v2 g2 =>
    if v2 = 1 then
      w_X6_firstFitting x1 x2 g2 fun v3 g3 =>
      K v3 g3
    else
      K (-9) g2
  else
    w_X8_refuse v1 g1 fun v4 g4 =>
    K v4 g4

def w_X8_sack (x1 : Int32) (x2 : Int32) (x3 : Int32) (g : fp_G) (K : Int32 → fp_G → Prop) : Prop :=
  fp_j (w_X8_refuse (-4) g fun v1 g1 =>
      K v1 g1) fun J14 =>
  if x1 < 1 then
    J14
  else
    if x2 < 1 then
      J14
    else
      if 0 ≤ x3 then
        fp_j (w_X8_refuse (-6) g fun v2 g2 =>
            K v2 g2) fun J53 =>
        if 99 < x1 then
          J53
        else
          if 999 < x2 then
            J53
          else
            if 9999 < x3 then
              J53
            else
              if (g 61 3) < 7 then
                w_X7_addSack x1 x2 x3 g fun v3 g3 =>
                K v3 g3
              else
                J53
      else
        J14

def w_X8_best (x1 : Int32) (g : fp_G) (K : Int32 → fp_G → Prop) : Prop :=
  fp_j (w_X8_refuse (-2) g fun v1 g1 =>
      K v1 g1) fun J9 =>
  if x1 < 0 then
    J9
  else
    if x1 ≤ 2 then
      w_X7_bestSet g fun v2 g2 =>
      if x1 = 0 then
        K v2 g2
      else
        if x1 = 1 then
          w_X7_lettersOf v2 g2 fun v4 g4 =>
          K v4 g4
        else
          w_X7_hoursOf v2 g2 fun v3 g3 =>
          K v3 g3
    else
      J9

def w_X8_put (x1 : Int32) (g : fp_G) (K : Int32 → fp_G → Prop) : Prop :=
  if (-128) ≤ x1 then
    fp_j (w_X8_refuse (-6) g fun v1 g1 =>
        K v1 g1) fun J31 =>
    if 127 < x1 then
      J31
    else
      if (g 61 6) < 12 then
        w_X7_addToRow x1 g fun v2 g2 =>
        K v2 g2
      else
        J31
  else
    w_X8_refuse (-4) g fun v3 g3 =>
    K v3 g3

def w_X8_judge (x1 : Int32) (g : fp_G) (K : Int32 → fp_G → Prop) : Prop :=
  fp_j (w_X7_rowMade g fun v1 g1 =>
      if x1 = 0 then
        if (g1 61 6) ≤ v1 then
          K (-9) g1
        else
          K v1 g1
      else
        w_X7_bestSet g1 fun v2 g2 =>
        w_X7_lettersOf v2 g2 fun v3 g3 =>
        w_X7_rowLetters v1 g3 fun v4 g4 =>
        fp_pf g4 61 6 0 fun g5 =>
        K (v3 - v4) g5) fun J16 =>
  if x1 = 0 then
    J16
  else
    if x1 = 1 then
      J16
    else
      w_X8_refuse (-2) g fun v5 g6 =>
      K v5 g6

def w_X8_waiting_21 : Nat → Int32 → Int32 → Int32 → fp_G → (Int32 → fp_G → Prop) → Prop
  | 0, _, _, _, _, _ => False
  | n + 1, x1, x2, x3, g, K =>
    if (g 37 5) ≤ x3 then
      K x2 g
    else
      fp_rd (g 44) 60 x3 fun v2 =>
      fp_j (fun (x2j60 : Int32) =>
          w_X8_waiting_21 n x1 x2j60 (x3 + 1) g K) fun J60 =>
      if v2 = 0 then
        fp_rd (g 45) 60 x3 fun v3 =>
        if v3 = x1 then
          J60 (x2 + 1)
        else
          J60 x2
      else
        J60 x2

def w_X8_waiting (x1 : Int32) (g : fp_G) (K : Int32 → fp_G → Prop) : Prop :=
  w_X2_hasOffice x1 g fun v1 g1 =>
  if v1 = 0 then
    w_X8_refuse (-1) g1 fun v4 g2 =>
    K v4 g2
  else
    ∃ n21, w_X8_waiting_21 n21 x1 0 0 g1 K

def w_X8_count (x1 : Int32) (g : fp_G) (K : Int32 → fp_G → Prop) : Prop :=
  if x1 = 0 then
    K (g 0 9) g
  else if x1 = 1 then
    K (g 6 3) g
  else if x1 = 2 then
    K (g 6 9) g
  else if x1 = 3 then
    K (g 18 4) g
  else if x1 = 4 then
    K (g 18 7) g
  else if x1 = 5 then
    K (g 37 5) g
  else if x1 = 6 then
    w_X0_howMany 43 2 (g 37 5) g fun v1 g1 =>
    K v1 g1
  else if x1 = 7 then
    w_X0_howMany 43 3 (g 37 5) g fun v2 g2 =>
    K v2 g2
  else if x1 = 8 then
    w_X0_howMany 43 4 (g 37 5) g fun v3 g3 =>
    K v3 g3
  else if x1 = 9 then
    w_X0_howManySpoilt 43 (g 37 5) g fun v4 g4 =>
    K v4 g4
  else if x1 = 10 then
    K (g 29 1) g
  else if x1 = 11 then
    fp_rd (g 1) 7 (x1 - 10) fun v5 =>
    K v5 g
  else if x1 = 12 then
    fp_rd (g 1) 7 (x1 - 10) fun v6 =>
    K v6 g
  else if x1 = 13 then
    fp_rd (g 1) 7 (x1 - 10) fun v7 =>
    K v7 g
  else if x1 = 14 then
    fp_rd (g 1) 7 (x1 - 10) fun v8 =>
    K v8 g
  else if x1 = 15 then
    fp_rd (g 1) 7 (x1 - 10) fun v9 =>
    K v9 g
  else if x1 = 16 then
    fp_rd (g 1) 7 (x1 - 10) fun v10 =>
    K v10 g
  else if x1 = 17 then
    K (g 61 6) g
  else if x1 = 18 then
    K (g 29 6) g
  else K (-9) g
