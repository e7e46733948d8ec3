def w_X9_no (x1 : Int32) (g : fp_G) (K : Int32 → fp_G → Prop) : Prop :=
  fp_rd (g 68) 7 (-x1) fun v1 =>
  fp_wr g 68 7 (-x1) (v1 + 1) fun g1 =>
  K x1 g1

def w_X9_isIn (x0 : Int64) (x2 : Int64) (x4 : Int64) (g : fp_G) (K : Int32 → fp_G → Prop) : Prop :=
  fp_j (K 0 g) fun J17 =>
  if (lg_cmp x0 x2) < 0 then
    J17
  else
    if 0 < (lg_cmp x0 x4) then
      J17
    else
      K 1 g

def w_X9_out (x0 : Int64) (x2 : Int64) (x4 : Int64) (g : fp_G) (K : Int32 → fp_G → Prop) : Prop :=
  if 0 ≤ (lg_cmp x0 x2) then
    if (lg_cmp x0 x4) ≤ 0 then
      K 0 g
    else
      K (-6) g
  else
    K (-4) g

def w_X9_isOffice (x1 : Int32) (g : fp_G) (K : Int32 → fp_G → Prop) : Prop :=
  fp_j (K 0 g) fun J16 =>
  if x1 < 0 then
    J16
  else
    if (g 67 12) ≤ x1 then
      J16
    else
      K 1 g

def w_X9_office (x1 : Int32) (x2 : Int32) (g : fp_G) (K : Int32 → fp_G → Prop) : Prop :=
  w_X9_out ((x1 : Int32).toInt64) 0 99 g fun v1 g1 =>
  fp_j (fun (x3j26 : Int32) =>
      if x3j26 = 0 then
        fp_wr g1 69 12 (g1 67 12) x1 fun g2 =>
        fp_wr g2 79 12 (g2 67 12) (vp_nar .boolean x2) fun g3 =>
        fp_pf g3 67 12 ((g3 67 12) + 1) fun g4 =>
        K ((g4 67 12) - 1) g4
      else
        w_X9_no x3j26 g1 fun v2 g5 =>
        K v2 g5) fun J26 =>
  if v1 = 0 then
    if (g1 67 12) = 12 then
      J26 (-6)
    else
      J26 v1
  else
    J26 v1

def w_X9_staff (x1 : Int32) (x2 : Int32) (x3 : Int32) (g : fp_G) (K : Int32 → fp_G → Prop) : Prop :=
  w_X9_isOffice x1 g fun v1 g1 =>
  if v1 = 0 then
    w_X9_no (-1) g1 fun v5 g6 =>
    K v5 g6
  else
    w_X9_out ((x2 : Int32).toInt64) 0 99 g1 fun v2 g2 =>
    if v2 = 0 then
      fp_rd (g2 69) 12 x1 fun v3 =>
      fp_wr g2 69 12 x1 x2 fun g3 =>
      fp_wr g3 79 12 x1 (vp_nar .boolean x3) fun g4 =>
      K v3 g4
    else
      w_X9_no v2 g2 fun v4 g5 =>
      K v4 g5

def w_X9_way (x1 : Int32) (x2 : Int32) (x3 : Int32) (x4 : Int32) (x5 : Int32) (g : fp_G) (K : Int32 → fp_G → Prop) : Prop :=
  w_X9_isOffice x1 g fun v1 g1 =>
  fp_j (fun (g2 : fp_G) =>
      w_X9_no (-1) g2 fun v2 g3 =>
      K v2 g3) fun J21 =>
  if v1 = 0 then
    J21 g1
  else
    w_X9_isOffice x2 g1 fun v3 g4 =>
    if v3 = 0 then
      J21 g4
    else
      if x1 = x2 then
        J21 g4
      else
        fp_j (fun (z0j84 : Int32) =>
            if z0j84 = 0 then
              fp_wr g4 70 24 (g4 67 13) x1 fun g5 =>
              fp_wr g5 71 24 (g5 67 13) x2 fun g6 =>
              fp_wr g6 72 24 (g6 67 13) x3 fun g7 =>
              fp_wr g7 73 24 (g7 67 13) x4 fun g8 =>
              fp_wr g8 74 24 (g8 67 13) x5 fun g9 =>
              fp_pf g9 67 13 ((g9 67 13) + 1) fun g10 =>
              K ((g10 67 13) - 1) g10
            else
              w_X9_no z0j84 g4 fun v4 g11 =>
              K v4 g11) fun J84 =>
        fp_j (J84 (-4)) fun J43 =>
        if x3 < 1 then
          J43
        else
          if x4 < 0 then
            J43
          else
            if 1 ≤ x5 then
              fp_j (J84 (-6)) fun J78 =>
              if 48 < x3 then
                J78
              else
                if 2000 < x4 then
                  J78
                else
                  if 48 < x5 then
                    J78
                  else
                    if (g4 67 13) = 24 then
                      J78
                    else
                      J84 0
            else
              J43

def w_X9_shut (x1 : Int32) (x2 : Int32) (x3 : Int32) (g : fp_G) (K : Int32 → fp_G → Prop) : Prop :=
  w_X9_isIn ((x1 : Int32).toInt64) 0 (((g 67 13) - 1 : Int32).toInt64) g fun v1 g1 =>
  if v1 = 0 then
    w_X9_no (-1) g1 fun v3 g7 =>
    K v3 g7
  else
    fp_j (fun (z0j69 : Int32) =>
        if z0j69 = 0 then
          fp_wr g1 75 40 (g1 67 14) x1 fun g2 =>
          fp_wr g2 76 40 (g2 67 14) x2 fun g3 =>
          fp_wr g3 77 40 (g3 67 14) x3 fun g4 =>
          fp_pf g4 67 14 ((g4 67 14) + 1) fun g5 =>
          K (g5 67 14) g5
        else
          w_X9_no z0j69 g1 fun v2 g6 =>
          K v2 g6) fun J69 =>
    fp_j (J69 (-4)) fun J35 =>
    if x2 < (g1 67 15) then
      J35
    else
      if x2 ≤ x3 then
        fp_j (J69 (-6)) fun J63 =>
        if 2000 < x2 then
          J63
        else
          if 2000 < x3 then
            J63
          else
            if (g1 67 14) = 40 then
              J63
            else
              J69 0
      else
        J35

def w_X9_leaves_32 : Nat → Int32 → Int32 → Int32 → fp_G → (Int32 → fp_G → Prop) → Prop
  | 0, _, _, _, _, _ => False
  | n + 1, x1, x2, x3, g, K =>
    if (g 67 14) ≤ x3 then
      K 1 g
    else
      fp_rd (g 75) 40 x3 fun v4 =>
      fp_j (fun (g1 : fp_G) =>
          w_X9_leaves_32 n x1 x2 (x3 + 1) g1 K) fun J74 =>
      if v4 = x1 then
        fp_rd (g 76) 40 x3 fun v5 =>
        fp_rd (g 77) 40 x3 fun v6 =>
        w_X9_isIn ((x2 : Int32).toInt64) ((v5 : Int32).toInt64) ((v6 : Int32).toInt64) g fun v7 g2 =>
        if v7 = 0 then
          J74 g2
        else
          K 0 g2
      else
        J74 g

def w_X9_leaves (x1 : Int32) (x2 : Int32) (g : fp_G) (K : Int32 → fp_G → Prop) : Prop :=
  fp_rd (g 73) 24 x1 fun v1 =>
  if x2 < v1 then
    K 0 g
  else
    fp_rd (g 73) 24 x1 fun v2 =>
    fp_rd (g 74) 24 x1 fun v3 =>
    fp_dv v3 (if ((x2 - v2) - (x2 - v2) / v3 * v3) = 0 then
      ∃ n32, w_X9_leaves_32 n32 x1 x2 0 g K
    else
      K 0 g)

def w_X9_findFar_56 : Nat → Int32 → Int32 → Int32 → fp_G → (Int32 → fp_G → Prop) → (fp_G → Prop) → Prop
  | 0, _, _, _, _, _, _ => False
  | n + 1, x1, x2, x3, g, K, E186 =>
    if (g 67 12) ≤ x3 then
      E186 g
    else
      fp_rd (g 70) 24 x2 fun v1 =>
      fp_rd (g 71) 24 x2 fun v2 =>
      fp_rd (g 78) 144 ((12 * x3) + v1) fun v3 =>
      fp_rd (g 72) 24 x2 fun v4 =>
      fp_rd (g 78) 144 ((12 * x3) + v2) fun v5 =>
      fp_j (fun (g1 : fp_G) =>
          fp_rd (g1 78) 144 ((12 * x3) + v2) fun v6 =>
          fp_rd (g1 72) 24 x2 fun v7 =>
          fp_rd (g1 78) 144 ((12 * x3) + v1) fun v8 =>
          fp_j (fun (g2 : fp_G) =>
              w_X9_findFar_56 n x1 x2 (x3 + 1) g2 K E186) fun J180 =>
          if v8 ≤ (v6 + v7) then
            J180 g1
          else
            fp_rd (g1 78) 144 ((12 * x3) + v2) fun v9 =>
            fp_rd (g1 72) 24 x2 fun v10 =>
            fp_wr g1 78 144 ((12 * x3) + v1) (v9 + v10) fun g3 =>
            J180 g3) fun J135 =>
      if v5 ≤ (v3 + v4) then
        J135 g
      else
        fp_rd (g 78) 144 ((12 * x3) + v1) fun v11 =>
        fp_rd (g 72) 24 x2 fun v12 =>
        fp_wr g 78 144 ((12 * x3) + v2) (v11 + v12) fun g4 =>
        J135 g4

def w_X9_findFar_46 : Nat → Int32 → Int32 → fp_G → (Int32 → fp_G → Prop) → (fp_G → Prop) → Prop
  | 0, _, _, _, _, _ => False
  | n + 1, x1, x2, g, K, E192 =>
    if (g 67 13) ≤ x2 then
      E192 g
    else
      ∃ n56, w_X9_findFar_56 n56 x1 x2 0 g K (fun g5 => w_X9_findFar_46 n x1 (x2 + 1) g5 K E192)

def w_X9_findFar_36 : Nat → Int32 → fp_G → (Int32 → fp_G → Prop) → Prop
  | 0, _, _, _ => False
  | n + 1, x1, g, K =>
    if (g 67 12) ≤ x1 then
      K 0 g
    else
      ∃ n46, w_X9_findFar_46 n46 x1 0 g K (fun g6 => w_X9_findFar_36 n (x1 + 1) g6 K)

def w_X9_findFar_2 : Nat → Int32 → fp_G → (Int32 → fp_G → Prop) → Prop
  | 0, _, _, _ => False
  | n + 1, x1, g, K =>
    if 144 ≤ x1 then
      ∃ n36, w_X9_findFar_36 n36 0 g K
    else
      fp_dv 13 (fp_j (fun (z0j27 : Int32) =>
          fp_wr g 78 144 x1 z0j27 fun g7 =>
          w_X9_findFar_2 n (x1 + 1) g7 K) fun J27 =>
      if (x1 - x1 / 13 * 13) = 0 then
        J27 0
      else
        J27 1000000)

def w_X9_findFar  (g : fp_G) (K : Int32 → fp_G → Prop) : Prop :=
  ∃ n2, w_X9_findFar_2 n2 0 g K

def w_X9_far (x1 : Int32) (x2 : Int32) (g : fp_G) (K : Int32 → fp_G → Prop) : Prop :=
  w_X9_isOffice x1 g fun v1 g1 =>
  fp_j (fun (g2 : fp_G) =>
      w_X9_no (-1) g2 fun v2 g3 =>
      K v2 g3) fun J16 =>
  if v1 = 0 then
    J16 g1
  else
    w_X9_isOffice x2 g1 fun v3 g4 =>
    if v3 = 0 then
      J16 g4
    else
      w_X9_findFar g4 fun _ g5 =>
      fp_rd (g5 78) 144 ((12 * x1) + x2) fun v5 =>
      if v5 < 1000000 then
        fp_rd (g5 78) 144 ((12 * x1) + x2) fun v6 =>
        K v6 g5
      else
        K (-9) g5

def w_X9_lateOf (x1 : Int32) (g : fp_G) (K : Int32 → fp_G → Prop) : Prop :=
  fp_rd (g 79) 12 x1 fun v1 =>
  if v1 = 0 then
    fp_rd (g 78) 144 x1 fun v2 =>
    if v2 < 1000000 then
      fp_rd (g 78) 144 x1 fun v3 =>
      K v3 g
    else
      K (-9) g
  else
    K 0 g

def w_X9_late (x1 : Int32) (g : fp_G) (K : Int32 → fp_G → Prop) : Prop :=
  w_X9_isOffice x1 g fun v1 g1 =>
  if v1 = 0 then
    w_X9_no (-1) g1 fun v4 g4 =>
    K v4 g4
  else
    w_X9_findFar g1 fun _ g2 =>
    w_X9_lateOf x1 g2 fun v3 g3 =>
    K v3 g3

def w_X9_isHeard (x1 : Int32) (x2 : Int32) (x3 : Int32) (g : fp_G) (K : Int32 → fp_G → Prop) : Prop :=
  if 0 ≤ x2 then
    w_X9_lateOf x2 g fun v1 g1 =>
    fp_j (K 0 g1) fun J39 =>
    if v1 < 0 then
      J39
    else
      if x3 < (x1 + v1) then
        J39
      else
        K 1 g1
  else
    if x3 < x1 then
      K 0 g
    else
      K 1 g

def w_X9_isUnit (x0 : Int32) (g : fp_G) (K : Int32 → fp_G → Prop) : Prop :=
  fp_j (K 0 g) fun J14 =>
  if x0 < 0 then
    J14
  else
    if 16 ≤ x0 then
      J14
    else
      K 1 g

def w_X9_isMan (x1 : Int32) (g : fp_G) (K : Int32 → fp_G → Prop) : Prop :=
  fp_j (K 0 g) fun J16 =>
  if x1 < 0 then
    J16
  else
    if (g 67 27) ≤ x1 then
      J16
    else
      K 1 g

def w_X9_move (x1 : Int32) (x2 : Int32) (x3 : Int32) (g : fp_G) (K : Int32 → fp_G → Prop) : Prop :=
  w_X9_isUnit x1 g fun v1 g1 =>
  fp_j (fun (g2 : fp_G) =>
      w_X9_no (-1) g2 fun v2 g3 =>
      K v2 g3) fun J15 =>
  if v1 = 0 then
    J15 g1
  else
    w_X9_isOffice x2 g1 fun v3 g4 =>
    if v3 = 0 then
      J15 g4
    else
      fp_j (fun (z0j56 : Int32) =>
          if z0j56 = 0 then
            fp_wr g4 80 60 (g4 67 26) x1 fun g5 =>
            fp_wr g5 81 60 (g5 67 26) x2 fun g6 =>
            fp_wr g6 82 60 (g6 67 26) x3 fun g7 =>
            fp_wr g7 83 60 (g7 67 26) (g7 67 15) fun g8 =>
            fp_pf g8 67 26 ((g8 67 26) + 1) fun g9 =>
            K (g9 67 26) g9
          else
            w_X9_no z0j56 g4 fun v4 g10 =>
            K v4 g10) fun J56 =>
      if (g4 67 15) ≤ x3 then
        fp_j (J56 (-6)) fun J50 =>
        if 2000 < x3 then
          J50
        else
          if (g4 67 26) = 60 then
            J50
          else
            J56 0
      else
        J56 (-4)

def w_X9_unitAt_7 : Nat → Int32 → Int32 → Int32 → Int32 → Int32 → fp_G → (Int32 → fp_G → Prop) → Prop
  | 0, _, _, _, _, _, _, _ => False
  | n + 1, x1, x2, x3, x4, x5, g, K =>
    if (g 67 26) ≤ x5 then
      if 0 ≤ x4 then
        fp_rd (g 81) 60 x4 fun v1 =>
        K v1 g
      else
        K (-9) g
    else
      fp_rd (g 80) 60 x5 fun v2 =>
      fp_j (fun (x4j87 : Int32) (g1 : fp_G) =>
          w_X9_unitAt_7 n x1 x2 x3 x4j87 (x5 + 1) g1 K) fun J87 =>
      if v2 = x1 then
        fp_rd (g 82) 60 x5 fun v3 =>
        if x2 < v3 then
          J87 x4 g
        else
          fp_j (fun (g2 : fp_G) =>
              fp_j (J87 x5 g2) fun J83 =>
              if x4 < 0 then
                J83
              else
                fp_rd (g2 82) 60 x5 fun v4 =>
                fp_rd (g2 82) 60 x4 fun v5 =>
                if v4 < v5 then
                  J87 x4 g2
                else
                  J83) fun J61 =>
          if x3 < 0 then
            J61 g
          else
            fp_rd (g 83) 60 x5 fun v6 =>
            w_X9_isHeard v6 x3 x2 g fun v7 g3 =>
            if v7 = 0 then
              J87 x4 g3
            else
              J61 g3
      else
        J87 x4 g

def w_X9_unitAt (x1 : Int32) (x2 : Int32) (x3 : Int32) (g : fp_G) (K : Int32 → fp_G → Prop) : Prop :=
  ∃ n7, w_X9_unitAt_7 n7 x1 x2 x3 (-9) 0 g K

def w_X9_is (x1 : Int32) (x2 : Int32) (g : fp_G) (K : Int32 → fp_G → Prop) : Prop :=
  w_X9_isUnit x1 g fun v1 g1 =>
  if v1 = 0 then
    w_X9_no (-1) g1 fun v5 g5 =>
    K v5 g5
  else
    w_X9_out ((x2 : Int32).toInt64) 0 2000 g1 fun v2 g2 =>
    if v2 = 0 then
      w_X9_unitAt x1 x2 (-1) g2 fun v3 g3 =>
      K v3 g3
    else
      w_X9_no v2 g2 fun v4 g4 =>
      K v4 g4

def w_X9_list (x1 : Int32) (x2 : Int32) (x3 : Int32) (g : fp_G) (K : Int32 → fp_G → Prop) : Prop :=
  w_X9_isOffice x1 g fun v1 g1 =>
  fp_j (fun (g2 : fp_G) =>
      w_X9_no (-1) g2 fun v2 g3 =>
      K v2 g3) fun J15 =>
  if v1 = 0 then
    J15 g1
  else
    w_X9_isUnit x2 g1 fun v3 g4 =>
    if v3 = 0 then
      J15 g4
    else
      w_X9_out ((x3 : Int32).toInt64) 0 2000 g4 fun v4 g5 =>
      if v4 = 0 then
        w_X9_findFar g5 fun _ g6 =>
        w_X9_unitAt x2 x3 x1 g6 fun v6 g7 =>
        K v6 g7
      else
        w_X9_no v4 g5 fun v7 g8 =>
        K v7 g8

def w_X9_man (x1 : Int32) (x2 : Int32) (g : fp_G) (K : Int32 → fp_G → Prop) : Prop :=
  w_X9_isUnit x1 g fun v1 g1 =>
  if v1 = 0 then
    w_X9_no (-1) g1 fun v4 g7 =>
    K v4 g7
  else
    w_X9_out ((x2 : Int32).toInt64) 0 9999 g1 fun v2 g2 =>
    fp_j (fun (x3j39 : Int32) =>
        if x3j39 = 0 then
          fp_wr g2 84 40 (g2 67 27) x1 fun g3 =>
          fp_wr g3 85 40 (g3 67 27) x2 fun g4 =>
          fp_pf g4 67 27 ((g4 67 27) + 1) fun g5 =>
          K ((g5 67 27) - 1) g5
        else
          w_X9_no x3j39 g2 fun v3 g6 =>
          K v3 g6) fun J39 =>
    if v2 = 0 then
      if (g2 67 27) = 40 then
        J39 (-6)
      else
        J39 v2
    else
      J39 v2

def w_X9_state (x1 : Int32) (x2 : Int32) (x3 : Int32) (g : fp_G) (K : Int32 → fp_G → Prop) : Prop :=
  w_X9_isMan x1 g fun v1 g1 =>
  fp_j (fun (g2 : fp_G) =>
      w_X9_no (-1) g2 fun v2 g3 =>
      K v2 g3) fun J21 =>
  if v1 = 0 then
    J21 g1
  else
    fp_j (fun (g4 : fp_G) =>
        w_X9_isIn ((x2 : Int32).toInt64) 0 3 g4 fun v3 g5 =>
        if v3 = 0 then
          w_X9_no (-2) g5 fun v5 g12 =>
          K v5 g12
        else
          if (g5 67 28) = 80 then
            w_X9_no (-6) g5 fun v4 g11 =>
            K v4 g11
          else
            fp_wr g5 86 80 (g5 67 28) x1 fun g6 =>
            fp_wr g6 87 80 (g6 67 28) x2 fun g7 =>
            fp_wr g7 88 80 (g7 67 28) x3 fun g8 =>
            fp_wr g8 89 80 (g8 67 28) (g8 67 15) fun g9 =>
            fp_pf g9 67 28 ((g9 67 28) + 1) fun g10 =>
            K (g10 67 28) g10) fun J27 =>
    if x2 = 1 then
      w_X9_isOffice x3 g1 fun v6 g13 =>
      if v6 = 0 then
        J21 g13
      else
        J27 g13
    else
      J27 g1

def w_X9_latest_7 : Nat → Int32 → Int32 → Int32 → Int32 → Int32 → fp_G → (Int32 → fp_G → Prop) → Prop
  | 0, _, _, _, _, _, _, _ => False
  | n + 1, x1, x2, x3, x4, x5, g, K =>
    if (g 67 28) ≤ x5 then
      K x4 g
    else
      fp_rd (g 86) 80 x5 fun v1 =>
      fp_j (fun (z0j50 : Int32) (g1 : fp_G) =>
          w_X9_latest_7 n x1 x2 x3 z0j50 (x5 + 1) g1 K) fun J50 =>
      fp_j (fun (g2 : fp_G) =>
          J50 x4 g2) fun J48 =>
      if v1 = x1 then
        fp_rd (g 89) 80 x5 fun v2 =>
        w_X9_isHeard v2 x3 x2 g fun v3 g3 =>
        if v3 = 0 then
          J48 g3
        else
          J50 x5 g3
      else
        J48 g

def w_X9_latest (x1 : Int32) (x2 : Int32) (x3 : Int32) (g : fp_G) (K : Int32 → fp_G → Prop) : Prop :=
  ∃ n7, w_X9_latest_7 n7 x1 x2 x3 (-9) 0 g K

def w_X9_stateAt (x1 : Int32) (x2 : Int32) (x3 : Int32) (g : fp_G) (K : Int32 → fp_G → Prop) : Prop :=
  w_X9_latest x1 x2 x3 g fun v1 g1 =>
  if 0 ≤ v1 then
    fp_rd (g1 87) 80 v1 fun v2 =>
    K v2 g1
  else
    K 0 g1

def w_X9_stateOf (x1 : Int32) (x2 : Int32) (x3 : Int32) (g : fp_G) (K : Int32 → fp_G → Prop) : Prop :=
  w_X9_isMan x1 g fun v1 g1 =>
  fp_j (fun (g2 : fp_G) =>
      w_X9_no (-1) g2 fun v2 g3 =>
      K v2 g3) fun J21 =>
  if v1 = 0 then
    J21 g1
  else
    fp_j (fun (g4 : fp_G) =>
        w_X9_out ((x2 : Int32).toInt64) 0 2000 g4 fun v3 g5 =>
        if v3 = 0 then
          w_X9_findFar g5 fun _ g6 =>
          w_X9_stateAt x1 x2 x3 g6 fun v5 g7 =>
          K v5 g7
        else
          w_X9_no v3 g5 fun v6 g8 =>
          K v6 g8) fun J27 =>
    if x3 = (-1) then
      J27 g1
    else
      w_X9_isOffice x3 g1 fun v7 g9 =>
      if v7 = 0 then
        J21 g9
      else
        J27 g9

def w_X9_whereIs (x1 : Int32) (x2 : Int32) (g : fp_G) (K : Int32 → fp_G → Prop) : Prop :=
  w_X9_latest x1 x2 (-1) g fun v1 g1 =>
  fp_j (fun (z0j22 : Int32) =>
      if z0j22 = 0 then
        fp_rd (g1 84) 40 x1 fun v3 =>
        w_X9_unitAt v3 x2 (-1) g1 fun v4 g2 =>
        K v4 g2
      else
        if z0j22 = 1 then
          fp_rd (g1 88) 80 v1 fun v2 =>
          K v2 g1
        else
          K (-9) g1) fun J22 =>
  if 0 ≤ v1 then
    fp_rd (g1 87) 80 v1 fun v5 =>
    J22 v5
  else
    J22 0

def w_X9_manAt (x1 : Int32) (g : fp_G) (K : Int32 → fp_G → Prop) : Prop :=
  w_X9_isMan x1 g fun v1 g1 =>
  if v1 = 0 then
    w_X9_no (-1) g1 fun v2 g2 =>
    K v2 g2
  else
    w_X9_whereIs x1 (g1 67 15) g1 fun v3 g3 =>
    K v3 g3

def w_X9_isMail (x1 : Int32) (g : fp_G) (K : Int32 → fp_G → Prop) : Prop :=
  fp_j (K 0 g) fun J16 =>
  if x1 < 0 then
    J16
  else
    if (g 67 42) ≤ x1 then
      J16
    else
      K 1 g

def w_X9_comes (x1 : Int32) (x2 : Int32) (x3 : Int32) (g : fp_G) (K : Int32 → fp_G → Prop) : Prop :=
  fp_wr g 95 60 x1 0 fun g1 =>
  fp_wr g1 96 60 x1 x2 fun g2 =>
  fp_wr g2 97 60 x1 x3 fun g3 =>
  fp_rd (g3 99) 60 x1 fun v1 =>
  fp_j (fun (g4 : fp_G) =>
      fp_rd (g4 99) 60 x1 fun v2 =>
      fp_wr g4 99 60 x1 (v2 + 1) fun g5 =>
      K 0 g5) fun J49 =>
  if 40 ≤ v1 then
    J49 g3
  else
    fp_rd (g3 99) 60 x1 fun v3 =>
    fp_wr g3 100 2400 ((40 * x1) + v3) x2 fun g6 =>
    J49 g6

def w_X9_mail (x1 : Int32) (x2 : Int32) (x3 : Int32) (x4 : Int32) (g : fp_G) (K : Int32 → fp_G → Prop) : Prop :=
  w_X9_isIn ((x1 : Int32).toInt64) 0 2 g fun v1 g1 =>
  if v1 = 0 then
    w_X9_no (-2) g1 fun v7 g14 =>
    K v7 g14
  else
    w_X9_isOffice x2 g1 fun v2 g2 =>
    fp_j (fun (g3 : fp_G) =>
        w_X9_no (-1) g3 fun v3 g4 =>
        K v3 g4) fun J35 =>
    if v2 = 0 then
      J35 g2
    else
      w_X9_isMan x3 g2 fun v4 g5 =>
      if v4 = 0 then
        J35 g5
      else
        fp_j (fun (z0j53 : Int32) =>
            fp_j (fun (z0j104 : Int32) =>
                if z0j104 = 0 then
                  fp_wr g5 90 60 (g5 67 42) x1 fun g6 =>
                  fp_wr g6 92 60 (g5 67 42) (g6 67 15) fun g7 =>
                  fp_wr g7 91 60 (g5 67 42) x2 fun g8 =>
                  fp_wr g8 93 60 (g5 67 42) x3 fun g9 =>
                  fp_wr g9 94 60 (g5 67 42) x4 fun g10 =>
                  fp_pf g10 67 42 ((g10 67 42) + 1) fun g11 =>
                  w_X9_comes (g5 67 42) x2 (g11 67 15) g11 fun _ g12 =>
                  K (g5 67 42) g12
                else
                  w_X9_no z0j104 g5 fun v6 g13 =>
                  K v6 g13) fun J104 =>
            if z0j53 ≤ x4 then
              fp_j (fun (z0j86 : Int32) =>
                  fp_j (J104 (-6)) fun J98 =>
                  if z0j86 < x4 then
                    J98
                  else
                    if (g5 67 42) = 60 then
                      J98
                    else
                      J104 0) fun J86 =>
              if x1 = 0 then
                J86 99
              else
                if x1 = 1 then
                  J86 999
                else
                  J86 9999
            else
              J104 (-4)) fun J53 =>
        if x1 = 1 then
          J53 1
        else
          J53 0

def w_X9_feed_46 : Nat → Int32 → Int64 → Int32 → fp_G → (Int32 → fp_G → Prop) → Prop
  | 0, _, _, _, _, _ => False
  | n + 1, x1, x2, x5, g, K =>
    if x1 ≤ x5 then
      K (g 67 51) g
    else
      fp_wr g 103 60 (g 67 51) (((x2 >>> ((8 * x5 : Int32).toInt64 &&& 63)) &&& 255 : Int64).toInt32) fun g2 =>
      fp_pf g2 67 51 ((g2 67 51) + 1) fun g3 =>
      w_X9_feed_46 n x1 x2 (x5 + 1) g3 K

def w_X9_feed (x1 : Int32) (x2 : Int64) (g : fp_G) (K : Int32 → fp_G → Prop) : Prop :=
  w_X9_out ((x1 : Int32).toInt64) 1 8 g fun v1 g1 =>
  fp_j (fun (x4j31 : Int32) =>
      if x4j31 = 0 then
        ∃ n46, w_X9_feed_46 n46 x1 x2 0 g1 K
      else
        w_X9_no x4j31 g1 fun v2 g4 =>
        K v2 g4) fun J31 =>
  if v1 = 0 then
    if ((g1 67 51) + x1) ≤ 60 then
      J31 v1
    else
      J31 (-6)
  else
    J31 v1

def w_X9_sign  (g : fp_G) (K : Int32 → fp_G → Prop) : Prop :=
  if (g 67 51) ≤ (g 67 53) then
    K (-1) g
  else
    fp_rd (g 103) 60 (g 67 53) fun v1 =>
    K v1 g

def w_X9_isDigit (x0 : Int32) (g : fp_G) (K : Int32 → fp_G → Prop) : Prop :=
  fp_j (K 0 g) fun J16 =>
  if x0 < 48 then
    J16
  else
    if 57 < x0 then
      J16
    else
      K 1 g

def w_X9_isFact (x0 : Int32) (g : fp_G) (K : Int32 → fp_G → Prop) : Prop :=
  fp_j (K 1 g) fun J54 =>
  if x0 = 107 then
    J54
  else
    if x0 = 119 then
      J54
    else
      if x0 = 97 then
        J54
      else
        if x0 = 104 then
          J54
        else
          if x0 = 115 then
            J54
          else
            if x0 = 117 then
              J54
            else
              if x0 = 111 then
                J54
              else
                if x0 = 98 then
                  J54
                else
                  if x0 = 99 then
                    J54
                  else
                    K 0 g

def w_X9_unit_36 : Nat → Int32 → fp_G → (Int32 → fp_G → Prop) → Prop
  | 0, _, _, _ => False
  | n + 1, x1, g, K =>
    if 4 ≤ x1 then
      K 1 g
    else
      w_X9_sign g fun v5 g5 =>
      w_X9_isDigit v5 g5 fun v6 g6 =>
      if v6 = 0 then
        K 1 g6
      else
        fp_pf g6 67 53 ((g6 67 53) + 1) fun g7 =>
        w_X9_unit_36 n (x1 + 1) g7 K

def w_X9_unit  (g : fp_G) (K : Int32 → fp_G → Prop) : Prop :=
  w_X9_sign g fun v1 g1 =>
  w_X9_isFact v1 g1 fun v2 g2 =>
  if v2 = 0 then
    w_X9_sign g2 fun v3 g3 =>
    w_X9_isDigit v3 g3 fun v4 g4 =>
    if v4 = 0 then
      K 0 g4
    else
      ∃ n36, w_X9_unit_36 n36 0 g4 K
  else
    fp_pf g2 67 53 ((g2 67 53) + 1) fun g8 =>
    K 1 g8

def w_X9_closes_0 : Nat → fp_G → (Int32 → fp_G → Prop) → Prop
  | 0, _, _ => False
  | n + 1, g, K =>
    if (g 67 54) ≤ 0 then
      K 0 g
    else
      fp_rd (g 108) 8 ((g 67 54) - 1) fun v1 =>
      if v1 = 1 then
        fp_pf g 67 54 ((g 67 54) - 1) fun g1 =>
        w_X9_closes_0 n g1 K
      else
        K 0 g

def w_X9_closes  (g : fp_G) (K : Int32 → fp_G → Prop) : Prop :=
  ∃ n0, w_X9_closes_0 n0 g K

def w_X9_parses_145 : Nat → fp_G → (Int32 → fp_G → Prop) → (fp_G → Prop) → Prop
  | 0, _, _, _ => False
  | n + 1, g, K, E188 =>
    w_X9_sign g fun v8 g16 =>
    if v8 = 41 then
      if (g16 67 54) ≤ 0 then
        E188 g16
      else
        fp_pf g16 67 53 ((g16 67 53) + 1) fun g17 =>
        fp_pf g17 67 54 ((g17 67 54) - 1) fun g18 =>
        w_X9_closes g18 fun _ g19 =>
        w_X9_parses_145 n g19 K E188
    else
      E188 g16

def w_X9_parses_10 : Nat → fp_G → (Int32 → fp_G → Prop) → Prop
  | 0, _, _ => False
  | n + 1, g, K =>
    w_X9_sign g fun v1 g3 =>
    fp_j (fun (g4 : fp_G) =>
        if (g4 67 54) = 5 then
          K 0 g4
        else
          w_X9_sign g4 fun v2 g5 =>
          fp_j (fun (z0j60 : Int32) =>
              fp_wr g5 108 8 (g4 67 54) z0j60 fun g6 =>
              fp_pf g6 67 54 ((g6 67 54) + 1) fun g7 =>
              fp_pf g7 67 53 ((g7 67 53) + 1) fun g8 =>
              w_X9_parses_10 n g8 K) fun J60 =>
          if v2 = 33 then
            J60 1
          else
            J60 2) fun J28 =>
    if v1 = 33 then
      J28 g3
    else
      w_X9_sign g3 fun v3 g9 =>
      if v3 = 40 then
        J28 g9
      else
        w_X9_unit g9 fun v4 g10 =>
        if v4 = 0 then
          K 0 g10
        else
          w_X9_sign g10 fun v5 g11 =>
          fp_j (fun (g12 : fp_G) =>
              fp_pf g12 67 53 ((g12 67 53) + 1) fun g13 =>
              w_X9_unit g13 fun v6 g14 =>
              if v6 = 0 then
                K 0 g14
              else
                w_X9_closes g14 fun _ g15 =>
                ∃ n145, w_X9_parses_145 n145 g15 K (fun g20 => w_X9_sign g20 fun v10 g21 =>
                  fp_j (w_X9_sign g21 fun v11 g22 =>
                      fp_j (fun (g23 : fp_G) =>
                          fp_pf g23 67 53 ((g23 67 53) + 1) fun g24 =>
                          w_X9_parses_10 n g24 K) fun J225 =>
                      if v11 = 124 then
                        J225 g22
                      else
                        w_X9_sign g22 fun v12 g25 =>
                        if v12 = 38 then
                          J225 g25
                        else
                          K 0 g25) fun J205 =>
                  if v10 = (-1) then
                    if (g21 67 54) = 0 then
                      K 1 g21
                    else
                      J205
                  else
                    J205)) fun J122 =>
          if v5 = 60 then
            J122 g11
          else
            w_X9_sign g11 fun v13 g26 =>
            if v13 = 61 then
              J122 g26
            else
              w_X9_sign g26 fun v14 g27 =>
              if v14 = 62 then
                J122 g27
              else
                K 0 g27

def w_X9_parses  (g : fp_G) (K : Int32 → fp_G → Prop) : Prop :=
  fp_pf g 67 53 0 fun g1 =>
  fp_pf g1 67 54 0 fun g2 =>
  ∃ n10, w_X9_parses_10 n10 g2 K

def w_X9_order_65 : Nat → Int32 → Int32 → Int32 → fp_G → (Int32 → fp_G → Prop) → Prop
  | 0, _, _, _, _, _ => False
  | n + 1, x1, x3, x4, g, K =>
    if x3 ≤ x4 then
      fp_wr g 105 30 (g 67 52) x3 fun g4 =>
      fp_wr g4 106 30 (g4 67 52) x1 fun g5 =>
      fp_wr g5 107 30 (g5 67 52) (g5 67 15) fun g6 =>
      fp_pf g6 67 52 ((g6 67 52) + 1) fun g7 =>
      K (g7 67 52) g7
    else
      fp_rd (g 103) 60 x4 fun v3 =>
      fp_wr g 104 1800 ((60 * (g 67 52)) + x4) v3 fun g8 =>
      w_X9_order_65 n x1 x3 (x4 + 1) g8 K

def w_X9_order (x1 : Int32) (g : fp_G) (K : Int32 → fp_G → Prop) : Prop :=
  w_X9_isIn ((x1 : Int32).toInt64) 0 2 g fun v1 g1 =>
  if v1 = 0 then
    w_X9_no (-2) g1 fun v5 g10 =>
    K v5 g10
  else
    if (g1 67 52) = 30 then
      w_X9_no (-6) g1 fun v4 g9 =>
      K v4 g9
    else
      w_X9_parses g1 fun v2 g2 =>
      fp_pf g2 67 51 0 fun g3 =>
      if v2 = 0 then
        K ((-20) - (g3 67 53)) g3
      else
        ∃ n65, w_X9_order_65 n65 x1 (g2 67 51) 0 g3 K

def w_X9_signOf (x1 : Int32) (g : fp_G) (K : Int32 → fp_G → Prop) : Prop :=
  fp_rd (g 105) 30 x1 fun v1 =>
  if v1 ≤ (g 67 57) then
    K (-1) g
  else
    fp_rd (g 104) 1800 ((60 * x1) + (g 67 57)) fun v2 =>
    K v2 g

def w_X9_unitOf_45 : Nat → Int32 → Int32 → fp_G → (Int32 → fp_G → Prop) → Prop
  | 0, _, _, _, _ => False
  | n + 1, x1, x2, g, K =>
    w_X9_signOf x1 g fun v3 g3 =>
    w_X9_isDigit v3 g3 fun v4 g4 =>
    if v4 = 0 then
      K x2 g4
    else
      w_X9_signOf x1 g4 fun v5 g5 =>
      fp_pf g5 67 57 ((g5 67 57) + 1) fun g6 =>
      w_X9_unitOf_45 n x1 (((10 * x2) + v5) - 48) g6 K

def w_X9_unitOf (x1 : Int32) (g : fp_G) (K : Int32 → fp_G → Prop) : Prop :=
  w_X9_signOf x1 g fun v1 g1 =>
  w_X9_isDigit v1 g1 fun v2 g2 =>
  if v2 = 0 then
    fp_pf g2 67 57 ((g2 67 57) + 1) fun g7 =>
    fp_rd (g7 104) 1800 (((60 * x1) + (g7 67 57)) - 1) fun v6 =>
    fp_rd (g7 109) 128 v6 fun v7 =>
    K v7 g7
  else
    ∃ n45, w_X9_unitOf_45 n45 x1 0 g2 K

def w_X9_works_0 : Nat → Int32 → fp_G → (Int32 → fp_G → Prop) → Prop
  | 0, _, _, _ => False
  | n + 1, x1, g, K =>
    if (g 67 58) ≤ 0 then
      K 0 g
    else
      fp_rd (g 110) 60 ((g 67 58) - 1) fun v1 =>
      if x1 < v1 then
        K 0 g
      else
        fp_pf g 67 58 ((g 67 58) - 1) fun g1 =>
        fp_rd (g1 110) 60 (g1 67 58) fun v2 =>
        fp_j (fun (g2 : fp_G) =>
            w_X9_works_0 n x1 g2 K) fun J144 =>
        if v2 = 0 then
          fp_rd (g1 111) 60 ((g1 67 59) - 1) fun v7 =>
          fp_wr g1 111 60 ((g1 67 59) - 1) (1 - v7) fun g5 =>
          J144 g5
        else
          fp_pf g1 67 59 ((g1 67 59) - 1) fun g3 =>
          fp_j (fun (z0j143 : Int32) =>
              fp_wr g3 111 60 ((g3 67 59) - 1) z0j143 fun g4 =>
              J144 g4) fun J143 =>
          if v2 = 1 then
            fp_rd (g3 111) 60 ((g3 67 59) - 1) fun v5 =>
            fp_rd (g3 111) 60 (g3 67 59) fun v6 =>
            J143 (v5 &&& v6)
          else
            fp_rd (g3 111) 60 ((g3 67 59) - 1) fun v3 =>
            fp_rd (g3 111) 60 (g3 67 59) fun v4 =>
            J143 (v3 ||| v4)

def w_X9_works (x1 : Int32) (g : fp_G) (K : Int32 → fp_G → Prop) : Prop :=
  ∃ n0, w_X9_works_0 n0 x1 g K

def w_X9_waitsFor (x1 : Int32) (g : fp_G) (K : Int32 → fp_G → Prop) : Prop :=
  fp_wr g 110 60 (g 67 58) x1 fun g1 =>
  fp_pf g1 67 58 ((g1 67 58) + 1) fun g2 =>
  K 0 g2

def w_X9_holdsText_28 : Nat → Int32 → fp_G → (Int32 → fp_G → Prop) → (fp_G → Prop) → Prop
  | 0, _, _, _, _ => False
  | n + 1, x1, g, K, E81 =>
    w_X9_signOf x1 g fun v4 g5 =>
    fp_j (fun (g6 : fp_G) =>
        w_X9_signOf x1 g6 fun v5 g7 =>
        fp_j (fun (z0j65 : Int32) =>
            w_X9_waitsFor z0j65 g7 fun _ g8 =>
            fp_pf g8 67 57 ((g8 67 57) + 1) fun g9 =>
            w_X9_holdsText_28 n x1 g9 K E81) fun J65 =>
        if v5 = 33 then
          J65 0
        else
          J65 9) fun J48 =>
    if v4 = 33 then
      J48 g5
    else
      w_X9_signOf x1 g5 fun v7 g10 =>
      if v7 = 40 then
        J48 g10
      else
        E81 g10

def w_X9_holdsText_175 : Nat → Int32 → fp_G → (Int32 → fp_G → Prop) → (fp_G → Prop) → Prop
  | 0, _, _, _, _ => False
  | n + 1, x1, g, K, E218 =>
    w_X9_signOf x1 g fun v12 g19 =>
    if v12 = 41 then
      w_X9_works 2 g19 fun _ g20 =>
      fp_pf g20 67 58 ((g20 67 58) - 1) fun g21 =>
      fp_pf g21 67 57 ((g21 67 57) + 1) fun g22 =>
      w_X9_works 0 g22 fun _ g23 =>
      w_X9_holdsText_175 n x1 g23 K E218
    else
      E218 g19

def w_X9_holdsText_15 : Nat → Int32 → fp_G → (Int32 → fp_G → Prop) → Prop
  | 0, _, _, _ => False
  | n + 1, x1, g, K =>
    fp_rd (g 105) 30 x1 fun v1 =>
    if v1 ≤ (g 67 57) then
      w_X9_works 2 g fun _ g4 =>
      fp_rd (g4 111) 60 0 fun v3 =>
      if v3 = 1 then
        K 1 g4
      else
        K 0 g4
    else
      ∃ n28, w_X9_holdsText_28 n28 x1 g K (fun g11 => w_X9_unitOf x1 g11 fun v8 g12 =>
        w_X9_signOf x1 g12 fun v9 g13 =>
        fp_pf g13 67 57 ((g13 67 57) + 1) fun g14 =>
        w_X9_unitOf x1 g14 fun v10 g15 =>
        fp_j (fun (z0j159 : Int32) =>
            fp_wr g15 111 60 (g15 67 59) z0j159 fun g16 =>
            fp_pf g16 67 59 ((g16 67 59) + 1) fun g17 =>
            w_X9_works 0 g17 fun _ g18 =>
            ∃ n175, w_X9_holdsText_175 n175 x1 g18 K (fun g24 => w_X9_signOf x1 g24 fun v15 g25 =>
              fp_j (fun (g26 : fp_G) =>
                  w_X9_signOf x1 g26 fun v16 g27 =>
                  fp_j (fun (g28 : fp_G) =>
                      fp_pf g28 67 57 ((g28 67 57) + 1) fun g29 =>
                      w_X9_holdsText_15 n x1 g29 K) fun J258 =>
                  if v16 = 124 then
                    w_X9_works 2 g27 fun _ g30 =>
                    w_X9_waitsFor 2 g30 fun _ g31 =>
                    J258 g31
                  else
                    J258 g27) fun J238 =>
              if v15 = 38 then
                w_X9_works 1 g25 fun _ g32 =>
                w_X9_waitsFor 1 g32 fun _ g33 =>
                J238 g33
              else
                J238 g25)) fun J159 =>
        fp_j (J159 1) fun J154 =>
        fp_j (J159 0) fun J158 =>
        if v9 = 60 then
          if v10 ≤ v8 then
            J158
          else
            J154
        else
          if v9 = 62 then
            if v8 ≤ v10 then
              J158
            else
              J154
          else
            if v8 = v10 then
              J154
            else
              J158)

def w_X9_holdsText (x1 : Int32) (g : fp_G) (K : Int32 → fp_G → Prop) : Prop :=
  fp_pf g 67 57 0 fun g1 =>
  fp_pf g1 67 58 0 fun g2 =>
  fp_pf g2 67 59 0 fun g3 =>
  ∃ n15, w_X9_holdsText_15 n15 x1 g3 K

def w_X9_holdsFor_15 : Nat → Int32 → Int32 → Int32 → Int32 → Int32 → Int32 → fp_G → (Int32 → fp_G → Prop) → Prop
  | 0, _, _, _, _, _, _, _, _ => False
  | n + 1, x1, x2, x3, x4, x5, x6, g, K =>
    if (g 67 52) ≤ x6 then
      if 0 ≤ x5 then
        fp_rd (g 90) 60 x2 fun v2 =>
        fp_wr g 109 128 107 v2 fun g1 =>
        fp_rd (g1 94) 60 x2 fun v3 =>
        fp_wr g1 109 128 119 v3 fun g2 =>
        fp_rd (g2 92) 60 x2 fun v4 =>
        fp_wr g2 109 128 97 (x3 - v4) fun g3 =>
        fp_rd (g3 97) 60 x2 fun v5 =>
        fp_wr g3 109 128 104 (x3 - v5) fun g4 =>
        fp_rd (g4 93) 60 x2 fun v6 =>
        w_X9_stateAt v6 x3 x4 g4 fun v7 g5 =>
        fp_wr g5 109 128 115 v7 fun g6 =>
        fp_rd (g6 93) 60 x2 fun v8 =>
        fp_rd (g6 84) 40 v8 fun v9 =>
        fp_wr g6 109 128 117 v9 fun g7 =>
        fp_wr g7 109 128 111 x4 fun g8 =>
        fp_rd (g8 101) 60 x2 fun v10 =>
        fp_j (fun (z0j197 : Int32) =>
            fp_wr g8 109 128 98 z0j197 fun g9 =>
            fp_rd (g9 99) 60 x2 fun v11 =>
            fp_wr g9 109 128 99 v11 fun g10 =>
            w_X9_holdsText x5 g10 fun v12 g11 =>
            fp_bz .boolean v12 (K v12 g11)) fun J197 =>
        if v10 = 0 then
          J197 0
        else
          J197 1
      else
        K 0 g
    else
      fp_rd (g 106) 30 x6 fun v13 =>
      fp_j (fun (z0j59 : Int32) (g12 : fp_G) =>
          w_X9_holdsFor_15 n x1 x2 x3 x4 z0j59 (x6 + 1) g12 K) fun J59 =>
      fp_j (fun (g13 : fp_G) =>
          J59 x5 g13) fun J57 =>
      if v13 = x1 then
        fp_rd (g 107) 30 x6 fun v14 =>
        w_X9_isHeard v14 x4 x3 g fun v15 g14 =>
        if v15 = 0 then
          J57 g14
        else
          J59 x6 g14
      else
        J57 g

def w_X9_holdsFor (x1 : Int32) (x2 : Int32) (x3 : Int32) (g : fp_G) (K : Int32 → fp_G → Prop) : Prop :=
  fp_rd (g 96) 60 x2 fun v1 =>
  ∃ n15, w_X9_holdsFor_15 n15 x1 x2 x3 v1 (-9) 0 g K

def w_X9_holds (x1 : Int32) (x2 : Int32) (g : fp_G) (K : Int32 → fp_G → Prop) : Prop :=
  w_X9_isIn ((x1 : Int32).toInt64) 0 2 g fun v1 g1 =>
  if v1 = 0 then
    w_X9_no (-2) g1 fun v8 g7 =>
    K v8 g7
  else
    w_X9_isMail x2 g1 fun v2 g2 =>
    if v2 = 0 then
      w_X9_no (-1) g2 fun v7 g6 =>
      K v7 g6
    else
      fp_rd (g2 95) 60 x2 fun v3 =>
      if v3 = 0 then
        w_X9_findFar g2 fun _ g3 =>
        w_X9_holdsFor x1 x2 (g3 67 15) g3 fun v5 g4 =>
        if v5 = 0 then
          K 0 g4
        else
          K 1 g4
      else
        w_X9_no (-3) g2 fun v6 g5 =>
        K v6 g5

def w_X9_keep (x1 : Int32) (g : fp_G) (K : Int32 → fp_G → Prop) : Prop :=
  w_X9_out ((x1 : Int32).toInt64) 1 999 g fun v1 g1 =>
  if v1 = 0 then
    fp_pf g1 67 43 x1 fun g2 =>
    K (g1 67 43) g2
  else
    w_X9_no v1 g1 fun v2 g3 =>
    K v2 g3

def w_X9_goalOf (x1 : Int32) (x2 : Int32) (g : fp_G) (K : Int32 → fp_G → Prop) : Prop :=
  fp_rd (g 101) 60 x1 fun v1 =>
  if v1 = 0 then
    fp_rd (g 93) 60 x1 fun v2 =>
    fp_rd (g 96) 60 x1 fun v3 =>
    w_X9_latest v2 x2 v3 g fun v4 g1 =>
    fp_j (fp_rd (g1 93) 60 x1 fun v5 =>
        fp_rd (g1 84) 40 v5 fun v6 =>
        fp_rd (g1 96) 60 x1 fun v7 =>
        w_X9_unitAt v6 x2 v7 g1 fun v8 g2 =>
        K v8 g2) fun J55 =>
    if v4 < 0 then
      J55
    else
      fp_rd (g1 87) 80 v4 fun v9 =>
      if v9 = 1 then
        fp_rd (g1 88) 80 v4 fun v10 =>
        K v10 g1
      else
        J55
  else
    fp_rd (g 91) 60 x1 fun v11 =>
    K v11 g

def w_X9_wayOn_2 : Nat → Int32 → Int32 → Int32 → fp_G → (Int32 → fp_G → Prop) → Prop
  | 0, _, _, _, _, _ => False
  | n + 1, x1, x2, x3, g, K =>
    if (g 67 13) ≤ x3 then
      K (-9) g
    else
      if x2 < 0 then
        K (-9) g
      else
        if x2 = x1 then
          K (-9) g
        else
          fp_rd (g 70) 24 x3 fun v1 =>
          fp_j (w_X9_wayOn_2 n x1 x2 (x3 + 1) g K) fun J120 =>
          fp_j (fp_rd (g 70) 24 x3 fun v2 =>
              fp_j (fun (z0j67 : Int32) =>
                  fp_rd (g 78) 144 ((12 * x1) + x2) fun v3 =>
                  if 1000000 ≤ v3 then
                    J120
                  else
                    fp_rd (g 72) 24 x3 fun v4 =>
                    fp_rd (g 78) 144 ((12 * z0j67) + x2) fun v5 =>
                    fp_rd (g 78) 144 ((12 * x1) + x2) fun v6 =>
                    if (v4 + v5) = v6 then
                      K x3 g
                    else
                      J120) fun J67 =>
              if v2 = x1 then
                fp_rd (g 71) 24 x3 fun v8 =>
                J67 v8
              else
                fp_rd (g 70) 24 x3 fun v7 =>
                J67 v7) fun J42 =>
          if v1 = x1 then
            J42
          else
            fp_rd (g 71) 24 x3 fun v9 =>
            if v9 = x1 then
              J42
            else
              J120

def w_X9_wayOn (x1 : Int32) (x2 : Int32) (g : fp_G) (K : Int32 → fp_G → Prop) : Prop :=
  ∃ n2, w_X9_wayOn_2 n2 x1 x2 0 g K

def w_X9_ends (x1 : Int32) (x2 : Int32) (x3 : Int32) (g : fp_G) (K : Int32 → fp_G → Prop) : Prop :=
  fp_wr g 95 60 x1 x2 fun g1 =>
  fp_wr g1 97 60 x1 x3 fun g2 =>
  if x2 = 2 then
    fp_rd (g2 90) 60 x1 fun v1 =>
    if v1 = 1 then
      fp_rd (g2 92) 60 x1 fun v2 =>
      fp_rd (g2 94) 60 x1 fun v3 =>
      if (x3 - v2) ≤ v3 then
        K 0 g2
      else
        fp_wr g2 102 60 x1 (vp_nar .boolean 1) fun g3 =>
        K 0 g3
    else
      K 0 g2
  else
    K 0 g2

def w_X9_turns (x1 : Int32) (x2 : Int32) (g : fp_G) (K : Int32 → fp_G → Prop) : Prop :=
  fp_wr g 101 60 x1 (vp_nar .boolean 1) fun g1 =>
  fp_wr g1 98 60 x1 x2 fun g2 =>
  K 0 g2

def w_X9_sees (x1 : Int32) (x2 : Int32) (g : fp_G) (K : Int32 → fp_G → Prop) : Prop :=
  fp_rd (g 96) 60 x1 fun v1 =>
  w_X9_holdsFor 0 x1 x2 g fun v2 g1 =>
  if v2 = 0 then
    w_X9_holdsFor 1 x1 x2 g1 fun v3 g2 =>
    if v3 = 0 then
      fp_rd (g2 101) 60 x1 fun v4 =>
      fp_j (fun (g3 : fp_G) =>
          fp_rd (g3 93) 60 x1 fun v5 =>
          w_X9_stateAt v5 x2 v1 g3 fun v6 g4 =>
          fp_rd (g4 101) 60 x1 fun v7 =>
          fp_j (fun (g5 : fp_G) =>
              w_X9_goalOf x1 x2 g5 fun v8 g6 =>
              fp_j (fp_j (fun (g7 : fp_G) =>
                      fp_j (fp_rd (g7 97) 60 x1 fun v9 =>
                          if (x2 - v9) < (g7 67 43) then
                            K 0 g7
                          else
                            w_X9_turns x1 1 g7 fun _ g8 =>
                            K 0 g8) fun J168 =>
                      if v8 < 0 then
                        J168
                      else
                        if v8 = v1 then
                          J168
                        else
                          w_X9_wayOn v1 v8 g7 fun v11 g9 =>
                          if v11 < 0 then
                            K 0 g9
                          else
                            w_X9_leaves v11 x2 g9 fun v12 g10 =>
                            if v12 = 0 then
                              K 0 g10
                            else
                              fp_wr g10 95 60 x1 1 fun g11 =>
                              fp_rd (g11 70) 24 v11 fun v13 =>
                              fp_j (fun (z0j255 : Int32) =>
                                  fp_wr g11 96 60 x1 z0j255 fun g12 =>
                                  fp_rd (g12 72) 24 v11 fun v14 =>
                                  fp_wr g12 97 60 x1 (x2 + v14) fun g13 =>
                                  K 0 g13) fun J255 =>
                              if v13 = v1 then
                                fp_rd (g11 71) 24 v11 fun v16 =>
                                J255 v16
                              else
                                fp_rd (g11 70) 24 v11 fun v15 =>
                                J255 v15) fun J157 =>
                  if v8 = v1 then
                    fp_rd (g6 93) 60 x1 fun v17 =>
                    w_X9_whereIs v17 x2 g6 fun v18 g14 =>
                    if v18 = v1 then
                      w_X9_ends x1 2 x2 g14 fun _ g15 =>
                      K 0 g15
                    else
                      J157 g14
                  else
                    J157 g6) fun J128 =>
              if v8 = v1 then
                fp_rd (g6 101) 60 x1 fun v20 =>
                if v20 = 0 then
                  J128
                else
                  w_X9_ends x1 3 x2 g6 fun _ g16 =>
                  K 0 g16
              else
                J128) fun J97 =>
          if v7 = 0 then
            if v6 ≤ 1 then
              J97 g4
            else
              w_X9_turns x1 v6 g4 fun _ g17 =>
              J97 g17
          else
            J97 g4) fun J61 =>
      if v4 = 0 then
        w_X9_holdsFor 2 x1 x2 g2 fun v23 g18 =>
        if v23 = 0 then
          J61 g18
        else
          w_X9_turns x1 4 g18 fun _ g19 =>
          J61 g19
      else
        J61 g2
    else
      K 0 g2
  else
    w_X9_ends x1 4 x2 g1 fun _ g20 =>
    K 0 g20

def w_X9_nextAt_5 : Nat → Int32 → Int32 → Int32 → fp_G → (Int32 → fp_G → Prop) → Prop
  | 0, _, _, _, _, _ => False
  | n + 1, x1, x2, x3, g, K =>
    if (g 67 42) ≤ x3 then
      K x2 g
    else
      fp_rd (g 95) 60 x3 fun v1 =>
      fp_j (fun (x2j62 : Int32) =>
          w_X9_nextAt_5 n x1 x2j62 (x3 + 1) g K) fun J62 =>
      if v1 = 0 then
        fp_rd (g 96) 60 x3 fun v2 =>
        if v2 = x1 then
          fp_rd (g 112) 60 x3 fun v3 =>
          if v3 = 0 then
            fp_j (J62 x3) fun J60 =>
            if x2 < 0 then
              J60
            else
              fp_rd (g 97) 60 x3 fun v4 =>
              fp_rd (g 97) 60 x2 fun v5 =>
              if v5 ≤ v4 then
                J62 x2
              else
                J60
          else
            J62 x2
        else
          J62 x2
      else
        J62 x2

def w_X9_nextAt (x1 : Int32) (g : fp_G) (K : Int32 → fp_G → Prop) : Prop :=
  ∃ n5, w_X9_nextAt_5 n5 x1 (-9) 0 g K

def w_X9_passes_74 : Nat → Int32 → Int32 → Int32 → Int32 → fp_G → (Int32 → fp_G → Prop) → (fp_G → Prop) → Prop
  | 0, _, _, _, _, _, _, _ => False
  | n + 1, x1, x2, x3, x4, g, K, E114 =>
    fp_rd (g 69) 12 x2 fun v2 =>
    if v2 ≤ x4 then
      E114 g
    else
      if x3 < 0 then
        E114 g
      else
        fp_wr g 112 60 x3 (vp_nar .boolean 1) fun g2 =>
        w_X9_sees x3 x1 g2 fun _ g3 =>
        w_X9_nextAt x2 g3 fun v4 g4 =>
        w_X9_passes_74 n x1 x2 v4 (x4 + 1) g4 K E114

def w_X9_passes_57 : Nat → Int32 → Int32 → fp_G → (Int32 → fp_G → Prop) → Prop
  | 0, _, _, _, _ => False
  | n + 1, x1, x2, g, K =>
    if (g 67 12) ≤ x2 then
      K 0 g
    else
      w_X9_nextAt x2 g fun v1 g1 =>
      ∃ n74, w_X9_passes_74 n74 x1 x2 v1 0 g1 K (fun g5 => w_X9_passes_57 n x1 (x2 + 1) g5 K)

def w_X9_passes_2 : Nat → Int32 → Int32 → fp_G → (Int32 → fp_G → Prop) → Prop
  | 0, _, _, _, _ => False
  | n + 1, x1, x2, g, K =>
    if (g 67 42) ≤ x2 then
      ∃ n57, w_X9_passes_57 n57 x1 0 g K
    else
      fp_wr g 112 60 x2 (vp_nar .boolean 0) fun g6 =>
      fp_rd (g6 95) 60 x2 fun v5 =>
      fp_j (fun (g7 : fp_G) =>
          w_X9_passes_2 n x1 (x2 + 1) g7 K) fun J49 =>
      if v5 = 1 then
        fp_rd (g6 97) 60 x2 fun v6 =>
        if v6 = x1 then
          fp_rd (g6 96) 60 x2 fun v7 =>
          w_X9_comes x2 v7 x1 g6 fun _ g8 =>
          J49 g8
        else
          J49 g6
      else
        J49 g6

def w_X9_passes (x1 : Int32) (g : fp_G) (K : Int32 → fp_G → Prop) : Prop :=
  ∃ n2, w_X9_passes_2 n2 x1 0 g K

def w_X9_hours_45 : Nat → Int32 → Int32 → fp_G → (Int32 → fp_G → Prop) → Prop
  | 0, _, _, _, _ => False
  | n + 1, x1, x3, g, K =>
    if x1 ≤ x3 then
      K (g 67 15) g
    else
      w_X9_passes (g 67 15) g fun _ g2 =>
      fp_pf g2 67 15 ((g2 67 15) + 1) fun g3 =>
      w_X9_hours_45 n x1 (x3 + 1) g3 K

def w_X9_hours (x1 : Int32) (g : fp_G) (K : Int32 → fp_G → Prop) : Prop :=
  fp_j (fun (z0j28 : Int32) =>
      if z0j28 = 0 then
        w_X9_findFar g fun _ g1 =>
        ∃ n45, w_X9_hours_45 n45 x1 0 g1 K
      else
        w_X9_no z0j28 g fun v3 g4 =>
        K v3 g4) fun J28 =>
  if 1 ≤ x1 then
    if x1 ≤ (2000 - (g 67 15)) then
      J28 0
    else
      J28 (-6)
  else
    J28 (-4)

def w_X9_mailOf (x1 : Int32) (x2 : Int32) (g : fp_G) (K : Int32 → fp_G → Prop) : Prop :=
  w_X9_isMail x1 g fun v1 g1 =>
  if v1 = 0 then
    w_X9_no (-1) g1 fun v11 g3 =>
    K v11 g3
  else
    if x2 = 0 then
      fp_rd (g1 90) 60 x1 fun v2 =>
      K v2 g1
    else if x2 = 1 then
      fp_rd (g1 95) 60 x1 fun v3 =>
      K v3 g1
    else if x2 = 2 then
      fp_rd (g1 96) 60 x1 fun v4 =>
      K v4 g1
    else if x2 = 3 then
      fp_rd (g1 97) 60 x1 fun v5 =>
      K v5 g1
    else if x2 = 4 then
      fp_rd (g1 101) 60 x1 fun v6 =>
      if v6 = 0 then
        K 0 g1
      else
        K 1 g1
    else if x2 = 5 then
      fp_rd (g1 98) 60 x1 fun v7 =>
      K v7 g1
    else if x2 = 6 then
      fp_rd (g1 99) 60 x1 fun v8 =>
      K v8 g1
    else if x2 = 7 then
      fp_rd (g1 102) 60 x1 fun v9 =>
      if v9 = 0 then
        K 0 g1
      else
        K 1 g1
    else w_X9_no (-2) g1 fun v10 g2 =>
      K v10 g2

def w_X9_goal (x1 : Int32) (g : fp_G) (K : Int32 → fp_G → Prop) : Prop :=
  w_X9_isMail x1 g fun v1 g1 =>
  if v1 = 0 then
    w_X9_no (-1) g1 fun v6 g5 =>
    K v6 g5
  else
    fp_rd (g1 95) 60 x1 fun v2 =>
    if v2 = 0 then
      w_X9_findFar g1 fun _ g2 =>
      w_X9_goalOf x1 (g2 67 15) g2 fun v4 g3 =>
      K v4 g3
    else
      w_X9_no (-3) g1 fun v5 g4 =>
      K v5 g4

def w_X9_next (x1 : Int32) (g : fp_G) (K : Int32 → fp_G → Prop) : Prop :=
  w_X9_isMail x1 g fun v1 g1 =>
  if v1 = 0 then
    w_X9_no (-1) g1 fun v8 g6 =>
    K v8 g6
  else
    fp_rd (g1 95) 60 x1 fun v2 =>
    if v2 = 0 then
      w_X9_findFar g1 fun _ g2 =>
      fp_rd (g2 96) 60 x1 fun v4 =>
      w_X9_goalOf x1 (g2 67 15) g2 fun v5 g3 =>
      w_X9_wayOn v4 v5 g3 fun v6 g4 =>
      K v6 g4
    else
      w_X9_no (-3) g1 fun v7 g5 =>
      K v7 g5

def w_X9_traced (x1 : Int32) (g : fp_G) (K : Int32 → fp_G → Prop) : Prop :=
  fp_rd (g 99) 60 x1 fun v1 =>
  if 40 ≤ v1 then
    K 40 g
  else
    fp_rd (g 99) 60 x1 fun v2 =>
    K v2 g

def w_X9_trace (x1 : Int32) (x2 : Int32) (g : fp_G) (K : Int32 → fp_G → Prop) : Prop :=
  w_X9_isMail x1 g fun v1 g1 =>
  if v1 = 0 then
    w_X9_no (-1) g1 fun v5 g4 =>
    K v5 g4
  else
    w_X9_traced x1 g1 fun v2 g2 =>
    w_X9_isIn ((x2 : Int32).toInt64) 0 ((v2 - 1 : Int32).toInt64) g2 fun v3 g3 =>
    if v3 = 0 then
      K (-9) g3
    else
      fp_rd (g3 100) 2400 ((40 * x1) + x2) fun v4 =>
      K v4 g3

def w_X9_fro_16 : Nat → Int32 → Int32 → fp_G → (Int32 → fp_G → Prop) → Prop
  | 0, _, _, _, _ => False
  | n + 1, x1, x2, g, K =>
    w_X9_traced x1 g fun v2 g2 =>
    if v2 ≤ (x2 + 3) then
      K (-9) g2
    else
      fp_rd (g2 100) 2400 ((40 * x1) + x2) fun v3 =>
      fp_rd (g2 100) 2400 (((40 * x1) + x2) + 2) fun v4 =>
      fp_j (w_X9_fro_16 n x1 (x2 + 1) g2 K) fun J72 =>
      if v3 = v4 then
        fp_rd (g2 100) 2400 (((40 * x1) + x2) + 1) fun v5 =>
        fp_rd (g2 100) 2400 (((40 * x1) + x2) + 3) fun v6 =>
        if v5 = v6 then
          K x2 g2
        else
          J72
      else
        J72

def w_X9_fro (x1 : Int32) (g : fp_G) (K : Int32 → fp_G → Prop) : Prop :=
  w_X9_isMail x1 g fun v1 g1 =>
  if v1 = 0 then
    w_X9_no (-1) g1 fun v7 g3 =>
    K v7 g3
  else
    ∃ n16, w_X9_fro_16 n16 x1 0 g1 K

def w_X9_keeps_2 : Nat → Int32 → fp_G → (Int32 → fp_G → Prop) → Prop
  | 0, _, _, _ => False
  | n + 1, x1, g, K =>
    if (g 67 42) ≤ x1 then
      K 0 g
    else
      fp_rd (g 95) 60 x1 fun v1 =>
      fp_wr g 113 60 x1 v1 fun g1 =>
      fp_rd (g1 96) 60 x1 fun v2 =>
      fp_wr g1 114 60 x1 v2 fun g2 =>
      fp_rd (g2 97) 60 x1 fun v3 =>
      fp_wr g2 115 60 x1 v3 fun g3 =>
      fp_rd (g3 98) 60 x1 fun v4 =>
      fp_wr g3 116 60 x1 v4 fun g4 =>
      fp_rd (g4 99) 60 x1 fun v5 =>
      fp_wr g4 117 60 x1 v5 fun g5 =>
      fp_rd (g5 101) 60 x1 fun v6 =>
      fp_wr g5 118 60 x1 (vp_nar .boolean v6) fun g6 =>
      fp_rd (g6 102) 60 x1 fun v7 =>
      fp_wr g6 119 60 x1 (vp_nar .boolean v7) fun g7 =>
      w_X9_keeps_2 n (x1 + 1) g7 K

def w_X9_keeps  (g : fp_G) (K : Int32 → fp_G → Prop) : Prop :=
  ∃ n2, w_X9_keeps_2 n2 0 g K

def w_X9_putsBack_2 : Nat → Int32 → fp_G → (Int32 → fp_G → Prop) → Prop
  | 0, _, _, _ => False
  | n + 1, x1, g, K =>
    if (g 67 42) ≤ x1 then
      K 0 g
    else
      fp_rd (g 113) 60 x1 fun v1 =>
      fp_wr g 95 60 x1 v1 fun g1 =>
      fp_rd (g1 114) 60 x1 fun v2 =>
      fp_wr g1 96 60 x1 v2 fun g2 =>
      fp_rd (g2 115) 60 x1 fun v3 =>
      fp_wr g2 97 60 x1 v3 fun g3 =>
      fp_rd (g3 116) 60 x1 fun v4 =>
      fp_wr g3 98 60 x1 v4 fun g4 =>
      fp_rd (g4 117) 60 x1 fun v5 =>
      fp_wr g4 99 60 x1 v5 fun g5 =>
      fp_rd (g5 118) 60 x1 fun v6 =>
      fp_wr g5 101 60 x1 (vp_nar .boolean v6) fun g6 =>
      fp_rd (g6 119) 60 x1 fun v7 =>
      fp_wr g6 102 60 x1 (vp_nar .boolean v7) fun g7 =>
      w_X9_putsBack_2 n (x1 + 1) g7 K

def w_X9_putsBack  (g : fp_G) (K : Int32 → fp_G → Prop) : Prop :=
  ∃ n2, w_X9_putsBack_2 n2 0 g K

def w_X9_after_41 : Nat → Int32 → Int32 → Int32 → fp_G → (Int32 → fp_G → Prop) → Prop
  | 0, _, _, _, _, _ => False
  | n + 1, x1, x2, x3, g, K =>
    fp_j (fp_rd (g 95) 60 x1 fun v5 =>
        fp_j (fun (z0j108 : Int32) =>
            w_X9_putsBack g fun _ g5 =>
            K z0j108 g5) fun J108 =>
        if 2 ≤ v5 then
          if x2 = 0 then
            fp_rd (g 97) 60 x1 fun v8 =>
            J108 v8
          else
            fp_rd (g 95) 60 x1 fun v7 =>
            J108 v7
        else
          J108 (-9)) fun J74 =>
    if 300 ≤ x3 then
      J74
    else
      fp_rd (g 95) 60 x1 fun v9 =>
      if 2 ≤ v9 then
        J74
      else
        w_X9_passes ((g 67 15) + x3) g fun _ g6 =>
        w_X9_after_41 n x1 x2 (x3 + 1) g6 K

def w_X9_after (x1 : Int32) (x2 : Int32) (g : fp_G) (K : Int32 → fp_G → Prop) : Prop :=
  w_X9_isMail x1 g fun v1 g1 =>
  if v1 = 0 then
    w_X9_no (-1) g1 fun v12 g8 =>
    K v12 g8
  else
    w_X9_isIn ((x2 : Int32).toInt64) 0 1 g1 fun v2 g2 =>
    if v2 = 0 then
      w_X9_no (-2) g2 fun v11 g7 =>
      K v11 g7
    else
      w_X9_keeps g2 fun _ g3 =>
      w_X9_findFar g3 fun _ g4 =>
      ∃ n41, w_X9_after_41 n41 x1 x2 0 g4 K

def w_X9_paid_18 : Nat → Int32 → Int32 → Int32 → fp_G → (Int32 → fp_G → Prop) → Prop
  | 0, _, _, _, _, _ => False
  | n + 1, x1, x2, x3, g, K =>
    if (g 67 42) ≤ x3 then
      K x2 g
    else
      fp_rd (g 93) 60 x3 fun v2 =>
      fp_j (fun (z0j67 : Int32) =>
          w_X9_paid_18 n x1 (x2 + z0j67) (x3 + 1) g K) fun J67 =>
      fp_j (J67 0) fun J66 =>
      if v2 = x1 then
        fp_rd (g 90) 60 x3 fun v3 =>
        if v3 = 2 then
          fp_rd (g 95) 60 x3 fun v4 =>
          if v4 = 2 then
            fp_rd (g 94) 60 x3 fun v5 =>
            J67 v5
          else
            J66
        else
          J66
      else
        J66

def w_X9_paid (x1 : Int32) (g : fp_G) (K : Int32 → fp_G → Prop) : Prop :=
  w_X9_isMan x1 g fun v1 g1 =>
  if v1 = 0 then
    w_X9_no (-1) g1 fun v6 g2 =>
    K v6 g2
  else
    ∃ n18, w_X9_paid_18 n18 x1 0 0 g1 K

def w_X9_fits_30 : Nat → Int32 → Int32 → Int32 → fp_G → (Int32 → fp_G → Prop) → Prop
  | 0, _, _, _, _, _ => False
  | n + 1, x4, x5, x6, g, K =>
    if 4 ≤ x6 then
      K 1 g
    else
      fp_dv 11 (fp_j (fp_dv 11 (fp_dv 10 (w_X9_fits_30 n (x4 / 11) (x5 / 10) (x6 + 1) g K))) fun J61 =>
      if (x4 - x4 / 11 * 11) = 10 then
        J61
      else
        fp_dv 11 (fp_dv 10 (if (x4 - x4 / 11 * 11) = (x5 - x5 / 10 * 10) then
          J61
        else
          K 0 g)))

def w_X9_fits (x1 : Int32) (x2 : Int32) (x3 : Int32) (g : fp_G) (K : Int32 → fp_G → Prop) : Prop :=
  fp_j (fp_rd (g 85) 40 x1 fun v1 =>
      ∃ n30, w_X9_fits_30 n30 x3 v1 0 g K) fun J16 =>
  if x2 < 0 then
    J16
  else
    fp_rd (g 84) 40 x1 fun v2 =>
    if v2 = x2 then
      J16
    else
      K 0 g

def w_X9_notCover (x1 : Int32) (x2 : Int32) (g : fp_G) (K : Int32 → fp_G → Prop) : Prop :=
  w_X9_isIn ((x1 : Int32).toInt64) (-1) 15 g fun v1 g1 =>
  if v1 = 0 then
    K (-1) g1
  else
    w_X9_out ((x2 : Int32).toInt64) 0 14640 g1 fun v2 g2 =>
    K v2 g2

def w_X9_cover_23 : Nat → Int32 → Int32 → Int32 → Int32 → fp_G → (Int32 → fp_G → Prop) → Prop
  | 0, _, _, _, _, _, _ => False
  | n + 1, x1, x2, x4, x5, g, K =>
    if (g 67 27) ≤ x5 then
      K x4 g
    else
      w_X9_fits x5 x1 x2 g fun v2 g2 =>
      fp_j (fun (z0j50 : Int32) =>
          w_X9_cover_23 n x1 x2 (x4 + z0j50) (x5 + 1) g2 K) fun J50 =>
      if v2 = 0 then
        J50 0
      else
        J50 1

def w_X9_cover (x1 : Int32) (x2 : Int32) (g : fp_G) (K : Int32 → fp_G → Prop) : Prop :=
  w_X9_notCover x1 x2 g fun v1 g1 =>
  if v1 = 0 then
    ∃ n23, w_X9_cover_23 n23 x1 x2 0 0 g1 K
  else
    w_X9_no v1 g1 fun v3 g3 =>
    K v3 g3

def w_X9_sure_24 : Nat → Int32 → Int32 → Int32 → Int32 → fp_G → (Int32 → fp_G → Prop) → Prop
  | 0, _, _, _, _, _, _ => False
  | n + 1, x1, x2, x4, x5, g, K =>
    if (g 67 27) ≤ x5 then
      K x4 g
    else
      w_X9_fits x5 x1 x2 g fun v2 g2 =>
      fp_j (fun (x4j59 : Int32) =>
          w_X9_sure_24 n x1 x2 x4j59 (x5 + 1) g2 K) fun J59 =>
      if v2 = 0 then
        J59 x4
      else
        if x4 < 0 then
          J59 x5
        else
          K (-9) g2

def w_X9_sure (x1 : Int32) (x2 : Int32) (g : fp_G) (K : Int32 → fp_G → Prop) : Prop :=
  w_X9_notCover x1 x2 g fun v1 g1 =>
  if v1 = 0 then
    ∃ n24, w_X9_sure_24 n24 x1 x2 (-9) 0 g1 K
  else
    w_X9_no v1 g1 fun v3 g3 =>
    K v3 g3

def w_X9_sack (x1 : Int32) (x2 : Int32) (x3 : Int32) (g : fp_G) (K : Int32 → fp_G → Prop) : Prop :=
  fp_j (fun (z0j54 : Int32) =>
      if z0j54 = 0 then
        fp_wr g 120 7 (g 67 72) x1 fun g1 =>
        fp_wr g1 121 7 (g1 67 72) x2 fun g2 =>
        fp_wr g2 122 7 (g2 67 72) x3 fun g3 =>
        fp_pf g3 67 72 ((g3 67 72) + 1) fun g4 =>
        K ((g4 67 72) - 1) g4
      else
        w_X9_no z0j54 g fun v1 g5 =>
        K v1 g5) fun J54 =>
  fp_j (J54 (-4)) fun J14 =>
  if x1 < 1 then
    J14
  else
    if x2 < 1 then
      J14
    else
      if 0 ≤ x3 then
        fp_j (J54 (-6)) fun J48 =>
        if 99 < x1 then
          J48
        else
          if 999 < x2 then
            J48
          else
            if 9999 < x3 then
              J48
            else
              if (g 67 72) = 7 then
                J48
              else
                J54 0
      else
        J14

def w_X9_canBe_15 : Nat → Int32 → Int32 → Int32 → Int32 → fp_G → (Int32 → fp_G → Prop) → (Int32 → fp_G → Prop) → Prop
  | 0, _, _, _, _, _, _, _ => False
  | n + 1, x1, x2, x3, x4, g, K, E104 =>
    if (g 67 72) ≤ x4 then
      E104 x3 g
    else
      fp_rd (g 121) 7 x4 fun v1 =>
      fp_rd (g 121) 7 x2 fun v2 =>
      fp_j (fun (z0j67 : Int32) =>
          fp_j (fun (z0j96 : Int32) =>
              w_X9_canBe_15 n x1 x2 (x3 + z0j96) (x4 + 1) g K E104) fun J96 =>
          fp_j (J96 0) fun J95 =>
          if ((x1 >>> (x4 &&& 31)) &&& 1) = 1 then
            if z0j67 = 0 then
              J95
            else
              fp_rd (g 120) 7 x4 fun v3 =>
              J96 v3
          else
            J95) fun J67 =>
      fp_j (J67 1) fun J62 =>
      if v1 < v2 then
        J62
      else
        fp_rd (g 121) 7 x4 fun v4 =>
        fp_rd (g 121) 7 x2 fun v5 =>
        fp_j (J67 0) fun J66 =>
        if v4 = v5 then
          if x2 < x4 then
            J66
          else
            J62
        else
          J66

def w_X9_canBe_2 : Nat → Int32 → Int32 → fp_G → (Int32 → fp_G → Prop) → Prop
  | 0, _, _, _, _ => False
  | n + 1, x1, x2, g, K =>
    if (g 67 72) ≤ x2 then
      K 1 g
    else
      ∃ n15, w_X9_canBe_15 n15 x1 x2 0 0 g K (fun v6 g1 => fp_j (w_X9_canBe_2 n x1 (x2 + 1) g1 K) fun J125 =>
        if ((x1 >>> (x2 &&& 31)) &&& 1) = 1 then
          fp_rd (g1 121) 7 x2 fun v7 =>
          if v6 ≤ v7 then
            J125
          else
            K 0 g1
        else
          J125)

def w_X9_canBe (x1 : Int32) (g : fp_G) (K : Int32 → fp_G → Prop) : Prop :=
  ∃ n2, w_X9_canBe_2 n2 x1 0 g K

def w_X9_findBest_45 : Nat → Int32 → Int32 → Int32 → Int32 → fp_G → (Int32 → fp_G → Prop) → (Int32 → Int32 → fp_G → Prop) → Prop
  | 0, _, _, _, _, _, _, _ => False
  | n + 1, x1, x2, x3, x4, g, K, E94 =>
    if (g 67 72) ≤ x4 then
      E94 x2 x3 g
    else
      fp_rd (g 122) 7 x4 fun v2 =>
      fp_rd (g 120) 7 x4 fun v3 =>
      w_X9_findBest_45 n x1 (x2 + (((x1 >>> (x4 &&& 31)) &&& 1) * v2)) (x3 + (((x1 >>> (x4 &&& 31)) &&& 1) * v3)) (x4 + 1) g K E94

def w_X9_findBest_17 : Nat → Int32 → fp_G → (Int32 → fp_G → Prop) → Prop
  | 0, _, _, _ => False
  | n + 1, x1, g, K =>
    if (1 <<< ((g 67 72) &&& 31)) ≤ x1 then
      K 0 g
    else
      w_X9_canBe x1 g fun v1 g4 =>
      fp_j (fun (g5 : fp_G) =>
          w_X9_findBest_17 n (x1 + 1) g5 K) fun J136 =>
      if v1 = 0 then
        J136 g4
      else
        ∃ n45, w_X9_findBest_45 n45 x1 0 0 0 g4 K (fun v4 v5 g6 => if v4 < (g6 67 75) then
            J136 g6
          else
            fp_j (fp_pf g6 67 74 x1 fun g7 =>
                fp_pf g7 67 75 v4 fun g8 =>
                fp_pf g8 67 76 v5 fun g9 =>
                J136 g9) fun J121 =>
            if v4 = (g6 67 75) then
              if v5 < (g6 67 76) then
                J121
              else
                J136 g6
            else
              J121)

def w_X9_findBest  (g : fp_G) (K : Int32 → fp_G → Prop) : Prop :=
  fp_pf g 67 74 0 fun g1 =>
  fp_pf g1 67 75 0 fun g2 =>
  fp_pf g2 67 76 0 fun g3 =>
  ∃ n17, w_X9_findBest_17 n17 1 g3 K

def w_X9_best (x1 : Int32) (g : fp_G) (K : Int32 → fp_G → Prop) : Prop :=
  w_X9_isIn ((x1 : Int32).toInt64) 0 2 g fun v1 g1 =>
  if v1 = 0 then
    w_X9_no (-2) g1 fun v3 g3 =>
    K v3 g3
  else
    w_X9_findBest g1 fun _ g2 =>
    if x1 = 0 then
      K (g2 67 74) g2
    else
      if x1 = 1 then
        K (g2 67 75) g2
      else
        K (g2 67 76) g2

def w_X9_put (x1 : Int32) (g : fp_G) (K : Int32 → fp_G → Prop) : Prop :=
  w_X9_out ((x1 : Int32).toInt64) (-128) 127 g fun v1 g1 =>
  fp_j (fun (x2j28 : Int32) =>
      if x2j28 = 0 then
        fp_wr g1 123 12 (g1 67 73) x1 fun g2 =>
        fp_pf g2 67 73 ((g2 67 73) + 1) fun g3 =>
        K (g3 67 73) g3
      else
        w_X9_no x2j28 g1 fun v2 g4 =>
        K v2 g4) fun J28 =>
  if v1 = 0 then
    if (g1 67 73) = 12 then
      J28 (-6)
    else
      J28 v1
  else
    J28 v1

def w_X9_judge_31 : Nat → Int32 → Int32 → Int32 → Int32 → Int32 → Int32 → fp_G → (Int32 → fp_G → Prop) → Prop
  | 0, _, _, _, _, _, _, _, _ => False
  | n + 1, x1, x2, x3, x4, x5, x6, g, K =>
    fp_j (if x1 = 0 then
          K x2 g
        else
          fp_pf g 67 73 0 fun g2 =>
          w_X9_findBest g2 fun _ g3 =>
          K ((g3 67 75) - x4) g3) fun J143 =>
    if (g 67 73) ≤ x6 then
      J143
    else
      if 0 ≤ x2 then
        J143
      else
        fp_rd (g 123) 12 x6 fun v3 =>
        w_X9_isIn ((v3 : Int32).toInt64) 0 (((g 67 72) - 1 : Int32).toInt64) g fun v4 g4 =>
        fp_j (fun (x2j137 : Int32) (x3j137 : Int32) (x4j137 : Int32) (x5j137 : Int32) =>
            w_X9_judge_31 n x1 x2j137 x3j137 x4j137 x5j137 (x6 + 1) g4 K) fun J137 =>
        fp_j (J137 x6 x3 x4 x5) fun J100 =>
        if v4 = 0 then
          J100
        else
          if ((x5 >>> (v3 &&& 31)) &&& 1) = 1 then
            J100
          else
            fp_rd (g4 120) 7 v3 fun v5 =>
            fp_rd (g4 121) 7 v3 fun v6 =>
            if (x3 + v5) ≤ v6 then
              fp_rd (g4 120) 7 v3 fun v7 =>
              fp_rd (g4 122) 7 v3 fun v8 =>
              J137 x2 (x3 + v7) (x4 + v8) (x5 ||| (1 <<< (v3 &&& 31)))
            else
              J100

def w_X9_judge (x1 : Int32) (g : fp_G) (K : Int32 → fp_G → Prop) : Prop :=
  w_X9_isIn ((x1 : Int32).toInt64) 0 1 g fun v1 g1 =>
  if v1 = 0 then
    w_X9_no (-2) g1 fun v9 g5 =>
    K v9 g5
  else
    ∃ n31, w_X9_judge_31 n31 x1 (-9) 0 0 0 0 g1 K

def w_X9_waiting_18 : Nat → Int32 → Int32 → Int32 → fp_G → (Int32 → fp_G → Prop) → Prop
  | 0, _, _, _, _, _ => False
  | n + 1, x1, x2, x3, g, K =>
    if (g 67 42) ≤ x3 then
      K x2 g
    else
      fp_rd (g 95) 60 x3 fun v2 =>
      fp_j (fun (z0j51 : Int32) =>
          w_X9_waiting_18 n x1 (x2 + z0j51) (x3 + 1) g K) fun J51 =>
      fp_j (J51 0) fun J50 =>
      if v2 = 0 then
        fp_rd (g 96) 60 x3 fun v3 =>
        if v3 = x1 then
          J51 1
        else
          J50
      else
        J50

def w_X9_waiting (x1 : Int32) (g : fp_G) (K : Int32 → fp_G → Prop) : Prop :=
  w_X9_isOffice x1 g fun v1 g1 =>
  if v1 = 0 then
    w_X9_no (-1) g1 fun v4 g2 =>
    K v4 g2
  else
    ∃ n18, w_X9_waiting_18 n18 x1 0 0 g1 K

def w_X9_count_148 : Nat → Int32 → Int32 → Int32 → fp_G → (Int32 → fp_G → Prop) → Prop
  | 0, _, _, _, _, _ => False
  | n + 1, x1, x2, x3, g, K =>
    if (g 67 42) ≤ x3 then
      K x2 g
    else
      fp_rd (g 95) 60 x3 fun v2 =>
      fp_j (fun (z0j174 : Int32) =>
          w_X9_count_148 n x1 (x2 + z0j174) (x3 + 1) g K) fun J174 =>
      if v2 = (x1 - 4) then
        J174 1
      else
        J174 0

def w_X9_count_186 : Nat → Int32 → Int32 → fp_G → (Int32 → fp_G → Prop) → Prop
  | 0, _, _, _, _ => False
  | n + 1, x2, x3, g, K =>
    if (g 67 42) ≤ x3 then
      K x2 g
    else
      fp_rd (g 102) 60 x3 fun v3 =>
      fp_j (fun (z0j209 : Int32) =>
          w_X9_count_186 n (x2 + z0j209) (x3 + 1) g K) fun J209 =>
      if v3 = 0 then
        J209 0
      else
        J209 1

def w_X9_count (x1 : Int32) (g : fp_G) (K : Int32 → fp_G → Prop) : Prop :=
  w_X9_isIn ((x1 : Int32).toInt64) 11 16 g fun v1 g1 =>
  if v1 = 0 then
    if x1 = 0 then
      K (g1 67 15) g1
    else if x1 = 1 then
      K (g1 67 12) g1
    else if x1 = 2 then
      K (g1 67 13) g1
    else if x1 = 3 then
      K (g1 67 26) g1
    else if x1 = 4 then
      K (g1 67 27) g1
    else if x1 = 5 then
      K (g1 67 42) g1
    else if x1 = 6 then
      ∃ n148, w_X9_count_148 n148 x1 0 0 g1 K
    else if x1 = 7 then
      ∃ n148, w_X9_count_148 n148 x1 0 0 g1 K
    else if x1 = 8 then
      ∃ n148, w_X9_count_148 n148 x1 0 0 g1 K
    else if x1 = 9 then
      ∃ n186, w_X9_count_186 n186 0 0 g1 K
    else if x1 = 10 then
      K (g1 67 51) g1
    else if x1 = 11 then
      K (-9) g1
    else if x1 = 12 then
      K (-9) g1
    else if x1 = 13 then
      K (-9) g1
    else if x1 = 14 then
      K (-9) g1
    else if x1 = 15 then
      K (-9) g1
    else if x1 = 16 then
      K (-9) g1
    else if x1 = 17 then
      K (g1 67 73) g1
    else if x1 = 18 then
      K (g1 67 52) g1
    else K (-9) g1
  else
    fp_rd (g1 68) 7 (x1 - 10) fun v4 =>
    K v4 g1
