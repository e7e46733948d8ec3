def w_J0_isLatin1_aae02 (q : Nat) (g : fp_G) (K : Int32 → fp_G → Prop) : Prop :=
  fp_j (K 0 g) fun J17 =>
  if (1 : Int32) = 0 then
    J17
  else
    if (0 : Int32) = 0 then
      K 1 g
    else
      J17

def w_J0_coder_7d493 (q : Nat) (g : fp_G) (K : Int32 → fp_G → Prop) : Prop :=
  if (1 : Int32) = 0 then
    K 1 g
  else
    K (0 : Int32) g

def w_J0_length_8abf5 (q : Nat) (g : fp_G) (K : Int32 → fp_G → Prop) : Prop :=
  w_J0_coder_7d493 q g fun v1 g1 =>
  K ((Int32.ofNat (fp_len q)) >>> (v1 &&& 31)) g1

def w_J1_canEncode_9a6ad (x0 : Int32) (g : fp_G) (K : Int32 → fp_G → Prop) : Prop :=
  fp_j (K 0 g) fun J15 =>
  if x0 < 0 then
    J15
  else
    if 255 < x0 then
      J15
    else
      K 1 g

def w_J1_indexOfChar_4cfef_7 : Nat → Nat → Int32 → Int32 → Int32 → fp_G → (Int32 → fp_G → Prop) → Prop
  | 0, _, _, _, _, _, _ => False
  | n + 1, q, x3, x4, x5, g, K =>
    if x3 ≤ x5 then
      K (-1) g
    else
      fp_rs q x5 fun v1 =>
      if v1 = x4 then
        K x5 g
      else
        w_J1_indexOfChar_4cfef_7 n q x3 x4 (x5 + 1) g K

def w_J1_indexOfChar_4cfef (q : Nat) (x1 : Int32) (x2 : Int32) (x3 : Int32) (g : fp_G) (K : Int32 → fp_G → Prop) : Prop :=
  ∃ n7, w_J1_indexOfChar_4cfef_7 n7 q x3 ((x1 : Int32).toInt8.toInt32) x2 g K

def w_J1_indexOf_4cfef (q : Nat) (x1 : Int32) (x2 : Int32) (x3 : Int32) (g : fp_G) (K : Int32 → fp_G → Prop) : Prop :=
  w_J1_canEncode_9a6ad x1 g fun v1 g1 =>
  if v1 = 0 then
    K (-1) g1
  else
    if (if x2 < 0 then 0 else x2) < (if Int32.ofNat (fp_len q) < x3 then Int32.ofNat (fp_len q) else x3) then
      w_J1_indexOfChar_4cfef q x1 (if x2 < 0 then 0 else x2) (if Int32.ofNat (fp_len q) < x3 then Int32.ofNat (fp_len q) else x3) g1 fun v2 g2 =>
      K v2 g2
    else
      K (-1) g1

def w_J0_indexOf_7cf53 (q : Nat) (x1 : Int32) (x2 : Int32) (g : fp_G) (K : Int32 → fp_G → Prop) : Prop :=
  w_J0_isLatin1_aae02 q g fun v1 g1 =>
  if v1 = 0 then
    w_J0_length_8abf5 q g1 fun v2 g2 =>
    False
  else
    w_J0_length_8abf5 q g1 fun v3 g3 =>
    w_J1_indexOf_4cfef q x1 x2 v3 g3 fun v4 g4 =>
    K v4 g4

def w_J0_indexOf_0f7a4 (q : Nat) (x1 : Int32) (g : fp_G) (K : Int32 → fp_G → Prop) : Prop :=
  w_J0_indexOf_7cf53 q x1 0 g fun v1 g1 =>
  K v1 g1
