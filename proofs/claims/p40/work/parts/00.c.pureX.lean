noncomputable def b_X10_bytesOf_22 (k5 : Int32 → Int32 → Int32 → Option (Int32)) (v0 : Int32) (v1 : Int32) (v2 : Int32) : Option (Int32) :=
  bnd (v2 + (-8 : Int32)) fun v2_1 =>
  k5 v0 v1 v2_1
noncomputable def b_X10_bytesOf_5 (k5 : Int32 → Int32 → Int32 → Option (Int32)) (v0 : Int32) (v1 : Int32) (v2 : Int32) : Option (Int32) :=
  if v2 < (0 : Int32) then
    some v1
  else
    if ((ushr v0 v2) &&& (255 : Int32)) = (0 : Int32) then
      b_X10_bytesOf_22 k5 v0 v1 v2
    else
      bnd (v1 + (1 : Int32)) fun v1_1 =>
      b_X10_bytesOf_22 k5 v0 v1_1 v2
noncomputable def f_X10_bytesOf_5  : Nat → Int32 → Int32 → Int32 → Option (Int32)
  | 0, _, _, _ => none
  | n + 1, v0, v1, v2 => b_X10_bytesOf_5  (f_X10_bytesOf_5  n) v0 v1 v2
noncomputable def b_X10_bytesOf_0 (v0 : Int32) : Option (Int32) :=
  f_X10_bytesOf_5 fu v0 (0 : Int32) (24 : Int32)
noncomputable def f_X10_bytesOf (p1 : Int32) : Option (Int32) := b_X10_bytesOf_0  p1
noncomputable def b_X10_put_49 (k3 : Int32 → (Nat → Int32) → Int32 → Int32 → Option (Int32 × (Nat → Int32))) (tape_length : Int32) (tape_bytes : Nat → Int32) (v1 : Int32) (v2 : Int32) : Option (Int32 × (Nat → Int32)) :=
  bnd (v2 + (-8 : Int32)) fun v2_1 =>
  k3 tape_length tape_bytes v1 v2_1
noncomputable def b_X10_put_3 (k3 : Int32 → (Nat → Int32) → Int32 → Int32 → Option (Int32 × (Nat → Int32))) (tape_length : Int32) (tape_bytes : Nat → Int32) (v1 : Int32) (v2 : Int32) : Option (Int32 × (Nat → Int32)) :=
  if v2 < (0 : Int32) then
    some (tape_length, tape_bytes)
  else
    bnd ((ushr v1 v2) &&& (255 : Int32)) fun v3_1 =>
    if v3_1 = (0 : Int32) then
      b_X10_put_49 k3 tape_length tape_bytes v1 v2
    else
      if (240 : Int32) ≤ tape_length then
        b_X10_put_49 k3 tape_length tape_bytes v1 v2
      else
        gd (inB tape_length 240) <|
        bnd (upd tape_bytes tape_length.toNatClampNeg v3_1) fun tape_bytes_3 =>
        bnd (tape_length + (1 : Int32)) fun length_4 =>
        b_X10_put_49 k3 length_4 tape_bytes_3 v1 v2
noncomputable def f_X10_put_3  : Nat → Int32 → (Nat → Int32) → Int32 → Int32 → Option (Int32 × (Nat → Int32))
  | 0, _, _, _, _ => none
  | n + 1, tape_length, tape_bytes, v1, v2 => b_X10_put_3  (f_X10_put_3  n) tape_length tape_bytes v1 v2
noncomputable def b_X10_put_0 (tape_length : Int32) (tape_bytes : Nat → Int32) (v1 : Int32) : Option (Int32 × (Nat → Int32)) :=
  f_X10_put_3 fu tape_length tape_bytes v1 (24 : Int32)
noncomputable def f_X10_put (tape_length : Int32) (tape_bytes : Nat → Int32) (p1 : Int32) : Option (Int32 × (Nat → Int32)) := b_X10_put_0  tape_length tape_bytes p1
noncomputable def b_X11_feed_0 (tape_length : Int32) (tape_bytes : Nat → Int32) (v1 : Int32) (v2 : Int32) (v3 : Int32) (v4 : Int32) (v5 : Int32) : Option (Int32 × Int32 × (Nat → Int32)) :=
  ob1 (f_X10_bytesOf v1) fun r_1 =>
  ob1 (f_X10_bytesOf v2) fun r_3 =>
  ob1 (f_X10_bytesOf v3) fun r_5 =>
  ob1 (f_X10_bytesOf v4) fun r_7 =>
  ob1 (f_X10_bytesOf v5) fun r_9 =>
  bnd ((((r_1 + r_3) + r_5) + r_7) + r_9) fun v6_11 =>
  if (tape_length + v6_11) ≤ (240 : Int32) then
    ob2 (f_X10_put tape_length tape_bytes v1) fun tape_length_12 tape_bytes_13 =>
    ob2 (f_X10_put tape_length_12 tape_bytes_13 v2) fun tape_length_15 tape_bytes_16 =>
    ob2 (f_X10_put tape_length_15 tape_bytes_16 v3) fun tape_length_18 tape_bytes_19 =>
    ob2 (f_X10_put tape_length_18 tape_bytes_19 v4) fun tape_length_21 tape_bytes_22 =>
    ob2 (f_X10_put tape_length_21 tape_bytes_22 v5) fun tape_length_24 tape_bytes_25 =>
    some (tape_length_24, tape_length_24, tape_bytes_25)
  else
    some ((-1 : Int32), tape_length, tape_bytes)
noncomputable def f_X11_feed (tape_length : Int32) (tape_bytes : Nat → Int32) (p1 : Int32) (p2 : Int32) (p3 : Int32) (p4 : Int32) (p5 : Int32) : Option (Int32 × Int32 × (Nat → Int32)) := b_X11_feed_0  tape_length tape_bytes p1 p2 p3 p4 p5
noncomputable def b_X11_end_0 (tape_length : Int32) (v1 : Int32) : Option (Int32 × Int32) :=
  if v1 < (0 : Int32) then
    some ((0 : Int32), tape_length)
  else
    if v1 ≤ tape_length then
      some ((1 : Int32), v1)
    else
      some ((0 : Int32), tape_length)
noncomputable def f_X11_end (tape_length : Int32) (p1 : Int32) : Option (Int32 × Int32) := b_X11_end_0  tape_length p1
noncomputable def b_X10_sign_0 (tape_length : Int32) (tape_bytes : Nat → Int32) (k0 : Int32 → Option (Int32 × Int32)) (tape_at : Int32) : Option (Int32 × Int32) :=
  if tape_length ≤ tape_at then
    some ((-1 : Int32), tape_at)
  else
    gd (inB tape_at 240) <|
    if (tape_bytes tape_at.toNatClampNeg) = (32 : Int32) then
      bnd (tape_at + (1 : Int32)) fun at_2 =>
      k0 at_2
    else
      gd (inB tape_at 240) <|
      some ((tape_bytes tape_at.toNatClampNeg), tape_at)
noncomputable def f_X10_sign_0 (tape_length : Int32) (tape_bytes : Nat → Int32) : Nat → Int32 → Option (Int32 × Int32)
  | 0, _ => none
  | n + 1, tape_at => b_X10_sign_0 tape_length tape_bytes (f_X10_sign_0 tape_length tape_bytes n) tape_at
noncomputable def f_X10_sign (tape_length : Int32) (tape_bytes : Nat → Int32) (tape_at : Int32) : Option (Int32 × Int32) := f_X10_sign_0 tape_length tape_bytes fu tape_at
noncomputable def b_X6_kindOf_0 (v0 : Int32) : Option (Int32) :=
  if v0 = (115 : Int32) then
    some (0 : Int32)
  else
    if v0 = (103 : Int32) then
      some (1 : Int32)
    else
      if v0 = (109 : Int32) then
        some (2 : Int32)
      else
        some (-1 : Int32)
noncomputable def f_X6_kindOf (p1 : Int32) : Option (Int32) := b_X6_kindOf_0  p1
noncomputable def b_X6_isTooMany_0 (pr_ruled : Int32) (read_gloves : Int32) (read_matters : Int32) (v1 : Int32) : Option (Int32) :=
  if v1 = (0 : Int32) then
    gd (isZ pr_ruled) <|
    some pr_ruled
  else
    if v1 = (1 : Int32) then
      if read_gloves < (6 : Int32) then
        some (0 : Int32)
      else
        some (1 : Int32)
    else
      if read_matters < (5 : Int32) then
        some (0 : Int32)
      else
        some (1 : Int32)
noncomputable def f_X6_isTooMany (pr_ruled : Int32) (read_gloves : Int32) (read_matters : Int32) (p1 : Int32) : Option (Int32) := b_X6_isTooMany_0 pr_ruled read_gloves read_matters p1
noncomputable def b_X6_itemOf_2 (plT : Nat → Int32) (k2 : Int32 → Int32 → Int32 → Option (Int32)) (v0 : Int32) (v1 : Int32) (v2 : Int32) : Option (Int32) :=
  if (4 : Int32) ≤ v2 then
    some (-1 : Int32)
  else
    bnd ((v0 * (4 : Int32)) + v2) fun i_1 =>
    gd (inB i_1 12) <|
    if (plT i_1.toNatClampNeg) = v1 then
      some v2
    else
      bnd (v2 + (1 : Int32)) fun v2_3 =>
      k2 v0 v1 v2_3
noncomputable def f_X6_itemOf_2 (plT : Nat → Int32) : Nat → Int32 → Int32 → Int32 → Option (Int32)
  | 0, _, _, _ => none
  | n + 1, v0, v1, v2 => b_X6_itemOf_2 plT (f_X6_itemOf_2 plT n) v0 v1 v2
noncomputable def b_X6_itemOf_0 (plT : Nat → Int32) (v0 : Int32) (v1 : Int32) : Option (Int32) :=
  f_X6_itemOf_2 plT fu v0 v1 (0 : Int32)
noncomputable def f_X6_itemOf (plT : Nat → Int32) (p1 : Int32) (p2 : Int32) : Option (Int32) := b_X6_itemOf_0 plT p1 p2
noncomputable def b_X10_isAtDigit_0 (tape_length : Int32) (tape_at : Int32) (tape_bytes : Nat → Int32) : Option (Int32) :=
  if tape_length ≤ tape_at then
    some (0 : Int32)
  else
    gd (inB tape_at 240) <|
    if (tape_bytes tape_at.toNatClampNeg) < (48 : Int32) then
      some (0 : Int32)
    else
      gd (inB tape_at 240) <|
      if (57 : Int32) < (tape_bytes tape_at.toNatClampNeg) then
        some (0 : Int32)
      else
        some (1 : Int32)
noncomputable def f_X10_isAtDigit (tape_length : Int32) (tape_at : Int32) (tape_bytes : Nat → Int32) : Option (Int32) := b_X10_isAtDigit_0 tape_length tape_at tape_bytes 
noncomputable def b_X10_number_71 (tape_length : Int32) (tape_bytes : Nat → Int32) (tape_at : Int32) : Option (Int32 × Int32) :=
  some ((-1 : Int32), tape_at)
noncomputable def b_X10_number_60 (tape_length : Int32) (tape_bytes : Nat → Int32) (tape_at : Int32) (v2 : Int32) (v3 : Int32) : Option (Int32 × Int32) :=
  if v3 = (0 : Int32) then
    b_X10_number_71 tape_length tape_bytes tape_at
  else
    ob1 (f_X10_isAtDigit tape_length tape_at tape_bytes) fun r_1 =>
    if r_1 = (0 : Int32) then
      some (v2, tape_at)
    else
      b_X10_number_71 tape_length tape_bytes tape_at
noncomputable def b_X10_number_14 (tape_length : Int32) (tape_bytes : Nat → Int32) (k14 : Int32 → Int32 → Int32 → Int32 → Option (Int32 × Int32)) (tape_at : Int32) (v1 : Int32) (v2 : Int32) (v3 : Int32) : Option (Int32 × Int32) :=
  if v1 ≤ v3 then
    b_X10_number_60 tape_length tape_bytes tape_at v2 v3
  else
    ob1 (f_X10_isAtDigit tape_length tape_at tape_bytes) fun r_1 =>
    if r_1 = (0 : Int32) then
      b_X10_number_60 tape_length tape_bytes tape_at v2 v3
    else
      gd (inB tape_at 240) <|
      bnd (((v2 * (10 : Int32)) + (tape_bytes tape_at.toNatClampNeg)) - (48 : Int32)) fun n_4 =>
      bnd (tape_at + (1 : Int32)) fun at_5 =>
      bnd (v3 + (1 : Int32)) fun v3_6 =>
      k14 at_5 v1 n_4 v3_6
noncomputable def f_X10_number_14 (tape_length : Int32) (tape_bytes : Nat → Int32) : Nat → Int32 → Int32 → Int32 → Int32 → Option (Int32 × Int32)
  | 0, _, _, _, _ => none
  | n + 1, tape_at, v1, v2, v3 => b_X10_number_14 tape_length tape_bytes (f_X10_number_14 tape_length tape_bytes n) tape_at v1 v2 v3
noncomputable def b_X10_number_0 (tape_length : Int32) (tape_bytes : Nat → Int32) (tape_at : Int32) (v1 : Int32) : Option (Int32 × Int32) :=
  ob2 (f_X10_sign tape_length tape_bytes tape_at) fun r_1 tape_at_2 =>
  if r_1 = (-1 : Int32) then
    some ((-1 : Int32), tape_at_2)
  else
    f_X10_number_14 tape_length tape_bytes fu tape_at_2 v1 (0 : Int32) (0 : Int32)
noncomputable def f_X10_number (tape_length : Int32) (tape_bytes : Nat → Int32) (tape_at : Int32) (p1 : Int32) : Option (Int32 × Int32) := b_X10_number_0 tape_length tape_bytes tape_at p1
noncomputable def b_X6_readsValue_0 (tape_length : Int32) (tape_bytes : Nat → Int32) (pmT : Nat → Int32) (tape_at : Int32) (pr_values : Nat → Int32) (v1 : Int32) (v2 : Int32) : Option (Int32 × Int32 × (Nat → Int32)) :=
  ob2 (f_X10_number tape_length tape_bytes tape_at (2 : Int32)) fun r_1 tape_at_2 =>
  if r_1 = (-1 : Int32) then
    some ((0 : Int32), tape_at_2, pr_values)
  else
    bnd ((v1 * (4 : Int32)) + v2) fun i_4 =>
    gd (inB i_4 12) <|
    if r_1 ≤ (pmT i_4.toNatClampNeg) then
      gd (inB v2 4) <|
      bnd (upd pr_values v2.toNatClampNeg r_1) fun pr_values_7 =>
      some ((1 : Int32), tape_at_2, pr_values_7)
    else
      bnd (tape_at_2 - (1 : Int32)) fun at_8 =>
      some ((0 : Int32), at_8, pr_values)
noncomputable def f_X6_readsValue (tape_length : Int32) (tape_bytes : Nat → Int32) (pmT : Nat → Int32) (tape_at : Int32) (pr_values : Nat → Int32) (p1 : Int32) (p2 : Int32) : Option (Int32 × Int32 × (Nat → Int32)) := b_X6_readsValue_0 tape_length tape_bytes pmT tape_at pr_values p1 p2
noncomputable def b_X6_readsItems_19 (tape_length : Int32) (tape_bytes : Nat → Int32) (plT : Nat → Int32) (pmT : Nat → Int32) (puT : Nat → Int32) (k19 : Int32 → (Nat → Int32) → Int32 → Int32 → Int32 → Option (Int32 × Int32 × (Nat → Int32))) (tape_at : Int32) (pr_values : Nat → Int32) (v1 : Int32) (v2 : Int32) (v3 : Int32) : Option (Int32 × Int32 × (Nat → Int32)) :=
  if (4 : Int32) < v3 then
    some ((0 : Int32), tape_at, pr_values)
  else
    ob2 (f_X10_sign tape_length tape_bytes tape_at) fun r_1 tape_at_2 =>
    if r_1 = (59 : Int32) then
      some ((1 : Int32), tape_at_2, pr_values)
    else
      if r_1 = (-1 : Int32) then
        some ((1 : Int32), tape_at_2, pr_values)
      else
        ob1 (f_X6_itemOf plT v1 r_1) fun r_4 =>
        if r_4 = (-1 : Int32) then
          some ((0 : Int32), tape_at_2, pr_values)
        else
          if ((v2 >>> (r_4 &&& (31 : Int32))) &&& (1 : Int32)) = (1 : Int32) then
            some ((0 : Int32), tape_at_2, pr_values)
          else
            bnd (v2 ||| ((1 : Int32) <<< (r_4 &&& (31 : Int32)))) fun v2_6 =>
            bnd (tape_at_2 + (1 : Int32)) fun at_7 =>
            ob3 (f_X6_readsValue tape_length tape_bytes pmT at_7 pr_values v1 r_4) fun r_8 tape_at_9 pr_values_10 =>
            if r_8 = (0 : Int32) then
              some ((0 : Int32), tape_at_9, pr_values_10)
            else
              bnd (v3 + (1 : Int32)) fun v3_12 =>
              k19 tape_at_9 pr_values_10 v1 v2_6 v3_12
noncomputable def f_X6_readsItems_19 (tape_length : Int32) (tape_bytes : Nat → Int32) (plT : Nat → Int32) (pmT : Nat → Int32) (puT : Nat → Int32) : Nat → Int32 → (Nat → Int32) → Int32 → Int32 → Int32 → Option (Int32 × Int32 × (Nat → Int32))
  | 0, _, _, _, _, _ => none
  | n + 1, tape_at, pr_values, v1, v2, v3 => b_X6_readsItems_19 tape_length tape_bytes plT pmT puT (f_X6_readsItems_19 tape_length tape_bytes plT pmT puT n) tape_at pr_values v1 v2 v3
noncomputable def b_X6_readsItems_0 (tape_length : Int32) (tape_bytes : Nat → Int32) (plT : Nat → Int32) (pmT : Nat → Int32) (puT : Nat → Int32) (tape_at : Int32) (pr_values : Nat → Int32) (v1 : Int32) : Option (Int32 × Int32 × (Nat → Int32)) :=
  gd (spB (v1 * (4 : Int32)) (4 : Int32) 12) <|
  gd (spB (0 : Int32) (4 : Int32) 4) <|
  bnd (va_cpy puT pr_values (v1 * (4 : Int32)).toNatClampNeg (0 : Int32).toNatClampNeg (4 : Int32).toNatClampNeg) fun pr_values_3 =>
  f_X6_readsItems_19 tape_length tape_bytes plT pmT puT fu tape_at pr_values_3 v1 (0 : Int32) (0 : Int32)
noncomputable def f_X6_readsItems (tape_length : Int32) (tape_bytes : Nat → Int32) (plT : Nat → Int32) (pmT : Nat → Int32) (puT : Nat → Int32) (tape_at : Int32) (pr_values : Nat → Int32) (p1 : Int32) : Option (Int32 × Int32 × (Nat → Int32)) := b_X6_readsItems_0 tape_length tape_bytes plT pmT puT tape_at pr_values p1
noncomputable def b_X6_keep_0 (pr_values : Nat → Int32) (pr_ruled : Int32) (read_gloves : Int32) (read_matters : Int32) (read_pride : Int32) (read_coins : Int32) (read_house : Nat → Int32) (read_free : Nat → Int32) (read_stuffed : Nat → Int32) (read_after : Nat → Int32) (read_weight : Nat → Int32) (read_need : Nat → Int32) (v1 : Int32) : Option (Int32 × Int32 × Int32 × Int32 × Int32 × (Nat → Int32) × (Nat → Int32) × (Nat → Int32) × (Nat → Int32) × (Nat → Int32) × (Nat → Int32)) :=
  if v1 = (0 : Int32) then
    gd (inB (0 : Int32) 4) <|
    bnd (pr_values (0 : Int32).toNatClampNeg) fun pride_22 =>
    gd (inB (1 : Int32) 4) <|
    bnd (pr_values (1 : Int32).toNatClampNeg) fun coins_24 =>
    some ((1 : Int32), read_gloves, read_matters, pride_22, coins_24, read_house, read_free, read_stuffed, read_after, read_weight, read_need)
  else
    if v1 = (1 : Int32) then
      gd (inB (0 : Int32) 4) <|
      gd (inB read_gloves 6) <|
      bnd (upd read_house read_gloves.toNatClampNeg (pr_values (0 : Int32).toNatClampNeg)) fun read_house_10 =>
      gd (inB (1 : Int32) 4) <|
      gd (inB read_gloves 6) <|
      bnd (upd read_free read_gloves.toNatClampNeg (pr_values (1 : Int32).toNatClampNeg)) fun read_free_13 =>
      gd (inB (2 : Int32) 4) <|
      gd (inB read_gloves 6) <|
      bnd (upd read_stuffed read_gloves.toNatClampNeg (pr_values (2 : Int32).toNatClampNeg)) fun read_stuffed_16 =>
      gd (inB (3 : Int32) 4) <|
      gd (inB read_gloves 6) <|
      bnd (upd read_after read_gloves.toNatClampNeg (pr_values (3 : Int32).toNatClampNeg)) fun read_after_19 =>
      bnd (read_gloves + (1 : Int32)) fun gloves_20 =>
      some (pr_ruled, gloves_20, read_matters, read_pride, read_coins, read_house_10, read_free_13, read_stuffed_16, read_after_19, read_weight, read_need)
    else
      gd (inB (0 : Int32) 4) <|
      gd (inB read_matters 5) <|
      bnd (upd read_weight read_matters.toNatClampNeg (pr_values (0 : Int32).toNatClampNeg)) fun read_weight_3 =>
      gd (inB (1 : Int32) 4) <|
      gd (inB read_matters 5) <|
      bnd (upd read_need read_matters.toNatClampNeg (pr_values (1 : Int32).toNatClampNeg)) fun read_need_6 =>
      bnd (read_matters + (1 : Int32)) fun matters_7 =>
      some (pr_ruled, read_gloves, matters_7, read_pride, read_coins, read_house, read_free, read_stuffed, read_after, read_weight_3, read_need_6)
noncomputable def f_X6_keep (pr_values : Nat → Int32) (pr_ruled : Int32) (read_gloves : Int32) (read_matters : Int32) (read_pride : Int32) (read_coins : Int32) (read_house : Nat → Int32) (read_free : Nat → Int32) (read_stuffed : Nat → Int32) (read_after : Nat → Int32) (read_weight : Nat → Int32) (read_need : Nat → Int32) (p1 : Int32) : Option (Int32 × Int32 × Int32 × Int32 × Int32 × (Nat → Int32) × (Nat → Int32) × (Nat → Int32) × (Nat → Int32) × (Nat → Int32) × (Nat → Int32)) := b_X6_keep_0 pr_values pr_ruled read_gloves read_matters read_pride read_coins read_house read_free read_stuffed read_after read_weight read_need p1
noncomputable def b_X6_readsClause_0 (tape_length : Int32) (tape_bytes : Nat → Int32) (plT : Nat → Int32) (pmT : Nat → Int32) (puT : Nat → Int32) (tape_at : Int32) (pr_ruled : Int32) (pr_values : Nat → Int32) (read_gloves : Int32) (read_matters : Int32) (read_pride : Int32) (read_coins : Int32) (read_house : Nat → Int32) (read_free : Nat → Int32) (read_stuffed : Nat → Int32) (read_after : Nat → Int32) (read_weight : Nat → Int32) (read_need : Nat → Int32) : Option (Int32 × Int32 × Int32 × (Nat → Int32) × Int32 × Int32 × Int32 × Int32 × (Nat → Int32) × (Nat → Int32) × (Nat → Int32) × (Nat → Int32) × (Nat → Int32) × (Nat → Int32)) :=
  ob2 (f_X10_sign tape_length tape_bytes tape_at) fun r_1 tape_at_2 =>
  ob1 (f_X6_kindOf r_1) fun r_4 =>
  if r_4 = (-1 : Int32) then
    some ((0 : Int32), tape_at_2, pr_ruled, pr_values, read_gloves, read_matters, read_pride, read_coins, read_house, read_free, read_stuffed, read_after, read_weight, read_need)
  else
    ob1 (f_X6_isTooMany pr_ruled read_gloves read_matters r_4) fun r_6 =>
    if r_6 = (0 : Int32) then
      bnd (tape_at_2 + (1 : Int32)) fun at_8 =>
      ob3 (f_X6_readsItems tape_length tape_bytes plT pmT puT at_8 pr_values r_4) fun r_9 tape_at_10 pr_values_11 =>
      if r_9 = (0 : Int32) then
        some ((0 : Int32), tape_at_10, pr_ruled, pr_values_11, read_gloves, read_matters, read_pride, read_coins, read_house, read_free, read_stuffed, read_after, read_weight, read_need)
      else
        ob11 (f_X6_keep pr_values_11 pr_ruled read_gloves read_matters read_pride read_coins read_house read_free read_stuffed read_after read_weight read_need r_4) fun pr_ruled_13 read_gloves_14 read_matters_15 read_pride_16 read_coins_17 read_house_18 read_free_19 read_stuffed_20 read_after_21 read_weight_22 read_need_23 =>
        some ((1 : Int32), tape_at_10, pr_ruled_13, pr_values_11, read_gloves_14, read_matters_15, read_pride_16, read_coins_17, read_house_18, read_free_19, read_stuffed_20, read_after_21, read_weight_22, read_need_23)
    else
      some ((0 : Int32), tape_at_2, pr_ruled, pr_values, read_gloves, read_matters, read_pride, read_coins, read_house, read_free, read_stuffed, read_after, read_weight, read_need)
noncomputable def f_X6_readsClause (tape_length : Int32) (tape_bytes : Nat → Int32) (plT : Nat → Int32) (pmT : Nat → Int32) (puT : Nat → Int32) (tape_at : Int32) (pr_ruled : Int32) (pr_values : Nat → Int32) (read_gloves : Int32) (read_matters : Int32) (read_pride : Int32) (read_coins : Int32) (read_house : Nat → Int32) (read_free : Nat → Int32) (read_stuffed : Nat → Int32) (read_after : Nat → Int32) (read_weight : Nat → Int32) (read_need : Nat → Int32) : Option (Int32 × Int32 × Int32 × (Nat → Int32) × Int32 × Int32 × Int32 × Int32 × (Nat → Int32) × (Nat → Int32) × (Nat → Int32) × (Nat → Int32) × (Nat → Int32) × (Nat → Int32)) := b_X6_readsClause_0 tape_length tape_bytes plT pmT puT tape_at pr_ruled pr_values read_gloves read_matters read_pride read_coins read_house read_free read_stuffed read_after read_weight read_need
noncomputable def b_X5_sizeOf_25 (P_gloves : Int32) (P_house : Nat → Int32) (k4 : Int32 → Int32 → Int32 → Option (Int32)) (v1 : Int32) (v2 : Int32) (v3 : Int32) : Option (Int32) :=
  bnd (v3 + (1 : Int32)) fun v3_1 =>
  k4 v1 v2 v3_1
noncomputable def b_X5_sizeOf_4 (P_gloves : Int32) (P_house : Nat → Int32) (k4 : Int32 → Int32 → Int32 → Option (Int32)) (v1 : Int32) (v2 : Int32) (v3 : Int32) : Option (Int32) :=
  if P_gloves ≤ v3 then
    some v2
  else
    gd (inB v3 6) <|
    if (P_house v3.toNatClampNeg) = v1 then
      bnd (v2 + (1 : Int32)) fun v2_2 =>
      b_X5_sizeOf_25 P_gloves P_house k4 v1 v2_2 v3
    else
      b_X5_sizeOf_25 P_gloves P_house k4 v1 v2 v3
noncomputable def f_X5_sizeOf_4 (P_gloves : Int32) (P_house : Nat → Int32) : Nat → Int32 → Int32 → Int32 → Option (Int32)
  | 0, _, _, _ => none
  | n + 1, v1, v2, v3 => b_X5_sizeOf_4 P_gloves P_house (f_X5_sizeOf_4 P_gloves P_house n) v1 v2 v3
noncomputable def b_X5_sizeOf_0 (P_gloves : Int32) (P_house : Nat → Int32) (v1 : Int32) : Option (Int32) :=
  f_X5_sizeOf_4 P_gloves P_house fu v1 (0 : Int32) (0 : Int32)
noncomputable def f_X5_sizeOf (P_gloves : Int32) (P_house : Nat → Int32) (p1 : Int32) : Option (Int32) := b_X5_sizeOf_0 P_gloves P_house p1
noncomputable def b_X10_take_0 (tape_length : Int32) (tape_bytes : Nat → Int32) (tape_at : Int32) (v1 : Int32) : Option (Int32 × Int32) :=
  ob2 (f_X10_sign tape_length tape_bytes tape_at) fun r_1 tape_at_2 =>
  if r_1 = v1 then
    bnd (tape_at_2 + (1 : Int32)) fun at_4 =>
    some ((1 : Int32), at_4)
  else
    some ((0 : Int32), tape_at_2)
noncomputable def f_X10_take (tape_length : Int32) (tape_bytes : Nat → Int32) (tape_at : Int32) (p1 : Int32) : Option (Int32 × Int32) := b_X10_take_0 tape_length tape_bytes tape_at p1
noncomputable def b_X6_readsAll_55 (tape_length : Int32) (tape_bytes : Nat → Int32) (plT : Nat → Int32) (pmT : Nat → Int32) (puT : Nat → Int32) (k55 : Int32 → Int32 → (Nat → Int32) → Int32 → Int32 → Int32 → Int32 → (Nat → Int32) → (Nat → Int32) → (Nat → Int32) → (Nat → Int32) → (Nat → Int32) → (Nat → Int32) → Int32 → Option (Int32 × Int32 × Int32 × (Nat → Int32) × Int32 × Int32 × Int32 × Int32 × (Nat → Int32) × (Nat → Int32) × (Nat → Int32) × (Nat → Int32) × (Nat → Int32) × (Nat → Int32))) (tape_at : Int32) (pr_ruled : Int32) (pr_values : Nat → Int32) (read_gloves : Int32) (read_matters : Int32) (read_pride : Int32) (read_coins : Int32) (read_house : Nat → Int32) (read_free : Nat → Int32) (read_stuffed : Nat → Int32) (read_after : Nat → Int32) (read_weight : Nat → Int32) (read_need : Nat → Int32) (v1 : Int32) : Option (Int32 × Int32 × Int32 × (Nat → Int32) × Int32 × Int32 × Int32 × Int32 × (Nat → Int32) × (Nat → Int32) × (Nat → Int32) × (Nat → Int32) × (Nat → Int32) × (Nat → Int32)) :=
  if (240 : Int32) < v1 then
    some ((0 : Int32), tape_at, pr_ruled, pr_values, read_gloves, read_matters, read_pride, read_coins, read_house, read_free, read_stuffed, read_after, read_weight, read_need)
  else
    ob14 (f_X6_readsClause tape_length tape_bytes plT pmT puT tape_at pr_ruled pr_values read_gloves read_matters read_pride read_coins read_house read_free read_stuffed read_after read_weight read_need) fun r_1 tape_at_2 pr_ruled_3 pr_values_4 read_gloves_5 read_matters_6 read_pride_7 read_coins_8 read_house_9 read_free_10 read_stuffed_11 read_after_12 read_weight_13 read_need_14 =>
    if r_1 = (0 : Int32) then
      some ((0 : Int32), tape_at_2, pr_ruled_3, pr_values_4, read_gloves_5, read_matters_6, read_pride_7, read_coins_8, read_house_9, read_free_10, read_stuffed_11, read_after_12, read_weight_13, read_need_14)
    else
      ob2 (f_X10_sign tape_length tape_bytes tape_at_2) fun r_16 tape_at_17 =>
      if r_16 = (-1 : Int32) then
        ob1 (f_X5_sizeOf read_gloves_5 read_house_9 (0 : Int32)) fun r_23 =>
        if r_23 ≤ (0 : Int32) then
          some ((0 : Int32), tape_at_17, pr_ruled_3, pr_values_4, read_gloves_5, read_matters_6, read_pride_7, read_coins_8, read_house_9, read_free_10, read_stuffed_11, read_after_12, read_weight_13, read_need_14)
        else
          ob1 (f_X5_sizeOf read_gloves_5 read_house_9 (1 : Int32)) fun r_25 =>
          if r_25 ≤ (0 : Int32) then
            some ((0 : Int32), tape_at_17, pr_ruled_3, pr_values_4, read_gloves_5, read_matters_6, read_pride_7, read_coins_8, read_house_9, read_free_10, read_stuffed_11, read_after_12, read_weight_13, read_need_14)
          else
            some ((1 : Int32), tape_at_17, pr_ruled_3, pr_values_4, read_gloves_5, read_matters_6, read_pride_7, read_coins_8, read_house_9, read_free_10, read_stuffed_11, read_after_12, read_weight_13, read_need_14)
      else
        ob2 (f_X10_take tape_length tape_bytes tape_at_17 (59 : Int32)) fun r_19 tape_at_20 =>
        if r_19 = (0 : Int32) then
          some ((0 : Int32), tape_at_20, pr_ruled_3, pr_values_4, read_gloves_5, read_matters_6, read_pride_7, read_coins_8, read_house_9, read_free_10, read_stuffed_11, read_after_12, read_weight_13, read_need_14)
        else
          bnd (v1 + (1 : Int32)) fun v1_22 =>
          k55 tape_at_20 pr_ruled_3 pr_values_4 read_gloves_5 read_matters_6 read_pride_7 read_coins_8 read_house_9 read_free_10 read_stuffed_11 read_after_12 read_weight_13 read_need_14 v1_22
noncomputable def f_X6_readsAll_55 (tape_length : Int32) (tape_bytes : Nat → Int32) (plT : Nat → Int32) (pmT : Nat → Int32) (puT : Nat → Int32) : Nat → Int32 → Int32 → (Nat → Int32) → Int32 → Int32 → Int32 → Int32 → (Nat → Int32) → (Nat → Int32) → (Nat → Int32) → (Nat → Int32) → (Nat → Int32) → (Nat → Int32) → Int32 → Option (Int32 × Int32 × Int32 × (Nat → Int32) × Int32 × Int32 × Int32 × Int32 × (Nat → Int32) × (Nat → Int32) × (Nat → Int32) × (Nat → Int32) × (Nat → Int32) × (Nat → Int32))
  | 0, _, _, _, _, _, _, _, _, _, _, _, _, _, _ => none
  | n + 1, tape_at, pr_ruled, pr_values, read_gloves, read_matters, read_pride, read_coins, read_house, read_free, read_stuffed, read_after, read_weight, read_need, v1 => b_X6_readsAll_55 tape_length tape_bytes plT pmT puT (f_X6_readsAll_55 tape_length tape_bytes plT pmT puT n) tape_at pr_ruled pr_values read_gloves read_matters read_pride read_coins read_house read_free read_stuffed read_after read_weight read_need v1
noncomputable def b_X6_readsAll_0 (tape_length : Int32) (tape_bytes : Nat → Int32) (plT : Nat → Int32) (pmT : Nat → Int32) (puT : Nat → Int32) (tape_at : Int32) (pr_ruled : Int32) (pr_values : Nat → Int32) (read_gloves : Int32) (read_matters : Int32) (read_pride : Int32) (read_coins : Int32) (read_house : Nat → Int32) (read_free : Nat → Int32) (read_stuffed : Nat → Int32) (read_after : Nat → Int32) (read_weight : Nat → Int32) (read_need : Nat → Int32) : Option (Int32 × Int32 × Int32 × (Nat → Int32) × Int32 × Int32 × Int32 × Int32 × (Nat → Int32) × (Nat → Int32) × (Nat → Int32) × (Nat → Int32) × (Nat → Int32) × (Nat → Int32)) :=
  gd (inB (0 : Int32) 12) <|
  bnd (puT (0 : Int32).toNatClampNeg) fun pride_2 =>
  gd (inB (1 : Int32) 12) <|
  bnd (puT (1 : Int32).toNatClampNeg) fun coins_4 =>
  f_X6_readsAll_55 tape_length tape_bytes plT pmT puT fu (0 : Int32) (0 : Int32) pr_values (0 : Int32) (0 : Int32) pride_2 coins_4 read_house read_free read_stuffed read_after read_weight read_need (0 : Int32)
noncomputable def f_X6_readsAll (tape_length : Int32) (tape_bytes : Nat → Int32) (plT : Nat → Int32) (pmT : Nat → Int32) (puT : Nat → Int32) (tape_at : Int32) (pr_ruled : Int32) (pr_values : Nat → Int32) (read_gloves : Int32) (read_matters : Int32) (read_pride : Int32) (read_coins : Int32) (read_house : Nat → Int32) (read_free : Nat → Int32) (read_stuffed : Nat → Int32) (read_after : Nat → Int32) (read_weight : Nat → Int32) (read_need : Nat → Int32) : Option (Int32 × Int32 × Int32 × (Nat → Int32) × Int32 × Int32 × Int32 × Int32 × (Nat → Int32) × (Nat → Int32) × (Nat → Int32) × (Nat → Int32) × (Nat → Int32) × (Nat → Int32)) := b_X6_readsAll_0 tape_length tape_bytes plT pmT puT tape_at pr_ruled pr_values read_gloves read_matters read_pride read_coins read_house read_free read_stuffed read_after read_weight read_need
noncomputable def b_X2_letter_2 (llT : Nat → Int32) (k2 : Int32 → Int32 → Option (Int32)) (v0 : Int32) (v1 : Int32) : Option (Int32) :=
  if (6 : Int32) ≤ v1 then
    some (-1 : Int32)
  else
    gd (inB v1 6) <|
    if (llT v1.toNatClampNeg) = v0 then
      some v1
    else
      bnd (v1 + (1 : Int32)) fun v1_2 =>
      k2 v0 v1_2
noncomputable def f_X2_letter_2 (llT : Nat → Int32) : Nat → Int32 → Int32 → Option (Int32)
  | 0, _, _ => none
  | n + 1, v0, v1 => b_X2_letter_2 llT (f_X2_letter_2 llT n) v0 v1
noncomputable def b_X2_letter_0 (llT : Nat → Int32) (v0 : Int32) : Option (Int32) :=
  f_X2_letter_2 llT fu v0 (0 : Int32)
noncomputable def f_X2_letter (llT : Nat → Int32) (p1 : Int32) : Option (Int32) := b_X2_letter_0 llT p1
noncomputable def b_X1_put_0 (lr_size : Int32) (lr_code : Nat → Int32) (v1 : Int32) : Option (Int32 × Int32 × (Nat → Int32)) :=
  if lr_size < (241 : Int32) then
    gd (inB lr_size 241) <|
    bnd (upd lr_code lr_size.toNatClampNeg v1) fun lr_code_2 =>
    bnd (lr_size + (1 : Int32)) fun size_3 =>
    some ((1 : Int32), size_3, lr_code_2)
  else
    some ((0 : Int32), lr_size, lr_code)
noncomputable def f_X1_put (lr_size : Int32) (lr_code : Nat → Int32) (p1 : Int32) : Option (Int32 × Int32 × (Nat → Int32)) := b_X1_put_0  lr_size lr_code p1
noncomputable def b_X1_readsAtom_0 (F_X1_readsAtom : Int32 → (Nat → Int32) → (Nat → Int32) → Int32 → Int32 → (Nat → Int32) → Int32 → Option (Int32 × Int32 × Int32 × (Nat → Int32))) (F_X1_readsSum : Int32 → (Nat → Int32) → (Nat → Int32) → Int32 → Int32 → (Nat → Int32) → Int32 → Option (Int32 × Int32 × Int32 × (Nat → Int32))) (F_X1_readsTerm : Int32 → (Nat → Int32) → (Nat → Int32) → Int32 → Int32 → (Nat → Int32) → Int32 → Option (Int32 × Int32 × Int32 × (Nat → Int32))) (tape_length : Int32) (tape_bytes : Nat → Int32) (llT : Nat → Int32) (tape_at : Int32) (lr_size : Int32) (lr_code : Nat → Int32) (v1 : Int32) : Option (Int32 × Int32 × Int32 × (Nat → Int32)) :=
  ob2 (f_X10_sign tape_length tape_bytes tape_at) fun r_1 tape_at_2 =>
  if r_1 = (91 : Int32) then
    if v1 < (6 : Int32) then
      bnd (tape_at_2 + (1 : Int32)) fun at_19 =>
      ob4 (F_X1_readsSum tape_length tape_bytes llT at_19 lr_size lr_code (v1 + (1 : Int32))) fun r_20 tape_at_21 lr_size_22 lr_code_23 =>
      if r_20 = (0 : Int32) then
        some ((0 : Int32), tape_at_21, lr_size_22, lr_code_23)
      else
        ob2 (f_X10_take tape_length tape_bytes tape_at_21 (93 : Int32)) fun r_25 tape_at_26 =>
        if r_25 = (0 : Int32) then
          some ((0 : Int32), tape_at_26, lr_size_22, lr_code_23)
        else
          some ((1 : Int32), tape_at_26, lr_size_22, lr_code_23)
    else
      some ((0 : Int32), tape_at_2, lr_size, lr_code)
  else
    ob1 (f_X2_letter llT r_1) fun r_4 =>
    if r_4 = (-1 : Int32) then
      ob2 (f_X10_number tape_length tape_bytes tape_at_2 (4 : Int32)) fun r_6 tape_at_7 =>
      if r_6 = (-1 : Int32) then
        some ((0 : Int32), tape_at_7, lr_size, lr_code)
      else
        ob3 (f_X1_put lr_size lr_code r_6) fun r_9 lr_size_10 lr_code_11 =>
        if r_9 = (0 : Int32) then
          some ((0 : Int32), tape_at_7, lr_size_10, lr_code_11)
        else
          some ((1 : Int32), tape_at_7, lr_size_10, lr_code_11)
    else
      bnd (tape_at_2 + (1 : Int32)) fun at_13 =>
      ob3 (f_X1_put lr_size lr_code ((-14 : Int32) - r_4)) fun r_14 lr_size_15 lr_code_16 =>
      gd (isZ r_14) <|
      some (r_14, at_13, lr_size_15, lr_code_16)
noncomputable def g_X1_readsAtom (F_X1_readsAtom : Int32 → (Nat → Int32) → (Nat → Int32) → Int32 → Int32 → (Nat → Int32) → Int32 → Option (Int32 × Int32 × Int32 × (Nat → Int32))) (F_X1_readsSum : Int32 → (Nat → Int32) → (Nat → Int32) → Int32 → Int32 → (Nat → Int32) → Int32 → Option (Int32 × Int32 × Int32 × (Nat → Int32))) (F_X1_readsTerm : Int32 → (Nat → Int32) → (Nat → Int32) → Int32 → Int32 → (Nat → Int32) → Int32 → Option (Int32 × Int32 × Int32 × (Nat → Int32))) (tape_length : Int32) (tape_bytes : Nat → Int32) (llT : Nat → Int32) (tape_at : Int32) (lr_size : Int32) (lr_code : Nat → Int32) (p1 : Int32) : Option (Int32 × Int32 × Int32 × (Nat → Int32)) := b_X1_readsAtom_0 F_X1_readsAtom F_X1_readsSum F_X1_readsTerm tape_length tape_bytes llT tape_at lr_size lr_code p1
noncomputable def b_X1_readsSum_76 (F_X1_readsAtom : Int32 → (Nat → Int32) → (Nat → Int32) → Int32 → Int32 → (Nat → Int32) → Int32 → Option (Int32 × Int32 × Int32 × (Nat → Int32))) (F_X1_readsSum : Int32 → (Nat → Int32) → (Nat → Int32) → Int32 → Int32 → (Nat → Int32) → Int32 → Option (Int32 × Int32 × Int32 × (Nat → Int32))) (F_X1_readsTerm : Int32 → (Nat → Int32) → (Nat → Int32) → Int32 → Int32 → (Nat → Int32) → Int32 → Option (Int32 × Int32 × Int32 × (Nat → Int32))) (tape_length : Int32) (tape_bytes : Nat → Int32) (llT : Nat → Int32) (k12 : Int32 → Int32 → (Nat → Int32) → Int32 → Int32 → Option (Int32 × Int32 × Int32 × (Nat → Int32))) (tape_at : Int32) (lr_size : Int32) (lr_code : Nat → Int32) (v1 : Int32) (v2 : Int32) (t1 : Int32) : Option (Int32 × Int32 × Int32 × (Nat → Int32)) :=
  ob3 (f_X1_put lr_size lr_code t1) fun r_1 lr_size_2 lr_code_3 =>
  if r_1 = (0 : Int32) then
    some ((0 : Int32), tape_at, lr_size_2, lr_code_3)
  else
    bnd (v2 + (1 : Int32)) fun v2_5 =>
    k12 tape_at lr_size_2 lr_code_3 v1 v2_5
noncomputable def b_X1_readsSum_41 (F_X1_readsAtom : Int32 → (Nat → Int32) → (Nat → Int32) → Int32 → Int32 → (Nat → Int32) → Int32 → Option (Int32 × Int32 × Int32 × (Nat → Int32))) (F_X1_readsSum : Int32 → (Nat → Int32) → (Nat → Int32) → Int32 → Int32 → (Nat → Int32) → Int32 → Option (Int32 × Int32 × Int32 × (Nat → Int32))) (F_X1_readsTerm : Int32 → (Nat → Int32) → (Nat → Int32) → Int32 → Int32 → (Nat → Int32) → Int32 → Option (Int32 × Int32 × Int32 × (Nat → Int32))) (tape_length : Int32) (tape_bytes : Nat → Int32) (llT : Nat → Int32) (k12 : Int32 → Int32 → (Nat → Int32) → Int32 → Int32 → Option (Int32 × Int32 × Int32 × (Nat → Int32))) (tape_at : Int32) (lr_size : Int32) (lr_code : Nat → Int32) (v1 : Int32) (v2 : Int32) (v3 : Int32) : Option (Int32 × Int32 × Int32 × (Nat → Int32)) :=
  bnd (tape_at + (1 : Int32)) fun at_1 =>
  ob4 (F_X1_readsTerm tape_length tape_bytes llT at_1 lr_size lr_code v1) fun r_2 tape_at_3 lr_size_4 lr_code_5 =>
  if r_2 = (0 : Int32) then
    some ((0 : Int32), tape_at_3, lr_size_4, lr_code_5)
  else
    if v3 = (43 : Int32) then
      b_X1_readsSum_76 F_X1_readsAtom F_X1_readsSum F_X1_readsTerm tape_length tape_bytes llT k12 tape_at_3 lr_size_4 lr_code_5 v1 v2 (-2 : Int32)
    else
      b_X1_readsSum_76 F_X1_readsAtom F_X1_readsSum F_X1_readsTerm tape_length tape_bytes llT k12 tape_at_3 lr_size_4 lr_code_5 v1 v2 (-3 : Int32)
noncomputable def b_X1_readsSum_12 (F_X1_readsAtom : Int32 → (Nat → Int32) → (Nat → Int32) → Int32 → Int32 → (Nat → Int32) → Int32 → Option (Int32 × Int32 × Int32 × (Nat → Int32))) (F_X1_readsSum : Int32 → (Nat → Int32) → (Nat → Int32) → Int32 → Int32 → (Nat → Int32) → Int32 → Option (Int32 × Int32 × Int32 × (Nat → Int32))) (F_X1_readsTerm : Int32 → (Nat → Int32) → (Nat → Int32) → Int32 → Int32 → (Nat → Int32) → Int32 → Option (Int32 × Int32 × Int32 × (Nat → Int32))) (tape_length : Int32) (tape_bytes : Nat → Int32) (llT : Nat → Int32) (k12 : Int32 → Int32 → (Nat → Int32) → Int32 → Int32 → Option (Int32 × Int32 × Int32 × (Nat → Int32))) (tape_at : Int32) (lr_size : Int32) (lr_code : Nat → Int32) (v1 : Int32) (v2 : Int32) : Option (Int32 × Int32 × Int32 × (Nat → Int32)) :=
  if (240 : Int32) ≤ v2 then
    some ((0 : Int32), tape_at, lr_size, lr_code)
  else
    ob2 (f_X10_sign tape_length tape_bytes tape_at) fun r_1 tape_at_2 =>
    if r_1 = (43 : Int32) then
      b_X1_readsSum_41 F_X1_readsAtom F_X1_readsSum F_X1_readsTerm tape_length tape_bytes llT k12 tape_at_2 lr_size lr_code v1 v2 r_1
    else
      if r_1 = (45 : Int32) then
        b_X1_readsSum_41 F_X1_readsAtom F_X1_readsSum F_X1_readsTerm tape_length tape_bytes llT k12 tape_at_2 lr_size lr_code v1 v2 r_1
      else
        some ((1 : Int32), tape_at_2, lr_size, lr_code)
noncomputable def f_X1_readsSum_12 (F_X1_readsAtom : Int32 → (Nat → Int32) → (Nat → Int32) → Int32 → Int32 → (Nat → Int32) → Int32 → Option (Int32 × Int32 × Int32 × (Nat → Int32))) (F_X1_readsSum : Int32 → (Nat → Int32) → (Nat → Int32) → Int32 → Int32 → (Nat → Int32) → Int32 → Option (Int32 × Int32 × Int32 × (Nat → Int32))) (F_X1_readsTerm : Int32 → (Nat → Int32) → (Nat → Int32) → Int32 → Int32 → (Nat → Int32) → Int32 → Option (Int32 × Int32 × Int32 × (Nat → Int32))) (tape_length : Int32) (tape_bytes : Nat → Int32) (llT : Nat → Int32) : Nat → Int32 → Int32 → (Nat → Int32) → Int32 → Int32 → Option (Int32 × Int32 × Int32 × (Nat → Int32))
  | 0, _, _, _, _, _ => none
  | n + 1, tape_at, lr_size, lr_code, v1, v2 => b_X1_readsSum_12 F_X1_readsAtom F_X1_readsSum F_X1_readsTerm tape_length tape_bytes llT (f_X1_readsSum_12 F_X1_readsAtom F_X1_readsSum F_X1_readsTerm tape_length tape_bytes llT n) tape_at lr_size lr_code v1 v2
noncomputable def b_X1_readsSum_0 (F_X1_readsAtom : Int32 → (Nat → Int32) → (Nat → Int32) → Int32 → Int32 → (Nat → Int32) → Int32 → Option (Int32 × Int32 × Int32 × (Nat → Int32))) (F_X1_readsSum : Int32 → (Nat → Int32) → (Nat → Int32) → Int32 → Int32 → (Nat → Int32) → Int32 → Option (Int32 × Int32 × Int32 × (Nat → Int32))) (F_X1_readsTerm : Int32 → (Nat → Int32) → (Nat → Int32) → Int32 → Int32 → (Nat → Int32) → Int32 → Option (Int32 × Int32 × Int32 × (Nat → Int32))) (tape_length : Int32) (tape_bytes : Nat → Int32) (llT : Nat → Int32) (tape_at : Int32) (lr_size : Int32) (lr_code : Nat → Int32) (v1 : Int32) : Option (Int32 × Int32 × Int32 × (Nat → Int32)) :=
  ob4 (F_X1_readsTerm tape_length tape_bytes llT tape_at lr_size lr_code v1) fun r_1 tape_at_2 lr_size_3 lr_code_4 =>
  if r_1 = (0 : Int32) then
    some ((0 : Int32), tape_at_2, lr_size_3, lr_code_4)
  else
    f_X1_readsSum_12 F_X1_readsAtom F_X1_readsSum F_X1_readsTerm tape_length tape_bytes llT fu tape_at_2 lr_size_3 lr_code_4 v1 (0 : Int32)
noncomputable def g_X1_readsSum (F_X1_readsAtom : Int32 → (Nat → Int32) → (Nat → Int32) → Int32 → Int32 → (Nat → Int32) → Int32 → Option (Int32 × Int32 × Int32 × (Nat → Int32))) (F_X1_readsSum : Int32 → (Nat → Int32) → (Nat → Int32) → Int32 → Int32 → (Nat → Int32) → Int32 → Option (Int32 × Int32 × Int32 × (Nat → Int32))) (F_X1_readsTerm : Int32 → (Nat → Int32) → (Nat → Int32) → Int32 → Int32 → (Nat → Int32) → Int32 → Option (Int32 × Int32 × Int32 × (Nat → Int32))) (tape_length : Int32) (tape_bytes : Nat → Int32) (llT : Nat → Int32) (tape_at : Int32) (lr_size : Int32) (lr_code : Nat → Int32) (p1 : Int32) : Option (Int32 × Int32 × Int32 × (Nat → Int32)) := b_X1_readsSum_0 F_X1_readsAtom F_X1_readsSum F_X1_readsTerm tape_length tape_bytes llT tape_at lr_size lr_code p1
noncomputable def b_X1_readsTerm_76 (F_X1_readsAtom : Int32 → (Nat → Int32) → (Nat → Int32) → Int32 → Int32 → (Nat → Int32) → Int32 → Option (Int32 × Int32 × Int32 × (Nat → Int32))) (F_X1_readsSum : Int32 → (Nat → Int32) → (Nat → Int32) → Int32 → Int32 → (Nat → Int32) → Int32 → Option (Int32 × Int32 × Int32 × (Nat → Int32))) (F_X1_readsTerm : Int32 → (Nat → Int32) → (Nat → Int32) → Int32 → Int32 → (Nat → Int32) → Int32 → Option (Int32 × Int32 × Int32 × (Nat → Int32))) (tape_length : Int32) (tape_bytes : Nat → Int32) (llT : Nat → Int32) (k12 : Int32 → Int32 → (Nat → Int32) → Int32 → Int32 → Option (Int32 × Int32 × Int32 × (Nat → Int32))) (tape_at : Int32) (lr_size : Int32) (lr_code : Nat → Int32) (v1 : Int32) (v2 : Int32) (t1 : Int32) : Option (Int32 × Int32 × Int32 × (Nat → Int32)) :=
  ob3 (f_X1_put lr_size lr_code t1) fun r_1 lr_size_2 lr_code_3 =>
  if r_1 = (0 : Int32) then
    some ((0 : Int32), tape_at, lr_size_2, lr_code_3)
  else
    bnd (v2 + (1 : Int32)) fun v2_5 =>
    k12 tape_at lr_size_2 lr_code_3 v1 v2_5
noncomputable def b_X1_readsTerm_41 (F_X1_readsAtom : Int32 → (Nat → Int32) → (Nat → Int32) → Int32 → Int32 → (Nat → Int32) → Int32 → Option (Int32 × Int32 × Int32 × (Nat → Int32))) (F_X1_readsSum : Int32 → (Nat → Int32) → (Nat → Int32) → Int32 → Int32 → (Nat → Int32) → Int32 → Option (Int32 × Int32 × Int32 × (Nat → Int32))) (F_X1_readsTerm : Int32 → (Nat → Int32) → (Nat → Int32) → Int32 → Int32 → (Nat → Int32) → Int32 → Option (Int32 × Int32 × Int32 × (Nat → Int32))) (tape_length : Int32) (tape_bytes : Nat → Int32) (llT : Nat → Int32) (k12 : Int32 → Int32 → (Nat → Int32) → Int32 → Int32 → Option (Int32 × Int32 × Int32 × (Nat → Int32))) (tape_at : Int32) (lr_size : Int32) (lr_code : Nat → Int32) (v1 : Int32) (v2 : Int32) (v3 : Int32) : Option (Int32 × Int32 × Int32 × (Nat → Int32)) :=
  bnd (tape_at + (1 : Int32)) fun at_1 =>
  ob4 (F_X1_readsAtom tape_length tape_bytes llT at_1 lr_size lr_code v1) fun r_2 tape_at_3 lr_size_4 lr_code_5 =>
  if r_2 = (0 : Int32) then
    some ((0 : Int32), tape_at_3, lr_size_4, lr_code_5)
  else
    if v3 = (42 : Int32) then
      b_X1_readsTerm_76 F_X1_readsAtom F_X1_readsSum F_X1_readsTerm tape_length tape_bytes llT k12 tape_at_3 lr_size_4 lr_code_5 v1 v2 (-4 : Int32)
    else
      b_X1_readsTerm_76 F_X1_readsAtom F_X1_readsSum F_X1_readsTerm tape_length tape_bytes llT k12 tape_at_3 lr_size_4 lr_code_5 v1 v2 (-5 : Int32)
noncomputable def b_X1_readsTerm_12 (F_X1_readsAtom : Int32 → (Nat → Int32) → (Nat → Int32) → Int32 → Int32 → (Nat → Int32) → Int32 → Option (Int32 × Int32 × Int32 × (Nat → Int32))) (F_X1_readsSum : Int32 → (Nat → Int32) → (Nat → Int32) → Int32 → Int32 → (Nat → Int32) → Int32 → Option (Int32 × Int32 × Int32 × (Nat → Int32))) (F_X1_readsTerm : Int32 → (Nat → Int32) → (Nat → Int32) → Int32 → Int32 → (Nat → Int32) → Int32 → Option (Int32 × Int32 × Int32 × (Nat → Int32))) (tape_length : Int32) (tape_bytes : Nat → Int32) (llT : Nat → Int32) (k12 : Int32 → Int32 → (Nat → Int32) → Int32 → Int32 → Option (Int32 × Int32 × Int32 × (Nat → Int32))) (tape_at : Int32) (lr_size : Int32) (lr_code : Nat → Int32) (v1 : Int32) (v2 : Int32) : Option (Int32 × Int32 × Int32 × (Nat → Int32)) :=
  if (240 : Int32) ≤ v2 then
    some ((0 : Int32), tape_at, lr_size, lr_code)
  else
    ob2 (f_X10_sign tape_length tape_bytes tape_at) fun r_1 tape_at_2 =>
    if r_1 = (42 : Int32) then
      b_X1_readsTerm_41 F_X1_readsAtom F_X1_readsSum F_X1_readsTerm tape_length tape_bytes llT k12 tape_at_2 lr_size lr_code v1 v2 r_1
    else
      if r_1 = (47 : Int32) then
        b_X1_readsTerm_41 F_X1_readsAtom F_X1_readsSum F_X1_readsTerm tape_length tape_bytes llT k12 tape_at_2 lr_size lr_code v1 v2 r_1
      else
        some ((1 : Int32), tape_at_2, lr_size, lr_code)
noncomputable def f_X1_readsTerm_12 (F_X1_readsAtom : Int32 → (Nat → Int32) → (Nat → Int32) → Int32 → Int32 → (Nat → Int32) → Int32 → Option (Int32 × Int32 × Int32 × (Nat → Int32))) (F_X1_readsSum : Int32 → (Nat → Int32) → (Nat → Int32) → Int32 → Int32 → (Nat → Int32) → Int32 → Option (Int32 × Int32 × Int32 × (Nat → Int32))) (F_X1_readsTerm : Int32 → (Nat → Int32) → (Nat → Int32) → Int32 → Int32 → (Nat → Int32) → Int32 → Option (Int32 × Int32 × Int32 × (Nat → Int32))) (tape_length : Int32) (tape_bytes : Nat → Int32) (llT : Nat → Int32) : Nat → Int32 → Int32 → (Nat → Int32) → Int32 → Int32 → Option (Int32 × Int32 × Int32 × (Nat → Int32))
  | 0, _, _, _, _, _ => none
  | n + 1, tape_at, lr_size, lr_code, v1, v2 => b_X1_readsTerm_12 F_X1_readsAtom F_X1_readsSum F_X1_readsTerm tape_length tape_bytes llT (f_X1_readsTerm_12 F_X1_readsAtom F_X1_readsSum F_X1_readsTerm tape_length tape_bytes llT n) tape_at lr_size lr_code v1 v2
noncomputable def b_X1_readsTerm_0 (F_X1_readsAtom : Int32 → (Nat → Int32) → (Nat → Int32) → Int32 → Int32 → (Nat → Int32) → Int32 → Option (Int32 × Int32 × Int32 × (Nat → Int32))) (F_X1_readsSum : Int32 → (Nat → Int32) → (Nat → Int32) → Int32 → Int32 → (Nat → Int32) → Int32 → Option (Int32 × Int32 × Int32 × (Nat → Int32))) (F_X1_readsTerm : Int32 → (Nat → Int32) → (Nat → Int32) → Int32 → Int32 → (Nat → Int32) → Int32 → Option (Int32 × Int32 × Int32 × (Nat → Int32))) (tape_length : Int32) (tape_bytes : Nat → Int32) (llT : Nat → Int32) (tape_at : Int32) (lr_size : Int32) (lr_code : Nat → Int32) (v1 : Int32) : Option (Int32 × Int32 × Int32 × (Nat → Int32)) :=
  ob4 (F_X1_readsAtom tape_length tape_bytes llT tape_at lr_size lr_code v1) fun r_1 tape_at_2 lr_size_3 lr_code_4 =>
  if r_1 = (0 : Int32) then
    some ((0 : Int32), tape_at_2, lr_size_3, lr_code_4)
  else
    f_X1_readsTerm_12 F_X1_readsAtom F_X1_readsSum F_X1_readsTerm tape_length tape_bytes llT fu tape_at_2 lr_size_3 lr_code_4 v1 (0 : Int32)
noncomputable def g_X1_readsTerm (F_X1_readsAtom : Int32 → (Nat → Int32) → (Nat → Int32) → Int32 → Int32 → (Nat → Int32) → Int32 → Option (Int32 × Int32 × Int32 × (Nat → Int32))) (F_X1_readsSum : Int32 → (Nat → Int32) → (Nat → Int32) → Int32 → Int32 → (Nat → Int32) → Int32 → Option (Int32 × Int32 × Int32 × (Nat → Int32))) (F_X1_readsTerm : Int32 → (Nat → Int32) → (Nat → Int32) → Int32 → Int32 → (Nat → Int32) → Int32 → Option (Int32 × Int32 × Int32 × (Nat → Int32))) (tape_length : Int32) (tape_bytes : Nat → Int32) (llT : Nat → Int32) (tape_at : Int32) (lr_size : Int32) (lr_code : Nat → Int32) (p1 : Int32) : Option (Int32 × Int32 × Int32 × (Nat → Int32)) := b_X1_readsTerm_0 F_X1_readsAtom F_X1_readsSum F_X1_readsTerm tape_length tape_bytes llT tape_at lr_size lr_code p1
noncomputable def rc_X1_readsAtom : Nat → (Int32 → (Nat → Int32) → (Nat → Int32) → Int32 → Int32 → (Nat → Int32) → Int32 → Option (Int32 × Int32 × Int32 × (Nat → Int32))) × (Int32 → (Nat → Int32) → (Nat → Int32) → Int32 → Int32 → (Nat → Int32) → Int32 → Option (Int32 × Int32 × Int32 × (Nat → Int32))) × (Int32 → (Nat → Int32) → (Nat → Int32) → Int32 → Int32 → (Nat → Int32) → Int32 → Option (Int32 × Int32 × Int32 × (Nat → Int32)))
  | 0 => (fun _ _ _ _ _ _ _ => none, fun _ _ _ _ _ _ _ => none, fun _ _ _ _ _ _ _ => none)
  | d + 1 => (g_X1_readsAtom (rc_X1_readsAtom d).1 (rc_X1_readsAtom d).2.1 (rc_X1_readsAtom d).2.2, g_X1_readsSum (rc_X1_readsAtom d).1 (rc_X1_readsAtom d).2.1 (rc_X1_readsAtom d).2.2, g_X1_readsTerm (rc_X1_readsAtom d).1 (rc_X1_readsAtom d).2.1 (rc_X1_readsAtom d).2.2)
noncomputable def f_X1_readsAtom (d : Nat) : Int32 → (Nat → Int32) → (Nat → Int32) → Int32 → Int32 → (Nat → Int32) → Int32 → Option (Int32 × Int32 × Int32 × (Nat → Int32)) := (rc_X1_readsAtom d).1
noncomputable def f_X1_readsSum (d : Nat) : Int32 → (Nat → Int32) → (Nat → Int32) → Int32 → Int32 → (Nat → Int32) → Int32 → Option (Int32 × Int32 × Int32 × (Nat → Int32)) := (rc_X1_readsAtom d).2.1
noncomputable def f_X1_readsTerm (d : Nat) : Int32 → (Nat → Int32) → (Nat → Int32) → Int32 → Int32 → (Nat → Int32) → Int32 → Option (Int32 × Int32 × Int32 × (Nat → Int32)) := (rc_X1_readsAtom d).2.2
noncomputable def b_X1_comparison_0 (v0 : Int32) : Option (Int32) :=
  if v0 = (61 : Int32) then
    some (-6 : Int32)
  else
    if v0 = (60 : Int32) then
      some (-7 : Int32)
    else
      if v0 = (62 : Int32) then
        some (-8 : Int32)
      else
        some (-1 : Int32)
noncomputable def f_X1_comparison (p1 : Int32) : Option (Int32) := b_X1_comparison_0  p1
noncomputable def b_X1_readsComparison_0 (tape_length : Int32) (tape_bytes : Nat → Int32) (llT : Nat → Int32) (tape_at : Int32) (lr_size : Int32) (lr_code : Nat → Int32) (v1 : Int32) : Option (Int32 × Int32 × Int32 × (Nat → Int32)) :=
  ob2 (f_X10_sign tape_length tape_bytes tape_at) fun r_1 tape_at_2 =>
  ob1 (f_X1_comparison r_1) fun r_4 =>
  if r_4 = (-1 : Int32) then
    some ((0 : Int32), tape_at_2, lr_size, lr_code)
  else
    bnd (tape_at_2 + (1 : Int32)) fun at_6 =>
    ob4 (f_X1_readsSum 60 tape_length tape_bytes llT at_6 lr_size lr_code v1) fun r_7 tape_at_8 lr_size_9 lr_code_10 =>
    if r_7 = (0 : Int32) then
      some ((0 : Int32), tape_at_8, lr_size_9, lr_code_10)
    else
      ob3 (f_X1_put lr_size_9 lr_code_10 r_4) fun r_12 lr_size_13 lr_code_14 =>
      if r_12 = (0 : Int32) then
        some ((0 : Int32), tape_at_8, lr_size_13, lr_code_14)
      else
        some ((1 : Int32), tape_at_8, lr_size_13, lr_code_14)
noncomputable def f_X1_readsComparison (tape_length : Int32) (tape_bytes : Nat → Int32) (llT : Nat → Int32) (tape_at : Int32) (lr_size : Int32) (lr_code : Nat → Int32) (p1 : Int32) : Option (Int32 × Int32 × Int32 × (Nat → Int32)) := b_X1_readsComparison_0 tape_length tape_bytes llT tape_at lr_size lr_code p1
noncomputable def b_X1_readsCondition_0 (F_X1_readsCondition : Int32 → (Nat → Int32) → (Nat → Int32) → Int32 → Int32 → (Nat → Int32) → Int32 → Option (Int32 × Int32 × Int32 × (Nat → Int32))) (F_X1_readsMoreTruths : Int32 → (Nat → Int32) → (Nat → Int32) → Int32 → Int32 → (Nat → Int32) → Int32 → Option (Int32 × Int32 × Int32 × (Nat → Int32))) (F_X1_readsMoreUnits : Int32 → (Nat → Int32) → (Nat → Int32) → Int32 → Int32 → (Nat → Int32) → Int32 → Option (Int32 × Int32 × Int32 × (Nat → Int32))) (F_X1_readsUnit : Int32 → (Nat → Int32) → (Nat → Int32) → Int32 → Int32 → (Nat → Int32) → Int32 → Option (Int32 × Int32 × Int32 × (Nat → Int32))) (tape_length : Int32) (tape_bytes : Nat → Int32) (llT : Nat → Int32) (tape_at : Int32) (lr_size : Int32) (lr_code : Nat → Int32) (v1 : Int32) : Option (Int32 × Int32 × Int32 × (Nat → Int32)) :=
  ob4 (F_X1_readsUnit tape_length tape_bytes llT tape_at lr_size lr_code v1) fun r_1 tape_at_2 lr_size_3 lr_code_4 =>
  if r_1 = (0 : Int32) then
    some ((0 : Int32), tape_at_2, lr_size_3, lr_code_4)
  else
    ob4 (F_X1_readsMoreUnits tape_length tape_bytes llT tape_at_2 lr_size_3 lr_code_4 v1) fun r_6 tape_at_7 lr_size_8 lr_code_9 =>
    if r_6 = (0 : Int32) then
      some ((0 : Int32), tape_at_7, lr_size_8, lr_code_9)
    else
      ob4 (F_X1_readsMoreTruths tape_length tape_bytes llT tape_at_7 lr_size_8 lr_code_9 v1) fun r_11 tape_at_12 lr_size_13 lr_code_14 =>
      if r_11 = (0 : Int32) then
        some ((0 : Int32), tape_at_12, lr_size_13, lr_code_14)
      else
        some ((1 : Int32), tape_at_12, lr_size_13, lr_code_14)
noncomputable def g_X1_readsCondition (F_X1_readsCondition : Int32 → (Nat → Int32) → (Nat → Int32) → Int32 → Int32 → (Nat → Int32) → Int32 → Option (Int32 × Int32 × Int32 × (Nat → Int32))) (F_X1_readsMoreTruths : Int32 → (Nat → Int32) → (Nat → Int32) → Int32 → Int32 → (Nat → Int32) → Int32 → Option (Int32 × Int32 × Int32 × (Nat → Int32))) (F_X1_readsMoreUnits : Int32 → (Nat → Int32) → (Nat → Int32) → Int32 → Int32 → (Nat → Int32) → Int32 → Option (Int32 × Int32 × Int32 × (Nat → Int32))) (F_X1_readsUnit : Int32 → (Nat → Int32) → (Nat → Int32) → Int32 → Int32 → (Nat → Int32) → Int32 → Option (Int32 × Int32 × Int32 × (Nat → Int32))) (tape_length : Int32) (tape_bytes : Nat → Int32) (llT : Nat → Int32) (tape_at : Int32) (lr_size : Int32) (lr_code : Nat → Int32) (p1 : Int32) : Option (Int32 × Int32 × Int32 × (Nat → Int32)) := b_X1_readsCondition_0 F_X1_readsCondition F_X1_readsMoreTruths F_X1_readsMoreUnits F_X1_readsUnit tape_length tape_bytes llT tape_at lr_size lr_code p1
noncomputable def b_X1_readsMoreTruths_2 (F_X1_readsCondition : Int32 → (Nat → Int32) → (Nat → Int32) → Int32 → Int32 → (Nat → Int32) → Int32 → Option (Int32 × Int32 × Int32 × (Nat → Int32))) (F_X1_readsMoreTruths : Int32 → (Nat → Int32) → (Nat → Int32) → Int32 → Int32 → (Nat → Int32) → Int32 → Option (Int32 × Int32 × Int32 × (Nat → Int32))) (F_X1_readsMoreUnits : Int32 → (Nat → Int32) → (Nat → Int32) → Int32 → Int32 → (Nat → Int32) → Int32 → Option (Int32 × Int32 × Int32 × (Nat → Int32))) (F_X1_readsUnit : Int32 → (Nat → Int32) → (Nat → Int32) → Int32 → Int32 → (Nat → Int32) → Int32 → Option (Int32 × Int32 × Int32 × (Nat → Int32))) (tape_length : Int32) (tape_bytes : Nat → Int32) (llT : Nat → Int32) (k2 : Int32 → Int32 → (Nat → Int32) → Int32 → Int32 → Option (Int32 × Int32 × Int32 × (Nat → Int32))) (tape_at : Int32) (lr_size : Int32) (lr_code : Nat → Int32) (v1 : Int32) (v2 : Int32) : Option (Int32 × Int32 × Int32 × (Nat → Int32)) :=
  if (240 : Int32) ≤ v2 then
    some ((1 : Int32), tape_at, lr_size, lr_code)
  else
    ob2 (f_X10_take tape_length tape_bytes tape_at (124 : Int32)) fun r_1 tape_at_2 =>
    if r_1 = (0 : Int32) then
      some ((1 : Int32), tape_at_2, lr_size, lr_code)
    else
      ob4 (F_X1_readsUnit tape_length tape_bytes llT tape_at_2 lr_size lr_code v1) fun r_4 tape_at_5 lr_size_6 lr_code_7 =>
      if r_4 = (0 : Int32) then
        some ((0 : Int32), tape_at_5, lr_size_6, lr_code_7)
      else
        ob4 (F_X1_readsMoreUnits tape_length tape_bytes llT tape_at_5 lr_size_6 lr_code_7 v1) fun r_9 tape_at_10 lr_size_11 lr_code_12 =>
        if r_9 = (0 : Int32) then
          some ((0 : Int32), tape_at_10, lr_size_11, lr_code_12)
        else
          ob3 (f_X1_put lr_size_11 lr_code_12 (-10 : Int32)) fun r_14 lr_size_15 lr_code_16 =>
          if r_14 = (0 : Int32) then
            some ((0 : Int32), tape_at_10, lr_size_15, lr_code_16)
          else
            bnd (v2 + (1 : Int32)) fun v2_18 =>
            k2 tape_at_10 lr_size_15 lr_code_16 v1 v2_18
noncomputable def f_X1_readsMoreTruths_2 (F_X1_readsCondition : Int32 → (Nat → Int32) → (Nat → Int32) → Int32 → Int32 → (Nat → Int32) → Int32 → Option (Int32 × Int32 × Int32 × (Nat → Int32))) (F_X1_readsMoreTruths : Int32 → (Nat → Int32) → (Nat → Int32) → Int32 → Int32 → (Nat → Int32) → Int32 → Option (Int32 × Int32 × Int32 × (Nat → Int32))) (F_X1_readsMoreUnits : Int32 → (Nat → Int32) → (Nat → Int32) → Int32 → Int32 → (Nat → Int32) → Int32 → Option (Int32 × Int32 × Int32 × (Nat → Int32))) (F_X1_readsUnit : Int32 → (Nat → Int32) → (Nat → Int32) → Int32 → Int32 → (Nat → Int32) → Int32 → Option (Int32 × Int32 × Int32 × (Nat → Int32))) (tape_length : Int32) (tape_bytes : Nat → Int32) (llT : Nat → Int32) : Nat → Int32 → Int32 → (Nat → Int32) → Int32 → Int32 → Option (Int32 × Int32 × Int32 × (Nat → Int32))
  | 0, _, _, _, _, _ => none
  | n + 1, tape_at, lr_size, lr_code, v1, v2 => b_X1_readsMoreTruths_2 F_X1_readsCondition F_X1_readsMoreTruths F_X1_readsMoreUnits F_X1_readsUnit tape_length tape_bytes llT (f_X1_readsMoreTruths_2 F_X1_readsCondition F_X1_readsMoreTruths F_X1_readsMoreUnits F_X1_readsUnit tape_length tape_bytes llT n) tape_at lr_size lr_code v1 v2
noncomputable def b_X1_readsMoreTruths_0 (F_X1_readsCondition : Int32 → (Nat → Int32) → (Nat → Int32) → Int32 → Int32 → (Nat → Int32) → Int32 → Option (Int32 × Int32 × Int32 × (Nat → Int32))) (F_X1_readsMoreTruths : Int32 → (Nat → Int32) → (Nat → Int32) → Int32 → Int32 → (Nat → Int32) → Int32 → Option (Int32 × Int32 × Int32 × (Nat → Int32))) (F_X1_readsMoreUnits : Int32 → (Nat → Int32) → (Nat → Int32) → Int32 → Int32 → (Nat → Int32) → Int32 → Option (Int32 × Int32 × Int32 × (Nat → Int32))) (F_X1_readsUnit : Int32 → (Nat → Int32) → (Nat → Int32) → Int32 → Int32 → (Nat → Int32) → Int32 → Option (Int32 × Int32 × Int32 × (Nat → Int32))) (tape_length : Int32) (tape_bytes : Nat → Int32) (llT : Nat → Int32) (tape_at : Int32) (lr_size : Int32) (lr_code : Nat → Int32) (v1 : Int32) : Option (Int32 × Int32 × Int32 × (Nat → Int32)) :=
  f_X1_readsMoreTruths_2 F_X1_readsCondition F_X1_readsMoreTruths F_X1_readsMoreUnits F_X1_readsUnit tape_length tape_bytes llT fu tape_at lr_size lr_code v1 (0 : Int32)
noncomputable def g_X1_readsMoreTruths (F_X1_readsCondition : Int32 → (Nat → Int32) → (Nat → Int32) → Int32 → Int32 → (Nat → Int32) → Int32 → Option (Int32 × Int32 × Int32 × (Nat → Int32))) (F_X1_readsMoreTruths : Int32 → (Nat → Int32) → (Nat → Int32) → Int32 → Int32 → (Nat → Int32) → Int32 → Option (Int32 × Int32 × Int32 × (Nat → Int32))) (F_X1_readsMoreUnits : Int32 → (Nat → Int32) → (Nat → Int32) → Int32 → Int32 → (Nat → Int32) → Int32 → Option (Int32 × Int32 × Int32 × (Nat → Int32))) (F_X1_readsUnit : Int32 → (Nat → Int32) → (Nat → Int32) → Int32 → Int32 → (Nat → Int32) → Int32 → Option (Int32 × Int32 × Int32 × (Nat → Int32))) (tape_length : Int32) (tape_bytes : Nat → Int32) (llT : Nat → Int32) (tape_at : Int32) (lr_size : Int32) (lr_code : Nat → Int32) (p1 : Int32) : Option (Int32 × Int32 × Int32 × (Nat → Int32)) := b_X1_readsMoreTruths_0 F_X1_readsCondition F_X1_readsMoreTruths F_X1_readsMoreUnits F_X1_readsUnit tape_length tape_bytes llT tape_at lr_size lr_code p1
noncomputable def b_X1_readsMoreUnits_2 (F_X1_readsCondition : Int32 → (Nat → Int32) → (Nat → Int32) → Int32 → Int32 → (Nat → Int32) → Int32 → Option (Int32 × Int32 × Int32 × (Nat → Int32))) (F_X1_readsMoreTruths : Int32 → (Nat → Int32) → (Nat → Int32) → Int32 → Int32 → (Nat → Int32) → Int32 → Option (Int32 × Int32 × Int32 × (Nat → Int32))) (F_X1_readsMoreUnits : Int32 → (Nat → Int32) → (Nat → Int32) → Int32 → Int32 → (Nat → Int32) → Int32 → Option (Int32 × Int32 × Int32 × (Nat → Int32))) (F_X1_readsUnit : Int32 → (Nat → Int32) → (Nat → Int32) → Int32 → Int32 → (Nat → Int32) → Int32 → Option (Int32 × Int32 × Int32 × (Nat → Int32))) (tape_length : Int32) (tape_bytes : Nat → Int32) (llT : Nat → Int32) (k2 : Int32 → Int32 → (Nat → Int32) → Int32 → Int32 → Option (Int32 × Int32 × Int32 × (Nat → Int32))) (tape_at : Int32) (lr_size : Int32) (lr_code : Nat → Int32) (v1 : Int32) (v2 : Int32) : Option (Int32 × Int32 × Int32 × (Nat → Int32)) :=
  if (240 : Int32) ≤ v2 then
    some ((1 : Int32), tape_at, lr_size, lr_code)
  else
    ob2 (f_X10_take tape_length tape_bytes tape_at (38 : Int32)) fun r_1 tape_at_2 =>
    if r_1 = (0 : Int32) then
      some ((1 : Int32), tape_at_2, lr_size, lr_code)
    else
      ob4 (F_X1_readsUnit tape_length tape_bytes llT tape_at_2 lr_size lr_code v1) fun r_4 tape_at_5 lr_size_6 lr_code_7 =>
      if r_4 = (0 : Int32) then
        some ((0 : Int32), tape_at_5, lr_size_6, lr_code_7)
      else
        ob3 (f_X1_put lr_size_6 lr_code_7 (-9 : Int32)) fun r_9 lr_size_10 lr_code_11 =>
        if r_9 = (0 : Int32) then
          some ((0 : Int32), tape_at_5, lr_size_10, lr_code_11)
        else
          bnd (v2 + (1 : Int32)) fun v2_13 =>
          k2 tape_at_5 lr_size_10 lr_code_11 v1 v2_13
noncomputable def f_X1_readsMoreUnits_2 (F_X1_readsCondition : Int32 → (Nat → Int32) → (Nat → Int32) → Int32 → Int32 → (Nat → Int32) → Int32 → Option (Int32 × Int32 × Int32 × (Nat → Int32))) (F_X1_readsMoreTruths : Int32 → (Nat → Int32) → (Nat → Int32) → Int32 → Int32 → (Nat → Int32) → Int32 → Option (Int32 × Int32 × Int32 × (Nat → Int32))) (F_X1_readsMoreUnits : Int32 → (Nat → Int32) → (Nat → Int32) → Int32 → Int32 → (Nat → Int32) → Int32 → Option (Int32 × Int32 × Int32 × (Nat → Int32))) (F_X1_readsUnit : Int32 → (Nat → Int32) → (Nat → Int32) → Int32 → Int32 → (Nat → Int32) → Int32 → Option (Int32 × Int32 × Int32 × (Nat → Int32))) (tape_length : Int32) (tape_bytes : Nat → Int32) (llT : Nat → Int32) : Nat → Int32 → Int32 → (Nat → Int32) → Int32 → Int32 → Option (Int32 × Int32 × Int32 × (Nat → Int32))
  | 0, _, _, _, _, _ => none
  | n + 1, tape_at, lr_size, lr_code, v1, v2 => b_X1_readsMoreUnits_2 F_X1_readsCondition F_X1_readsMoreTruths F_X1_readsMoreUnits F_X1_readsUnit tape_length tape_bytes llT (f_X1_readsMoreUnits_2 F_X1_readsCondition F_X1_readsMoreTruths F_X1_readsMoreUnits F_X1_readsUnit tape_length tape_bytes llT n) tape_at lr_size lr_code v1 v2
noncomputable def b_X1_readsMoreUnits_0 (F_X1_readsCondition : Int32 → (Nat → Int32) → (Nat → Int32) → Int32 → Int32 → (Nat → Int32) → Int32 → Option (Int32 × Int32 × Int32 × (Nat → Int32))) (F_X1_readsMoreTruths : Int32 → (Nat → Int32) → (Nat → Int32) → Int32 → Int32 → (Nat → Int32) → Int32 → Option (Int32 × Int32 × Int32 × (Nat → Int32))) (F_X1_readsMoreUnits : Int32 → (Nat → Int32) → (Nat → Int32) → Int32 → Int32 → (Nat → Int32) → Int32 → Option (Int32 × Int32 × Int32 × (Nat → Int32))) (F_X1_readsUnit : Int32 → (Nat → Int32) → (Nat → Int32) → Int32 → Int32 → (Nat → Int32) → Int32 → Option (Int32 × Int32 × Int32 × (Nat → Int32))) (tape_length : Int32) (tape_bytes : Nat → Int32) (llT : Nat → Int32) (tape_at : Int32) (lr_size : Int32) (lr_code : Nat → Int32) (v1 : Int32) : Option (Int32 × Int32 × Int32 × (Nat → Int32)) :=
  f_X1_readsMoreUnits_2 F_X1_readsCondition F_X1_readsMoreTruths F_X1_readsMoreUnits F_X1_readsUnit tape_length tape_bytes llT fu tape_at lr_size lr_code v1 (0 : Int32)
noncomputable def g_X1_readsMoreUnits (F_X1_readsCondition : Int32 → (Nat → Int32) → (Nat → Int32) → Int32 → Int32 → (Nat → Int32) → Int32 → Option (Int32 × Int32 × Int32 × (Nat → Int32))) (F_X1_readsMoreTruths : Int32 → (Nat → Int32) → (Nat → Int32) → Int32 → Int32 → (Nat → Int32) → Int32 → Option (Int32 × Int32 × Int32 × (Nat → Int32))) (F_X1_readsMoreUnits : Int32 → (Nat → Int32) → (Nat → Int32) → Int32 → Int32 → (Nat → Int32) → Int32 → Option (Int32 × Int32 × Int32 × (Nat → Int32))) (F_X1_readsUnit : Int32 → (Nat → Int32) → (Nat → Int32) → Int32 → Int32 → (Nat → Int32) → Int32 → Option (Int32 × Int32 × Int32 × (Nat → Int32))) (tape_length : Int32) (tape_bytes : Nat → Int32) (llT : Nat → Int32) (tape_at : Int32) (lr_size : Int32) (lr_code : Nat → Int32) (p1 : Int32) : Option (Int32 × Int32 × Int32 × (Nat → Int32)) := b_X1_readsMoreUnits_0 F_X1_readsCondition F_X1_readsMoreTruths F_X1_readsMoreUnits F_X1_readsUnit tape_length tape_bytes llT tape_at lr_size lr_code p1
noncomputable def b_X1_readsUnit_42 (F_X1_readsCondition : Int32 → (Nat → Int32) → (Nat → Int32) → Int32 → Int32 → (Nat → Int32) → Int32 → Option (Int32 × Int32 × Int32 × (Nat → Int32))) (F_X1_readsMoreTruths : Int32 → (Nat → Int32) → (Nat → Int32) → Int32 → Int32 → (Nat → Int32) → Int32 → Option (Int32 × Int32 × Int32 × (Nat → Int32))) (F_X1_readsMoreUnits : Int32 → (Nat → Int32) → (Nat → Int32) → Int32 → Int32 → (Nat → Int32) → Int32 → Option (Int32 × Int32 × Int32 × (Nat → Int32))) (F_X1_readsUnit : Int32 → (Nat → Int32) → (Nat → Int32) → Int32 → Int32 → (Nat → Int32) → Int32 → Option (Int32 × Int32 × Int32 × (Nat → Int32))) (tape_length : Int32) (tape_bytes : Nat → Int32) (llT : Nat → Int32) (tape_at : Int32) (lr_size : Int32) (lr_code : Nat → Int32) (v1 : Int32) (v2 : Int32) : Option (Int32 × Int32 × Int32 × (Nat → Int32)) :=
  if v1 < (6 : Int32) then
    bnd (tape_at + (1 : Int32)) fun at_1 =>
    if v2 = (33 : Int32) then
      ob4 (F_X1_readsUnit tape_length tape_bytes llT at_1 lr_size lr_code (v1 + (1 : Int32))) fun r_10 tape_at_11 lr_size_12 lr_code_13 =>
      if r_10 = (0 : Int32) then
        some ((0 : Int32), tape_at_11, lr_size_12, lr_code_13)
      else
        ob3 (f_X1_put lr_size_12 lr_code_13 (-11 : Int32)) fun r_15 lr_size_16 lr_code_17 =>
        if r_15 = (0 : Int32) then
          some ((0 : Int32), tape_at_11, lr_size_16, lr_code_17)
        else
          some ((1 : Int32), tape_at_11, lr_size_16, lr_code_17)
    else
      ob4 (F_X1_readsCondition tape_length tape_bytes llT at_1 lr_size lr_code (v1 + (1 : Int32))) fun r_2 tape_at_3 lr_size_4 lr_code_5 =>
      if r_2 = (0 : Int32) then
        some ((0 : Int32), tape_at_3, lr_size_4, lr_code_5)
      else
        ob2 (f_X10_take tape_length tape_bytes tape_at_3 (41 : Int32)) fun r_7 tape_at_8 =>
        if r_7 = (0 : Int32) then
          some ((0 : Int32), tape_at_8, lr_size_4, lr_code_5)
        else
          some ((1 : Int32), tape_at_8, lr_size_4, lr_code_5)
  else
    some ((0 : Int32), tape_at, lr_size, lr_code)
noncomputable def b_X1_readsUnit_0 (F_X1_readsCondition : Int32 → (Nat → Int32) → (Nat → Int32) → Int32 → Int32 → (Nat → Int32) → Int32 → Option (Int32 × Int32 × Int32 × (Nat → Int32))) (F_X1_readsMoreTruths : Int32 → (Nat → Int32) → (Nat → Int32) → Int32 → Int32 → (Nat → Int32) → Int32 → Option (Int32 × Int32 × Int32 × (Nat → Int32))) (F_X1_readsMoreUnits : Int32 → (Nat → Int32) → (Nat → Int32) → Int32 → Int32 → (Nat → Int32) → Int32 → Option (Int32 × Int32 × Int32 × (Nat → Int32))) (F_X1_readsUnit : Int32 → (Nat → Int32) → (Nat → Int32) → Int32 → Int32 → (Nat → Int32) → Int32 → Option (Int32 × Int32 × Int32 × (Nat → Int32))) (tape_length : Int32) (tape_bytes : Nat → Int32) (llT : Nat → Int32) (tape_at : Int32) (lr_size : Int32) (lr_code : Nat → Int32) (v1 : Int32) : Option (Int32 × Int32 × Int32 × (Nat → Int32)) :=
  ob2 (f_X10_sign tape_length tape_bytes tape_at) fun r_1 tape_at_2 =>
  if r_1 = (33 : Int32) then
    b_X1_readsUnit_42 F_X1_readsCondition F_X1_readsMoreTruths F_X1_readsMoreUnits F_X1_readsUnit tape_length tape_bytes llT tape_at_2 lr_size lr_code v1 r_1
  else
    if r_1 = (40 : Int32) then
      b_X1_readsUnit_42 F_X1_readsCondition F_X1_readsMoreTruths F_X1_readsMoreUnits F_X1_readsUnit tape_length tape_bytes llT tape_at_2 lr_size lr_code v1 r_1
    else
      ob4 (f_X1_readsSum 60 tape_length tape_bytes llT tape_at_2 lr_size lr_code v1) fun r_4 tape_at_5 lr_size_6 lr_code_7 =>
      if r_4 = (0 : Int32) then
        some ((0 : Int32), tape_at_5, lr_size_6, lr_code_7)
      else
        ob4 (f_X1_readsComparison tape_length tape_bytes llT tape_at_5 lr_size_6 lr_code_7 v1) fun r_9 tape_at_10 lr_size_11 lr_code_12 =>
        if r_9 = (0 : Int32) then
          some ((0 : Int32), tape_at_10, lr_size_11, lr_code_12)
        else
          some ((1 : Int32), tape_at_10, lr_size_11, lr_code_12)
noncomputable def g_X1_readsUnit (F_X1_readsCondition : Int32 → (Nat → Int32) → (Nat → Int32) → Int32 → Int32 → (Nat → Int32) → Int32 → Option (Int32 × Int32 × Int32 × (Nat → Int32))) (F_X1_readsMoreTruths : Int32 → (Nat → Int32) → (Nat → Int32) → Int32 → Int32 → (Nat → Int32) → Int32 → Option (Int32 × Int32 × Int32 × (Nat → Int32))) (F_X1_readsMoreUnits : Int32 → (Nat → Int32) → (Nat → Int32) → Int32 → Int32 → (Nat → Int32) → Int32 → Option (Int32 × Int32 × Int32 × (Nat → Int32))) (F_X1_readsUnit : Int32 → (Nat → Int32) → (Nat → Int32) → Int32 → Int32 → (Nat → Int32) → Int32 → Option (Int32 × Int32 × Int32 × (Nat → Int32))) (tape_length : Int32) (tape_bytes : Nat → Int32) (llT : Nat → Int32) (tape_at : Int32) (lr_size : Int32) (lr_code : Nat → Int32) (p1 : Int32) : Option (Int32 × Int32 × Int32 × (Nat → Int32)) := b_X1_readsUnit_0 F_X1_readsCondition F_X1_readsMoreTruths F_X1_readsMoreUnits F_X1_readsUnit tape_length tape_bytes llT tape_at lr_size lr_code p1
noncomputable def rc_X1_readsCondition : Nat → (Int32 → (Nat → Int32) → (Nat → Int32) → Int32 → Int32 → (Nat → Int32) → Int32 → Option (Int32 × Int32 × Int32 × (Nat → Int32))) × (Int32 → (Nat → Int32) → (Nat → Int32) → Int32 → Int32 → (Nat → Int32) → Int32 → Option (Int32 × Int32 × Int32 × (Nat → Int32))) × (Int32 → (Nat → Int32) → (Nat → Int32) → Int32 → Int32 → (Nat → Int32) → Int32 → Option (Int32 × Int32 × Int32 × (Nat → Int32))) × (Int32 → (Nat → Int32) → (Nat → Int32) → Int32 → Int32 → (Nat → Int32) → Int32 → Option (Int32 × Int32 × Int32 × (Nat → Int32)))
  | 0 => (fun _ _ _ _ _ _ _ => none, fun _ _ _ _ _ _ _ => none, fun _ _ _ _ _ _ _ => none, fun _ _ _ _ _ _ _ => none)
  | d + 1 => (g_X1_readsCondition (rc_X1_readsCondition d).1 (rc_X1_readsCondition d).2.1 (rc_X1_readsCondition d).2.2.1 (rc_X1_readsCondition d).2.2.2, g_X1_readsMoreTruths (rc_X1_readsCondition d).1 (rc_X1_readsCondition d).2.1 (rc_X1_readsCondition d).2.2.1 (rc_X1_readsCondition d).2.2.2, g_X1_readsMoreUnits (rc_X1_readsCondition d).1 (rc_X1_readsCondition d).2.1 (rc_X1_readsCondition d).2.2.1 (rc_X1_readsCondition d).2.2.2, g_X1_readsUnit (rc_X1_readsCondition d).1 (rc_X1_readsCondition d).2.1 (rc_X1_readsCondition d).2.2.1 (rc_X1_readsCondition d).2.2.2)
noncomputable def f_X1_readsCondition (d : Nat) : Int32 → (Nat → Int32) → (Nat → Int32) → Int32 → Int32 → (Nat → Int32) → Int32 → Option (Int32 × Int32 × Int32 × (Nat → Int32)) := (rc_X1_readsCondition d).1
noncomputable def f_X1_readsMoreTruths (d : Nat) : Int32 → (Nat → Int32) → (Nat → Int32) → Int32 → Int32 → (Nat → Int32) → Int32 → Option (Int32 × Int32 × Int32 × (Nat → Int32)) := (rc_X1_readsCondition d).2.1
noncomputable def f_X1_readsMoreUnits (d : Nat) : Int32 → (Nat → Int32) → (Nat → Int32) → Int32 → Int32 → (Nat → Int32) → Int32 → Option (Int32 × Int32 × Int32 × (Nat → Int32)) := (rc_X1_readsCondition d).2.2.1
noncomputable def f_X1_readsUnit (d : Nat) : Int32 → (Nat → Int32) → (Nat → Int32) → Int32 → Int32 → (Nat → Int32) → Int32 → Option (Int32 × Int32 × Int32 × (Nat → Int32)) := (rc_X1_readsCondition d).2.2.2
noncomputable def b_X1_readsClause_161 (tape_length : Int32) (tape_bytes : Nat → Int32) (llT : Nat → Int32) (tape_at : Int32) (lr_size : Int32) (lr_code : Nat → Int32) : Option (Int32 × Int32 × Int32 × (Nat → Int32)) :=
  ob3 (f_X1_put lr_size lr_code (-13 : Int32)) fun r_1 lr_size_2 lr_code_3 =>
  gd (isZ r_1) <|
  some (r_1, tape_at, lr_size_2, lr_code_3)
noncomputable def b_X1_readsClause_126 (tape_length : Int32) (tape_bytes : Nat → Int32) (llT : Nat → Int32) (tape_at : Int32) (lr_size : Int32) (lr_code : Nat → Int32) (v2 : Int32) : Option (Int32 × Int32 × Int32 × (Nat → Int32)) :=
  if v2 = (0 : Int32) then
    b_X1_readsClause_161 tape_length tape_bytes llT tape_at lr_size lr_code
  else
    ob2 (f_X10_take tape_length tape_bytes tape_at (63 : Int32)) fun r_1 tape_at_2 =>
    if r_1 = (0 : Int32) then
      some ((0 : Int32), tape_at_2, lr_size, lr_code)
    else
      ob3 (f_X1_put lr_size lr_code (-12 : Int32)) fun r_4 lr_size_5 lr_code_6 =>
      if r_4 = (0 : Int32) then
        some ((0 : Int32), tape_at_2, lr_size_5, lr_code_6)
      else
        ob4 (f_X1_readsSum 60 tape_length tape_bytes llT tape_at_2 lr_size_5 lr_code_6 (0 : Int32)) fun r_8 tape_at_9 lr_size_10 lr_code_11 =>
        if r_8 = (0 : Int32) then
          some ((0 : Int32), tape_at_9, lr_size_10, lr_code_11)
        else
          b_X1_readsClause_161 tape_length tape_bytes llT tape_at_9 lr_size_10 lr_code_11
noncomputable def b_X1_readsClause_95 (tape_length : Int32) (tape_bytes : Nat → Int32) (llT : Nat → Int32) (tape_at : Int32) (lr_size : Int32) (lr_code : Nat → Int32) (t0 : Int32) : Option (Int32 × Int32 × Int32 × (Nat → Int32)) :=
  if t0 = (0 : Int32) then
    b_X1_readsClause_126 tape_length tape_bytes llT tape_at lr_size lr_code t0
  else
    ob4 (f_X1_readsComparison tape_length tape_bytes llT tape_at lr_size lr_code (0 : Int32)) fun r_1 tape_at_2 lr_size_3 lr_code_4 =>
    if r_1 = (0 : Int32) then
      some ((0 : Int32), tape_at_2, lr_size_3, lr_code_4)
    else
      ob4 (f_X1_readsMoreUnits 60 tape_length tape_bytes llT tape_at_2 lr_size_3 lr_code_4 (0 : Int32)) fun r_6 tape_at_7 lr_size_8 lr_code_9 =>
      if r_6 = (0 : Int32) then
        some ((0 : Int32), tape_at_7, lr_size_8, lr_code_9)
      else
        ob4 (f_X1_readsMoreTruths 60 tape_length tape_bytes llT tape_at_7 lr_size_8 lr_code_9 (0 : Int32)) fun r_11 tape_at_12 lr_size_13 lr_code_14 =>
        if r_11 = (0 : Int32) then
          some ((0 : Int32), tape_at_12, lr_size_13, lr_code_14)
        else
          b_X1_readsClause_126 tape_length tape_bytes llT tape_at_12 lr_size_13 lr_code_14 t0
noncomputable def b_X1_readsClause_51 (tape_length : Int32) (tape_bytes : Nat → Int32) (llT : Nat → Int32) (tape_at : Int32) (lr_size : Int32) (lr_code : Nat → Int32) (t0 : Int32) : Option (Int32 × Int32 × Int32 × (Nat → Int32)) :=
  if t0 = (0 : Int32) then
    ob4 (f_X1_readsSum 60 tape_length tape_bytes llT tape_at lr_size lr_code (0 : Int32)) fun r_1 tape_at_2 lr_size_3 lr_code_4 =>
    if r_1 = (0 : Int32) then
      some ((0 : Int32), tape_at_2, lr_size_3, lr_code_4)
    else
      ob2 (f_X10_sign tape_length tape_bytes tape_at_2) fun r_6 tape_at_7 =>
      ob1 (f_X1_comparison r_6) fun r_9 =>
      if r_9 = (-1 : Int32) then
        b_X1_readsClause_95 tape_length tape_bytes llT tape_at_7 lr_size_3 lr_code_4 (0 : Int32)
      else
        b_X1_readsClause_95 tape_length tape_bytes llT tape_at_7 lr_size_3 lr_code_4 (1 : Int32)
  else
    ob4 (f_X1_readsCondition 60 tape_length tape_bytes llT tape_at lr_size lr_code (0 : Int32)) fun r_11 tape_at_12 lr_size_13 lr_code_14 =>
    if r_11 = (0 : Int32) then
      some ((0 : Int32), tape_at_12, lr_size_13, lr_code_14)
    else
      b_X1_readsClause_126 tape_length tape_bytes llT tape_at_12 lr_size_13 lr_code_14 t0
noncomputable def b_X1_readsClause_46 (tape_length : Int32) (tape_bytes : Nat → Int32) (llT : Nat → Int32) (tape_at : Int32) (lr_size : Int32) (lr_code : Nat → Int32) : Option (Int32 × Int32 × Int32 × (Nat → Int32)) :=
  b_X1_readsClause_51 tape_length tape_bytes llT tape_at lr_size lr_code (1 : Int32)
noncomputable def b_X1_readsClause_0 (tape_length : Int32) (tape_bytes : Nat → Int32) (llT : Nat → Int32) (tape_at : Int32) (lr_size : Int32) (lr_code : Nat → Int32) : Option (Int32 × Int32 × Int32 × (Nat → Int32)) :=
  ob2 (f_X10_take tape_length tape_bytes tape_at (121 : Int32)) fun r_1 tape_at_2 =>
  if r_1 = (0 : Int32) then
    some ((0 : Int32), tape_at_2, lr_size, lr_code)
  else
    ob2 (f_X10_take tape_length tape_bytes tape_at_2 (58 : Int32)) fun r_4 tape_at_5 =>
    if r_4 = (0 : Int32) then
      some ((0 : Int32), tape_at_5, lr_size, lr_code)
    else
      ob2 (f_X10_sign tape_length tape_bytes tape_at_5) fun r_7 tape_at_8 =>
      if r_7 = (33 : Int32) then
        b_X1_readsClause_46 tape_length tape_bytes llT tape_at_8 lr_size lr_code
      else
        if r_7 = (40 : Int32) then
          b_X1_readsClause_46 tape_length tape_bytes llT tape_at_8 lr_size lr_code
        else
          b_X1_readsClause_51 tape_length tape_bytes llT tape_at_8 lr_size lr_code (0 : Int32)
noncomputable def f_X1_readsClause (tape_length : Int32) (tape_bytes : Nat → Int32) (llT : Nat → Int32) (tape_at : Int32) (lr_size : Int32) (lr_code : Nat → Int32) : Option (Int32 × Int32 × Int32 × (Nat → Int32)) := b_X1_readsClause_0 tape_length tape_bytes llT tape_at lr_size lr_code
noncomputable def b_X1_readsAll_15 (tape_length : Int32) (tape_bytes : Nat → Int32) (llT : Nat → Int32) (k15 : Int32 → Int32 → (Nat → Int32) → Int32 → Option (Int32 × Int32 × Int32 × (Nat → Int32))) (tape_at : Int32) (lr_size : Int32) (lr_code : Nat → Int32) (v1 : Int32) : Option (Int32 × Int32 × Int32 × (Nat → Int32)) :=
  if (240 : Int32) < v1 then
    some ((0 : Int32), tape_at, lr_size, lr_code)
  else
    ob4 (f_X1_readsClause tape_length tape_bytes llT tape_at lr_size lr_code) fun r_1 tape_at_2 lr_size_3 lr_code_4 =>
    if r_1 = (0 : Int32) then
      some ((0 : Int32), tape_at_2, lr_size_3, lr_code_4)
    else
      ob2 (f_X10_sign tape_length tape_bytes tape_at_2) fun r_6 tape_at_7 =>
      if r_6 = (-1 : Int32) then
        some ((1 : Int32), tape_at_7, lr_size_3, lr_code_4)
      else
        ob2 (f_X10_take tape_length tape_bytes tape_at_7 (59 : Int32)) fun r_9 tape_at_10 =>
        if r_9 = (0 : Int32) then
          some ((0 : Int32), tape_at_10, lr_size_3, lr_code_4)
        else
          bnd (v1 + (1 : Int32)) fun v1_12 =>
          k15 tape_at_10 lr_size_3 lr_code_4 v1_12
noncomputable def f_X1_readsAll_15 (tape_length : Int32) (tape_bytes : Nat → Int32) (llT : Nat → Int32) : Nat → Int32 → Int32 → (Nat → Int32) → Int32 → Option (Int32 × Int32 × Int32 × (Nat → Int32))
  | 0, _, _, _, _ => none
  | n + 1, tape_at, lr_size, lr_code, v1 => b_X1_readsAll_15 tape_length tape_bytes llT (f_X1_readsAll_15 tape_length tape_bytes llT n) tape_at lr_size lr_code v1
noncomputable def b_X1_readsAll_0 (tape_length : Int32) (tape_bytes : Nat → Int32) (llT : Nat → Int32) (tape_at : Int32) (lr_size : Int32) (lr_code : Nat → Int32) : Option (Int32 × Int32 × Int32 × (Nat → Int32)) :=
  f_X1_readsAll_15 tape_length tape_bytes llT fu (0 : Int32) (0 : Int32) lr_code (0 : Int32)
noncomputable def f_X1_readsAll (tape_length : Int32) (tape_bytes : Nat → Int32) (llT : Nat → Int32) (tape_at : Int32) (lr_size : Int32) (lr_code : Nat → Int32) : Option (Int32 × Int32 × Int32 × (Nat → Int32)) := b_X1_readsAll_0 tape_length tape_bytes llT tape_at lr_size lr_code
noncomputable def b_X11_fault_33 (tape_length : Int32) (tape_bytes : Nat → Int32) (llT : Nat → Int32) (plT : Nat → Int32) (pmT : Nat → Int32) (puT : Nat → Int32) (tape_at : Int32) (pr_ruled : Int32) (pr_values : Nat → Int32) (lr_size : Int32) (lr_code : Nat → Int32) (read_gloves : Int32) (read_matters : Int32) (read_pride : Int32) (read_coins : Int32) (read_house : Nat → Int32) (read_free : Nat → Int32) (read_stuffed : Nat → Int32) (read_after : Nat → Int32) (read_weight : Nat → Int32) (read_need : Nat → Int32) (t0 : Int32) : Option (Int32 × Int32 × Int32 × (Nat → Int32) × Int32 × (Nat → Int32) × Int32 × Int32 × Int32 × Int32 × (Nat → Int32) × (Nat → Int32) × (Nat → Int32) × (Nat → Int32) × (Nat → Int32) × (Nat → Int32)) :=
  if t0 = (0 : Int32) then
    some (tape_at, tape_at, pr_ruled, pr_values, lr_size, lr_code, read_gloves, read_matters, read_pride, read_coins, read_house, read_free, read_stuffed, read_after, read_weight, read_need)
  else
    some ((-1 : Int32), tape_at, pr_ruled, pr_values, lr_size, lr_code, read_gloves, read_matters, read_pride, read_coins, read_house, read_free, read_stuffed, read_after, read_weight, read_need)
noncomputable def b_X11_fault_12 (tape_length : Int32) (tape_bytes : Nat → Int32) (llT : Nat → Int32) (plT : Nat → Int32) (pmT : Nat → Int32) (puT : Nat → Int32) (tape_at : Int32) (pr_ruled : Int32) (pr_values : Nat → Int32) (lr_size : Int32) (lr_code : Nat → Int32) (read_gloves : Int32) (read_matters : Int32) (read_pride : Int32) (read_coins : Int32) (read_house : Nat → Int32) (read_free : Nat → Int32) (read_stuffed : Nat → Int32) (read_after : Nat → Int32) (read_weight : Nat → Int32) (read_need : Nat → Int32) (v1 : Int32) : Option (Int32 × Int32 × Int32 × (Nat → Int32) × Int32 × (Nat → Int32) × Int32 × Int32 × Int32 × Int32 × (Nat → Int32) × (Nat → Int32) × (Nat → Int32) × (Nat → Int32) × (Nat → Int32) × (Nat → Int32)) :=
  if v1 = (0 : Int32) then
    ob14 (f_X6_readsAll tape_length tape_bytes plT pmT puT tape_at pr_ruled pr_values read_gloves read_matters read_pride read_coins read_house read_free read_stuffed read_after read_weight read_need) fun r_6 tape_at_7 pr_ruled_8 pr_values_9 read_gloves_10 read_matters_11 read_pride_12 read_coins_13 read_house_14 read_free_15 read_stuffed_16 read_after_17 read_weight_18 read_need_19 =>
    b_X11_fault_33 tape_length tape_bytes llT plT pmT puT tape_at_7 pr_ruled_8 pr_values_9 lr_size lr_code read_gloves_10 read_matters_11 read_pride_12 read_coins_13 read_house_14 read_free_15 read_stuffed_16 read_after_17 read_weight_18 read_need_19 r_6
  else
    ob4 (f_X1_readsAll tape_length tape_bytes llT tape_at lr_size lr_code) fun r_1 tape_at_2 lr_size_3 lr_code_4 =>
    b_X11_fault_33 tape_length tape_bytes llT plT pmT puT tape_at_2 pr_ruled pr_values lr_size_3 lr_code_4 read_gloves read_matters read_pride read_coins read_house read_free read_stuffed read_after read_weight read_need r_1
noncomputable def b_X11_fault_0 (tape_length : Int32) (tape_bytes : Nat → Int32) (llT : Nat → Int32) (plT : Nat → Int32) (pmT : Nat → Int32) (puT : Nat → Int32) (tape_at : Int32) (pr_ruled : Int32) (pr_values : Nat → Int32) (lr_size : Int32) (lr_code : Nat → Int32) (read_gloves : Int32) (read_matters : Int32) (read_pride : Int32) (read_coins : Int32) (read_house : Nat → Int32) (read_free : Nat → Int32) (read_stuffed : Nat → Int32) (read_after : Nat → Int32) (read_weight : Nat → Int32) (read_need : Nat → Int32) (v1 : Int32) : Option (Int32 × Int32 × Int32 × (Nat → Int32) × Int32 × (Nat → Int32) × Int32 × Int32 × Int32 × Int32 × (Nat → Int32) × (Nat → Int32) × (Nat → Int32) × (Nat → Int32) × (Nat → Int32) × (Nat → Int32)) :=
  if v1 = (0 : Int32) then
    b_X11_fault_12 tape_length tape_bytes llT plT pmT puT tape_at pr_ruled pr_values lr_size lr_code read_gloves read_matters read_pride read_coins read_house read_free read_stuffed read_after read_weight read_need v1
  else
    if v1 = (1 : Int32) then
      b_X11_fault_12 tape_length tape_bytes llT plT pmT puT tape_at pr_ruled pr_values lr_size lr_code read_gloves read_matters read_pride read_coins read_house read_free read_stuffed read_after read_weight read_need v1
    else
      some ((-2 : Int32), tape_at, pr_ruled, pr_values, lr_size, lr_code, read_gloves, read_matters, read_pride, read_coins, read_house, read_free, read_stuffed, read_after, read_weight, read_need)
noncomputable def f_X11_fault (tape_length : Int32) (tape_bytes : Nat → Int32) (llT : Nat → Int32) (plT : Nat → Int32) (pmT : Nat → Int32) (puT : Nat → Int32) (tape_at : Int32) (pr_ruled : Int32) (pr_values : Nat → Int32) (lr_size : Int32) (lr_code : Nat → Int32) (read_gloves : Int32) (read_matters : Int32) (read_pride : Int32) (read_coins : Int32) (read_house : Nat → Int32) (read_free : Nat → Int32) (read_stuffed : Nat → Int32) (read_after : Nat → Int32) (read_weight : Nat → Int32) (read_need : Nat → Int32) (p1 : Int32) : Option (Int32 × Int32 × Int32 × (Nat → Int32) × Int32 × (Nat → Int32) × Int32 × Int32 × Int32 × Int32 × (Nat → Int32) × (Nat → Int32) × (Nat → Int32) × (Nat → Int32) × (Nat → Int32) × (Nat → Int32)) := b_X11_fault_0 tape_length tape_bytes llT plT pmT puT tape_at pr_ruled pr_values lr_size lr_code read_gloves read_matters read_pride read_coins read_house read_free read_stuffed read_after read_weight read_need p1
noncomputable def b_X5_copyFrom_0 (PO_gloves : Int32) (PO_matters : Int32) (PO_pride : Int32) (PO_coins : Int32) (PO_house : Nat → Int32) (PO_free : Nat → Int32) (PO_stuffed : Nat → Int32) (PO_after : Nat → Int32) (PO_weight : Nat → Int32) (PO_need : Nat → Int32) (P_gloves : Int32) (P_matters : Int32) (P_pride : Int32) (P_coins : Int32) (P_house : Nat → Int32) (P_free : Nat → Int32) (P_stuffed : Nat → Int32) (P_after : Nat → Int32) (P_weight : Nat → Int32) (P_need : Nat → Int32) : Option (Int32 × Int32 × Int32 × Int32 × (Nat → Int32) × (Nat → Int32) × (Nat → Int32) × (Nat → Int32) × (Nat → Int32) × (Nat → Int32)) :=
  gd (spB (0 : Int32) (6 : Int32) 6) <|
  gd (spB (0 : Int32) (6 : Int32) 6) <|
  bnd (va_cpy PO_house P_house (0 : Int32).toNatClampNeg (0 : Int32).toNatClampNeg (6 : Int32).toNatClampNeg) fun P_house_3 =>
  gd (spB (0 : Int32) (6 : Int32) 6) <|
  gd (spB (0 : Int32) (6 : Int32) 6) <|
  bnd (va_cpy PO_free P_free (0 : Int32).toNatClampNeg (0 : Int32).toNatClampNeg (6 : Int32).toNatClampNeg) fun P_free_6 =>
  gd (spB (0 : Int32) (6 : Int32) 6) <|
  gd (spB (0 : Int32) (6 : Int32) 6) <|
  bnd (va_cpy PO_stuffed P_stuffed (0 : Int32).toNatClampNeg (0 : Int32).toNatClampNeg (6 : Int32).toNatClampNeg) fun P_stuffed_9 =>
  gd (spB (0 : Int32) (6 : Int32) 6) <|
  gd (spB (0 : Int32) (6 : Int32) 6) <|
  bnd (va_cpy PO_after P_after (0 : Int32).toNatClampNeg (0 : Int32).toNatClampNeg (6 : Int32).toNatClampNeg) fun P_after_12 =>
  gd (spB (0 : Int32) (5 : Int32) 5) <|
  gd (spB (0 : Int32) (5 : Int32) 5) <|
  bnd (va_cpy PO_weight P_weight (0 : Int32).toNatClampNeg (0 : Int32).toNatClampNeg (5 : Int32).toNatClampNeg) fun P_weight_15 =>
  gd (spB (0 : Int32) (5 : Int32) 5) <|
  gd (spB (0 : Int32) (5 : Int32) 5) <|
  bnd (va_cpy PO_need P_need (0 : Int32).toNatClampNeg (0 : Int32).toNatClampNeg (5 : Int32).toNatClampNeg) fun P_need_18 =>
  some (PO_gloves, PO_matters, PO_pride, PO_coins, P_house_3, P_free_6, P_stuffed_9, P_after_12, P_weight_15, P_need_18)
noncomputable def f_X5_copyFrom (PO_gloves : Int32) (PO_matters : Int32) (PO_pride : Int32) (PO_coins : Int32) (PO_house : Nat → Int32) (PO_free : Nat → Int32) (PO_stuffed : Nat → Int32) (PO_after : Nat → Int32) (PO_weight : Nat → Int32) (PO_need : Nat → Int32) (P_gloves : Int32) (P_matters : Int32) (P_pride : Int32) (P_coins : Int32) (P_house : Nat → Int32) (P_free : Nat → Int32) (P_stuffed : Nat → Int32) (P_after : Nat → Int32) (P_weight : Nat → Int32) (P_need : Nat → Int32) : Option (Int32 × Int32 × Int32 × Int32 × (Nat → Int32) × (Nat → Int32) × (Nat → Int32) × (Nat → Int32) × (Nat → Int32) × (Nat → Int32)) := b_X5_copyFrom_0 PO_gloves PO_matters PO_pride PO_coins PO_house PO_free PO_stuffed PO_after PO_weight PO_need P_gloves P_matters P_pride P_coins P_house P_free P_stuffed P_after P_weight P_need
noncomputable def b_X9_begin_95 (told_pride : Int32) (told_coins : Int32) (told_free : Nat → Int32) (told_stuffed : Nat → Int32) (k95 : (Nat → Int32) → Int32 → Option ((Nat → Int32))) (S_cells : Nat → Int32) (v1 : Int32) : Option ((Nat → Int32)) :=
  if (5 : Int32) ≤ v1 then
    gd (inB (65 : Int32) 69) <|
    bnd (upd S_cells (65 : Int32).toNatClampNeg (0 : Int32)) fun S_cells_2 =>
    gd (inB (66 : Int32) 69) <|
    bnd (upd S_cells_2 (66 : Int32).toNatClampNeg told_pride) fun S_cells_4 =>
    gd (inB (67 : Int32) 69) <|
    bnd (upd S_cells_4 (67 : Int32).toNatClampNeg told_coins) fun S_cells_6 =>
    gd (inB (68 : Int32) 69) <|
    bnd (upd S_cells_6 (68 : Int32).toNatClampNeg (0 : Int32)) fun S_cells_8 =>
    some S_cells_8
  else
    gd (inB ((60 : Int32) + v1) 69) <|
    bnd (upd S_cells ((60 : Int32) + v1).toNatClampNeg (-1 : Int32)) fun S_cells_10 =>
    bnd (v1 + (1 : Int32)) fun v1_11 =>
    k95 S_cells_10 v1_11
noncomputable def f_X9_begin_95 (told_pride : Int32) (told_coins : Int32) (told_free : Nat → Int32) (told_stuffed : Nat → Int32) : Nat → (Nat → Int32) → Int32 → Option ((Nat → Int32))
  | 0, _, _ => none
  | n + 1, S_cells, v1 => b_X9_begin_95 told_pride told_coins told_free told_stuffed (f_X9_begin_95 told_pride told_coins told_free told_stuffed n) S_cells v1
noncomputable def b_X9_begin_23 (told_pride : Int32) (told_coins : Int32) (told_free : Nat → Int32) (told_stuffed : Nat → Int32) (k23 : (Nat → Int32) → Int32 → Option ((Nat → Int32))) (S_cells : Nat → Int32) (v1 : Int32) : Option ((Nat → Int32)) :=
  if (6 : Int32) ≤ v1 then
    f_X9_begin_95 told_pride told_coins told_free told_stuffed fu S_cells (0 : Int32)
  else
    gd (inB v1 6) <|
    gd (inB ((36 : Int32) + v1) 69) <|
    bnd (upd S_cells ((36 : Int32) + v1).toNatClampNeg (told_free v1.toNatClampNeg)) fun S_cells_3 =>
    gd (inB v1 6) <|
    gd (inB ((42 : Int32) + v1) 69) <|
    bnd (upd S_cells_3 ((42 : Int32) + v1).toNatClampNeg (told_stuffed v1.toNatClampNeg)) fun S_cells_6 =>
    gd (inB ((48 : Int32) + v1) 69) <|
    bnd (upd S_cells_6 ((48 : Int32) + v1).toNatClampNeg ((1 : Int32) <<< (v1 &&& (31 : Int32)))) fun S_cells_8 =>
    gd (inB ((54 : Int32) + v1) 69) <|
    bnd (upd S_cells_8 ((54 : Int32) + v1).toNatClampNeg (-1 : Int32)) fun S_cells_10 =>
    bnd (v1 + (1 : Int32)) fun v1_11 =>
    k23 S_cells_10 v1_11
noncomputable def f_X9_begin_23 (told_pride : Int32) (told_coins : Int32) (told_free : Nat → Int32) (told_stuffed : Nat → Int32) : Nat → (Nat → Int32) → Int32 → Option ((Nat → Int32))
  | 0, _, _ => none
  | n + 1, S_cells, v1 => b_X9_begin_23 told_pride told_coins told_free told_stuffed (f_X9_begin_23 told_pride told_coins told_free told_stuffed n) S_cells v1
noncomputable def b_X9_begin_2 (told_pride : Int32) (told_coins : Int32) (told_free : Nat → Int32) (told_stuffed : Nat → Int32) (k2 : (Nat → Int32) → Int32 → Option ((Nat → Int32))) (S_cells : Nat → Int32) (v1 : Int32) : Option ((Nat → Int32)) :=
  if (36 : Int32) ≤ v1 then
    f_X9_begin_23 told_pride told_coins told_free told_stuffed fu S_cells (0 : Int32)
  else
    gd (inB v1 69) <|
    bnd (upd S_cells v1.toNatClampNeg (0 : Int32)) fun S_cells_2 =>
    bnd (v1 + (1 : Int32)) fun v1_3 =>
    k2 S_cells_2 v1_3
noncomputable def f_X9_begin_2 (told_pride : Int32) (told_coins : Int32) (told_free : Nat → Int32) (told_stuffed : Nat → Int32) : Nat → (Nat → Int32) → Int32 → Option ((Nat → Int32))
  | 0, _, _ => none
  | n + 1, S_cells, v1 => b_X9_begin_2 told_pride told_coins told_free told_stuffed (f_X9_begin_2 told_pride told_coins told_free told_stuffed n) S_cells v1
noncomputable def b_X9_begin_0 (told_pride : Int32) (told_coins : Int32) (told_free : Nat → Int32) (told_stuffed : Nat → Int32) (S_cells : Nat → Int32) : Option ((Nat → Int32)) :=
  f_X9_begin_2 told_pride told_coins told_free told_stuffed fu S_cells (0 : Int32)
noncomputable def f_X9_begin (told_pride : Int32) (told_coins : Int32) (told_free : Nat → Int32) (told_stuffed : Nat → Int32) (S_cells : Nat → Int32) : Option ((Nat → Int32)) := b_X9_begin_0 told_pride told_coins told_free told_stuffed S_cells
noncomputable def b_X0_forget_0 (acts_size : Int32) : Option (Int32) :=
  some (0 : Int32)
noncomputable def f_X0_forget (acts_size : Int32) : Option (Int32) := b_X0_forget_0  acts_size
noncomputable def b_X11_takePeace_0 (read_gloves : Int32) (read_matters : Int32) (read_pride : Int32) (read_coins : Int32) (read_house : Nat → Int32) (read_free : Nat → Int32) (read_stuffed : Nat → Int32) (read_after : Nat → Int32) (read_weight : Nat → Int32) (read_need : Nat → Int32) (x_imaged : Int32) (tape_length : Int32) (told_gloves : Int32) (told_matters : Int32) (told_pride : Int32) (told_coins : Int32) (told_house : Nat → Int32) (told_free : Nat → Int32) (told_stuffed : Nat → Int32) (told_after : Nat → Int32) (told_weight : Nat → Int32) (told_need : Nat → Int32) (now_cells : Nat → Int32) (acts_size : Int32) (sg_size : Int32) : Option (Int32 × Int32 × Int32 × Int32 × Int32 × Int32 × Int32 × (Nat → Int32) × (Nat → Int32) × (Nat → Int32) × (Nat → Int32) × (Nat → Int32) × (Nat → Int32) × (Nat → Int32) × Int32 × Int32) :=
  ob10 (f_X5_copyFrom read_gloves read_matters read_pride read_coins read_house read_free read_stuffed read_after read_weight read_need told_gloves told_matters told_pride told_coins told_house told_free told_stuffed told_after told_weight told_need) fun told_gloves_1 told_matters_2 told_pride_3 told_coins_4 told_house_5 told_free_6 told_stuffed_7 told_after_8 told_weight_9 told_need_10 =>
  ob1 (f_X9_begin told_pride_3 told_coins_4 told_free_6 told_stuffed_7 now_cells) fun now_cells_12 =>
  ob1 (f_X0_forget acts_size) fun acts_size_14 =>
  some (told_gloves_1, (0 : Int32), (0 : Int32), told_gloves_1, told_matters_2, told_pride_3, told_coins_4, told_house_5, told_free_6, told_stuffed_7, told_after_8, told_weight_9, told_need_10, now_cells_12, acts_size_14, (0 : Int32))
noncomputable def f_X11_takePeace (read_gloves : Int32) (read_matters : Int32) (read_pride : Int32) (read_coins : Int32) (read_house : Nat → Int32) (read_free : Nat → Int32) (read_stuffed : Nat → Int32) (read_after : Nat → Int32) (read_weight : Nat → Int32) (read_need : Nat → Int32) (x_imaged : Int32) (tape_length : Int32) (told_gloves : Int32) (told_matters : Int32) (told_pride : Int32) (told_coins : Int32) (told_house : Nat → Int32) (told_free : Nat → Int32) (told_stuffed : Nat → Int32) (told_after : Nat → Int32) (told_weight : Nat → Int32) (told_need : Nat → Int32) (now_cells : Nat → Int32) (acts_size : Int32) (sg_size : Int32) : Option (Int32 × Int32 × Int32 × Int32 × Int32 × Int32 × Int32 × (Nat → Int32) × (Nat → Int32) × (Nat → Int32) × (Nat → Int32) × (Nat → Int32) × (Nat → Int32) × (Nat → Int32) × Int32 × Int32) := b_X11_takePeace_0 read_gloves read_matters read_pride read_coins read_house read_free read_stuffed read_after read_weight read_need x_imaged tape_length told_gloves told_matters told_pride told_coins told_house told_free told_stuffed told_after told_weight told_need now_cells acts_size sg_size
noncomputable def b_X2_isFull_0 (laws_size : Int32) : Option (Int32) :=
  if laws_size < (4 : Int32) then
    some (0 : Int32)
  else
    some (1 : Int32)
noncomputable def f_X2_isFull (laws_size : Int32) : Option (Int32) := b_X2_isFull_0 laws_size 
noncomputable def b_X2_add_0 (ar : Nat → Int32) (ar_n : Nat) (laws_size : Int32) (laws_lengths : Nat → Int32) (laws_c0 : Nat → Int32) (laws_c1 : Nat → Int32) (laws_c2 : Nat → Int32) (laws_c3 : Nat → Int32) (v2 : Int32) : Option (Int32 × (Nat → Int32) × (Nat → Int32) × (Nat → Int32) × (Nat → Int32) × (Nat → Int32)) :=
  ob1 (f_X2_isFull laws_size) fun r_1 =>
  if r_1 = (0 : Int32) then
    if v2 ≤ (241 : Int32) then
      gd (inB laws_size 4) <|
      if laws_size = (0 : Int32) then
        gd (spB (0 : Int32) v2 ar_n) <|
        gd (spB (0 : Int32) v2 241) <|
        bnd (va_cpy ar laws_c0 (0 : Int32).toNatClampNeg (0 : Int32).toNatClampNeg v2.toNatClampNeg) fun laws_c0_6 =>
        gd (inB laws_size 4) <|
        bnd (upd laws_lengths laws_size.toNatClampNeg v2) fun laws_lengths_8 =>
        bnd (laws_size + (1 : Int32)) fun size_9 =>
        some (size_9, laws_lengths_8, laws_c0_6, laws_c1, laws_c2, laws_c3)
      else
      if laws_size = (1 : Int32) then
        gd (spB (0 : Int32) v2 ar_n) <|
        gd (spB (0 : Int32) v2 241) <|
        bnd (va_cpy ar laws_c1 (0 : Int32).toNatClampNeg (0 : Int32).toNatClampNeg v2.toNatClampNeg) fun laws_c1_12 =>
        gd (inB laws_size 4) <|
        bnd (upd laws_lengths laws_size.toNatClampNeg v2) fun laws_lengths_14 =>
        bnd (laws_size + (1 : Int32)) fun size_15 =>
        some (size_15, laws_lengths_14, laws_c0, laws_c1_12, laws_c2, laws_c3)
      else
      if laws_size = (2 : Int32) then
        gd (spB (0 : Int32) v2 ar_n) <|
        gd (spB (0 : Int32) v2 241) <|
        bnd (va_cpy ar laws_c2 (0 : Int32).toNatClampNeg (0 : Int32).toNatClampNeg v2.toNatClampNeg) fun laws_c2_18 =>
        gd (inB laws_size 4) <|
        bnd (upd laws_lengths laws_size.toNatClampNeg v2) fun laws_lengths_20 =>
        bnd (laws_size + (1 : Int32)) fun size_21 =>
        some (size_21, laws_lengths_20, laws_c0, laws_c1, laws_c2_18, laws_c3)
      else
        gd (spB (0 : Int32) v2 ar_n) <|
        gd (spB (0 : Int32) v2 241) <|
        bnd (va_cpy ar laws_c3 (0 : Int32).toNatClampNeg (0 : Int32).toNatClampNeg v2.toNatClampNeg) fun laws_c3_24 =>
        gd (inB laws_size 4) <|
        bnd (upd laws_lengths laws_size.toNatClampNeg v2) fun laws_lengths_26 =>
        bnd (laws_size + (1 : Int32)) fun size_27 =>
        some (size_27, laws_lengths_26, laws_c0, laws_c1, laws_c2, laws_c3_24)
    else
      some (laws_size, laws_lengths, laws_c0, laws_c1, laws_c2, laws_c3)
  else
    some (laws_size, laws_lengths, laws_c0, laws_c1, laws_c2, laws_c3)
noncomputable def f_X2_add (ar : Nat → Int32) (ar_n : Nat) (laws_size : Int32) (laws_lengths : Nat → Int32) (laws_c0 : Nat → Int32) (laws_c1 : Nat → Int32) (laws_c2 : Nat → Int32) (laws_c3 : Nat → Int32) (p2 : Int32) : Option (Int32 × (Nat → Int32) × (Nat → Int32) × (Nat → Int32) × (Nat → Int32) × (Nat → Int32)) := b_X2_add_0 ar ar_n laws_size laws_lengths laws_c0 laws_c1 laws_c2 laws_c3 p2
noncomputable def b_X11_takeLaw_0 (lr_size : Int32) (lr_code : Nat → Int32) (tape_length : Int32) (laws_size : Int32) (laws_lengths : Nat → Int32) (laws_c0 : Nat → Int32) (laws_c1 : Nat → Int32) (laws_c2 : Nat → Int32) (laws_c3 : Nat → Int32) : Option (Int32 × Int32 × Int32 × (Nat → Int32) × (Nat → Int32) × (Nat → Int32) × (Nat → Int32) × (Nat → Int32)) :=
  ob6 (f_X2_add lr_code 241 laws_size laws_lengths laws_c0 laws_c1 laws_c2 laws_c3 lr_size) fun laws_size_1 laws_lengths_2 laws_c0_3 laws_c1_4 laws_c2_5 laws_c3_6 =>
  some ((laws_size_1 - (1 : Int32)), (0 : Int32), laws_size_1, laws_lengths_2, laws_c0_3, laws_c1_4, laws_c2_5, laws_c3_6)
noncomputable def f_X11_takeLaw (lr_size : Int32) (lr_code : Nat → Int32) (tape_length : Int32) (laws_size : Int32) (laws_lengths : Nat → Int32) (laws_c0 : Nat → Int32) (laws_c1 : Nat → Int32) (laws_c2 : Nat → Int32) (laws_c3 : Nat → Int32) : Option (Int32 × Int32 × Int32 × (Nat → Int32) × (Nat → Int32) × (Nat → Int32) × (Nat → Int32) × (Nat → Int32)) := b_X11_takeLaw_0 lr_size lr_code tape_length laws_size laws_lengths laws_c0 laws_c1 laws_c2 laws_c3
noncomputable def b_X11_text_19 (tape_bytes : Nat → Int32) (llT : Nat → Int32) (plT : Nat → Int32) (pmT : Nat → Int32) (puT : Nat → Int32) (x_imaged : Int32) (tape_length : Int32) (tape_at : Int32) (pr_ruled : Int32) (pr_values : Nat → Int32) (lr_size : Int32) (lr_code : Nat → Int32) (told_gloves : Int32) (told_matters : Int32) (told_pride : Int32) (told_coins : Int32) (told_house : Nat → Int32) (told_free : Nat → Int32) (told_stuffed : Nat → Int32) (told_after : Nat → Int32) (told_weight : Nat → Int32) (told_need : Nat → Int32) (read_gloves : Int32) (read_matters : Int32) (read_pride : Int32) (read_coins : Int32) (read_house : Nat → Int32) (read_free : Nat → Int32) (read_stuffed : Nat → Int32) (read_after : Nat → Int32) (read_weight : Nat → Int32) (read_need : Nat → Int32) (laws_size : Int32) (laws_lengths : Nat → Int32) (laws_c0 : Nat → Int32) (laws_c1 : Nat → Int32) (laws_c2 : Nat → Int32) (laws_c3 : Nat → Int32) (now_cells : Nat → Int32) (acts_size : Int32) (sg_size : Int32) (v1 : Int32) : Option (Int32 × Int32 × Int32 × Int32 × Int32 × (Nat → Int32) × Int32 × (Nat → Int32) × Int32 × Int32 × Int32 × Int32 × (Nat → Int32) × (Nat → Int32) × (Nat → Int32) × (Nat → Int32) × (Nat → Int32) × (Nat → Int32) × Int32 × Int32 × Int32 × Int32 × (Nat → Int32) × (Nat → Int32) × (Nat → Int32) × (Nat → Int32) × (Nat → Int32) × (Nat → Int32) × Int32 × (Nat → Int32) × (Nat → Int32) × (Nat → Int32) × (Nat → Int32) × (Nat → Int32) × (Nat → Int32) × Int32 × Int32) :=
  if v1 = (1 : Int32) then
    ob1 (f_X2_isFull laws_size) fun r_1 =>
    if r_1 = (0 : Int32) then
      ob4 (f_X1_readsAll tape_length tape_bytes llT tape_at lr_size lr_code) fun r_3 tape_at_4 lr_size_5 lr_code_6 =>
      if r_3 = (0 : Int32) then
        some ((-1 : Int32), x_imaged, tape_length, tape_at_4, pr_ruled, pr_values, lr_size_5, lr_code_6, told_gloves, told_matters, told_pride, told_coins, told_house, told_free, told_stuffed, told_after, told_weight, told_need, read_gloves, read_matters, read_pride, read_coins, read_house, read_free, read_stuffed, read_after, read_weight, read_need, laws_size, laws_lengths, laws_c0, laws_c1, laws_c2, laws_c3, now_cells, acts_size, sg_size)
      else
        ob8 (f_X11_takeLaw lr_size_5 lr_code_6 tape_length laws_size laws_lengths laws_c0 laws_c1 laws_c2 laws_c3) fun r_8 tape_length_9 laws_size_10 laws_lengths_11 laws_c0_12 laws_c1_13 laws_c2_14 laws_c3_15 =>
        some (r_8, x_imaged, tape_length_9, tape_at_4, pr_ruled, pr_values, lr_size_5, lr_code_6, told_gloves, told_matters, told_pride, told_coins, told_house, told_free, told_stuffed, told_after, told_weight, told_need, read_gloves, read_matters, read_pride, read_coins, read_house, read_free, read_stuffed, read_after, read_weight, read_need, laws_size_10, laws_lengths_11, laws_c0_12, laws_c1_13, laws_c2_14, laws_c3_15, now_cells, acts_size, sg_size)
    else
      some ((-1 : Int32), x_imaged, tape_length, tape_at, pr_ruled, pr_values, lr_size, lr_code, told_gloves, told_matters, told_pride, told_coins, told_house, told_free, told_stuffed, told_after, told_weight, told_need, read_gloves, read_matters, read_pride, read_coins, read_house, read_free, read_stuffed, read_after, read_weight, read_need, laws_size, laws_lengths, laws_c0, laws_c1, laws_c2, laws_c3, now_cells, acts_size, sg_size)
  else
    some ((-1 : Int32), x_imaged, tape_length, tape_at, pr_ruled, pr_values, lr_size, lr_code, told_gloves, told_matters, told_pride, told_coins, told_house, told_free, told_stuffed, told_after, told_weight, told_need, read_gloves, read_matters, read_pride, read_coins, read_house, read_free, read_stuffed, read_after, read_weight, read_need, laws_size, laws_lengths, laws_c0, laws_c1, laws_c2, laws_c3, now_cells, acts_size, sg_size)
noncomputable def b_X11_text_0 (tape_bytes : Nat → Int32) (llT : Nat → Int32) (plT : Nat → Int32) (pmT : Nat → Int32) (puT : Nat → Int32) (x_imaged : Int32) (tape_length : Int32) (tape_at : Int32) (pr_ruled : Int32) (pr_values : Nat → Int32) (lr_size : Int32) (lr_code : Nat → Int32) (told_gloves : Int32) (told_matters : Int32) (told_pride : Int32) (told_coins : Int32) (told_house : Nat → Int32) (told_free : Nat → Int32) (told_stuffed : Nat → Int32) (told_after : Nat → Int32) (told_weight : Nat → Int32) (told_need : Nat → Int32) (read_gloves : Int32) (read_matters : Int32) (read_pride : Int32) (read_coins : Int32) (read_house : Nat → Int32) (read_free : Nat → Int32) (read_stuffed : Nat → Int32) (read_after : Nat → Int32) (read_weight : Nat → Int32) (read_need : Nat → Int32) (laws_size : Int32) (laws_lengths : Nat → Int32) (laws_c0 : Nat → Int32) (laws_c1 : Nat → Int32) (laws_c2 : Nat → Int32) (laws_c3 : Nat → Int32) (now_cells : Nat → Int32) (acts_size : Int32) (sg_size : Int32) (v1 : Int32) : Option (Int32 × Int32 × Int32 × Int32 × Int32 × (Nat → Int32) × Int32 × (Nat → Int32) × Int32 × Int32 × Int32 × Int32 × (Nat → Int32) × (Nat → Int32) × (Nat → Int32) × (Nat → Int32) × (Nat → Int32) × (Nat → Int32) × Int32 × Int32 × Int32 × Int32 × (Nat → Int32) × (Nat → Int32) × (Nat → Int32) × (Nat → Int32) × (Nat → Int32) × (Nat → Int32) × Int32 × (Nat → Int32) × (Nat → Int32) × (Nat → Int32) × (Nat → Int32) × (Nat → Int32) × (Nat → Int32) × Int32 × Int32) :=
  if v1 = (0 : Int32) then
    ob14 (f_X6_readsAll tape_length tape_bytes plT pmT puT tape_at pr_ruled pr_values read_gloves read_matters read_pride read_coins read_house read_free read_stuffed read_after read_weight read_need) fun r_1 tape_at_2 pr_ruled_3 pr_values_4 read_gloves_5 read_matters_6 read_pride_7 read_coins_8 read_house_9 read_free_10 read_stuffed_11 read_after_12 read_weight_13 read_need_14 =>
    if r_1 = (0 : Int32) then
      b_X11_text_19 tape_bytes llT plT pmT puT x_imaged tape_length tape_at_2 pr_ruled_3 pr_values_4 lr_size lr_code told_gloves told_matters told_pride told_coins told_house told_free told_stuffed told_after told_weight told_need read_gloves_5 read_matters_6 read_pride_7 read_coins_8 read_house_9 read_free_10 read_stuffed_11 read_after_12 read_weight_13 read_need_14 laws_size laws_lengths laws_c0 laws_c1 laws_c2 laws_c3 now_cells acts_size sg_size v1
    else
      ob16 (f_X11_takePeace read_gloves_5 read_matters_6 read_pride_7 read_coins_8 read_house_9 read_free_10 read_stuffed_11 read_after_12 read_weight_13 read_need_14 x_imaged tape_length told_gloves told_matters told_pride told_coins told_house told_free told_stuffed told_after told_weight told_need now_cells acts_size sg_size) fun r_16 x_imaged_17 tape_length_18 told_gloves_19 told_matters_20 told_pride_21 told_coins_22 told_house_23 told_free_24 told_stuffed_25 told_after_26 told_weight_27 told_need_28 now_cells_29 acts_size_30 sg_size_31 =>
      some (r_16, x_imaged_17, tape_length_18, tape_at_2, pr_ruled_3, pr_values_4, lr_size, lr_code, told_gloves_19, told_matters_20, told_pride_21, told_coins_22, told_house_23, told_free_24, told_stuffed_25, told_after_26, told_weight_27, told_need_28, read_gloves_5, read_matters_6, read_pride_7, read_coins_8, read_house_9, read_free_10, read_stuffed_11, read_after_12, read_weight_13, read_need_14, laws_size, laws_lengths, laws_c0, laws_c1, laws_c2, laws_c3, now_cells_29, acts_size_30, sg_size_31)
  else
    b_X11_text_19 tape_bytes llT plT pmT puT x_imaged tape_length tape_at pr_ruled pr_values lr_size lr_code told_gloves told_matters told_pride told_coins told_house told_free told_stuffed told_after told_weight told_need read_gloves read_matters read_pride read_coins read_house read_free read_stuffed read_after read_weight read_need laws_size laws_lengths laws_c0 laws_c1 laws_c2 laws_c3 now_cells acts_size sg_size v1
noncomputable def f_X11_text (tape_bytes : Nat → Int32) (llT : Nat → Int32) (plT : Nat → Int32) (pmT : Nat → Int32) (puT : Nat → Int32) (x_imaged : Int32) (tape_length : Int32) (tape_at : Int32) (pr_ruled : Int32) (pr_values : Nat → Int32) (lr_size : Int32) (lr_code : Nat → Int32) (told_gloves : Int32) (told_matters : Int32) (told_pride : Int32) (told_coins : Int32) (told_house : Nat → Int32) (told_free : Nat → Int32) (told_stuffed : Nat → Int32) (told_after : Nat → Int32) (told_weight : Nat → Int32) (told_need : Nat → Int32) (read_gloves : Int32) (read_matters : Int32) (read_pride : Int32) (read_coins : Int32) (read_house : Nat → Int32) (read_free : Nat → Int32) (read_stuffed : Nat → Int32) (read_after : Nat → Int32) (read_weight : Nat → Int32) (read_need : Nat → Int32) (laws_size : Int32) (laws_lengths : Nat → Int32) (laws_c0 : Nat → Int32) (laws_c1 : Nat → Int32) (laws_c2 : Nat → Int32) (laws_c3 : Nat → Int32) (now_cells : Nat → Int32) (acts_size : Int32) (sg_size : Int32) (p1 : Int32) : Option (Int32 × Int32 × Int32 × Int32 × Int32 × (Nat → Int32) × Int32 × (Nat → Int32) × Int32 × Int32 × Int32 × Int32 × (Nat → Int32) × (Nat → Int32) × (Nat → Int32) × (Nat → Int32) × (Nat → Int32) × (Nat → Int32) × Int32 × Int32 × Int32 × Int32 × (Nat → Int32) × (Nat → Int32) × (Nat → Int32) × (Nat → Int32) × (Nat → Int32) × (Nat → Int32) × Int32 × (Nat → Int32) × (Nat → Int32) × (Nat → Int32) × (Nat → Int32) × (Nat → Int32) × (Nat → Int32) × Int32 × Int32) := b_X11_text_0 tape_bytes llT plT pmT puT x_imaged tape_length tape_at pr_ruled pr_values lr_size lr_code told_gloves told_matters told_pride told_coins told_house told_free told_stuffed told_after told_weight told_need read_gloves read_matters read_pride read_coins read_house read_free read_stuffed read_after read_weight read_need laws_size laws_lengths laws_c0 laws_c1 laws_c2 laws_c3 now_cells acts_size sg_size p1
noncomputable def b_X11_noPeace_0 (told_gloves : Int32) : Option (Int32) :=
  if told_gloves = (0 : Int32) then
    some (1 : Int32)
  else
    some (0 : Int32)
noncomputable def f_X11_noPeace (told_gloves : Int32) : Option (Int32) := b_X11_noPeace_0 told_gloves 
noncomputable def b_X9_pride_0 (S_cells : Nat → Int32) : Option (Int32) :=
  gd (inB (66 : Int32) 69) <|
  some (S_cells (66 : Int32).toNatClampNeg)
noncomputable def f_X9_pride (S_cells : Nat → Int32) : Option (Int32) := b_X9_pride_0 S_cells 
noncomputable def b_X9_coins_0 (S_cells : Nat → Int32) : Option (Int32) :=
  gd (inB (67 : Int32) 69) <|
  some (S_cells (67 : Int32).toNatClampNeg)
noncomputable def f_X9_coins (S_cells : Nat → Int32) : Option (Int32) := b_X9_coins_0 S_cells 
noncomputable def b_X11_rule_0 (told_gloves : Int32) (now_cells : Nat → Int32) (v1 : Int32) : Option (Int32) :=
  ob1 (f_X11_noPeace told_gloves) fun r_1 =>
  if r_1 = (0 : Int32) then
    if v1 < (0 : Int32) then
      some (-1 : Int32)
    else
      if v1 ≤ (1 : Int32) then
        if v1 = (0 : Int32) then
          ob1 (f_X9_pride now_cells) fun r_5 =>
          some r_5
        else
          ob1 (f_X9_coins now_cells) fun r_3 =>
          some r_3
      else
        some (-1 : Int32)
  else
    some (-1 : Int32)
noncomputable def f_X11_rule (told_gloves : Int32) (now_cells : Nat → Int32) (p1 : Int32) : Option (Int32) := b_X11_rule_0 told_gloves now_cells p1
noncomputable def b_X5_hasGlove_0 (P_gloves : Int32) (v1 : Int32) : Option (Int32) :=
  if v1 < (0 : Int32) then
    some (0 : Int32)
  else
    if P_gloves ≤ v1 then
      some (0 : Int32)
    else
      some (1 : Int32)
noncomputable def f_X5_hasGlove (P_gloves : Int32) (p1 : Int32) : Option (Int32) := b_X5_hasGlove_0 P_gloves p1
noncomputable def b_X9_free_0 (S_cells : Nat → Int32) (v1 : Int32) : Option (Int32) :=
  gd (inB ((36 : Int32) + v1) 69) <|
  some (S_cells ((36 : Int32) + v1).toNatClampNeg)
noncomputable def f_X9_free (S_cells : Nat → Int32) (p1 : Int32) : Option (Int32) := b_X9_free_0 S_cells p1
noncomputable def b_X9_stuffed_0 (S_cells : Nat → Int32) (v1 : Int32) : Option (Int32) :=
  gd (inB ((42 : Int32) + v1) 69) <|
  some (S_cells ((42 : Int32) + v1).toNatClampNeg)
noncomputable def f_X9_stuffed (S_cells : Nat → Int32) (p1 : Int32) : Option (Int32) := b_X9_stuffed_0 S_cells p1
noncomputable def b_X9_hasMet_0 (S_cells : Nat → Int32) (v1 : Int32) : Option (Int32) :=
  gd (inB ((54 : Int32) + v1) 69) <|
  if (S_cells ((54 : Int32) + v1).toNatClampNeg) = (-1 : Int32) then
    some (0 : Int32)
  else
    some (1 : Int32)
noncomputable def f_X9_hasMet (S_cells : Nat → Int32) (p1 : Int32) : Option (Int32) := b_X9_hasMet_0 S_cells p1
noncomputable def b_X9_knows_0 (S_cells : Nat → Int32) (v1 : Int32) : Option (Int32) :=
  gd (inB ((48 : Int32) + v1) 69) <|
  some (S_cells ((48 : Int32) + v1).toNatClampNeg)
noncomputable def f_X9_knows (S_cells : Nat → Int32) (p1 : Int32) : Option (Int32) := b_X9_knows_0 S_cells p1
noncomputable def b_X5_hasMatter_0 (P_matters : Int32) (v1 : Int32) : Option (Int32) :=
  if v1 < (0 : Int32) then
    some (0 : Int32)
  else
    if P_matters ≤ v1 then
      some (0 : Int32)
    else
      some (1 : Int32)
noncomputable def f_X5_hasMatter (P_matters : Int32) (p1 : Int32) : Option (Int32) := b_X5_hasMatter_0 P_matters p1
noncomputable def b_X9_signers_0 (S_cells : Nat → Int32) (v1 : Int32) : Option (Int32) :=
  gd (inB ((60 : Int32) + v1) 69) <|
  some (S_cells ((60 : Int32) + v1).toNatClampNeg)
noncomputable def f_X9_signers (S_cells : Nat → Int32) (p1 : Int32) : Option (Int32) := b_X9_signers_0 S_cells p1
noncomputable def b_X11_matter_0 (told_matters : Int32) (told_weight : Nat → Int32) (told_need : Nat → Int32) (now_cells : Nat → Int32) (v1 : Int32) (v2 : Int32) : Option (Int32) :=
  ob1 (f_X5_hasMatter told_matters v1) fun r_1 =>
  if r_1 = (0 : Int32) then
    some (-2 : Int32)
  else
    if v2 < (0 : Int32) then
      some (-2 : Int32)
    else
      if v2 ≤ (2 : Int32) then
        if v2 = (2 : Int32) then
          ob1 (f_X9_signers now_cells v1) fun r_5 =>
          some r_5
        else
          if v2 = (0 : Int32) then
            gd (inB v1 5) <|
            some (told_weight v1.toNatClampNeg)
          else
            gd (inB v1 5) <|
            some (told_need v1.toNatClampNeg)
      else
        some (-2 : Int32)
noncomputable def f_X11_matter (told_matters : Int32) (told_weight : Nat → Int32) (told_need : Nat → Int32) (now_cells : Nat → Int32) (p1 : Int32) (p2 : Int32) : Option (Int32) := b_X11_matter_0 told_matters told_weight told_need now_cells p1 p2
noncomputable def b_X5_unlike_0 (P_gloves : Int32) (P_house : Nat → Int32) (v1 : Int32) (v2 : Int32) : Option (Int32) :=
  ob1 (f_X5_hasGlove P_gloves v1) fun r_1 =>
  if r_1 = (0 : Int32) then
    some (0 : Int32)
  else
    ob1 (f_X5_hasGlove P_gloves v2) fun r_3 =>
    if r_3 = (0 : Int32) then
      some (0 : Int32)
    else
      gd (inB v1 6) <|
      gd (inB v2 6) <|
      if (P_house v1.toNatClampNeg) = (P_house v2.toNatClampNeg) then
        some (0 : Int32)
      else
        some (1 : Int32)
noncomputable def f_X5_unlike (P_gloves : Int32) (P_house : Nat → Int32) (p1 : Int32) (p2 : Int32) : Option (Int32) := b_X5_unlike_0 P_gloves P_house p1 p2
noncomputable def b_X9_placeOf_0 (v0 : Int32) (v1 : Int32) : Option (Int32) :=
  if v1 ≤ v0 then
    some ((v1 * (6 : Int32)) + v0)
  else
    some ((v0 * (6 : Int32)) + v1)
noncomputable def f_X9_placeOf (p1 : Int32) (p2 : Int32) : Option (Int32) := b_X9_placeOf_0  p1 p2
noncomputable def b_X9_warmthOf_0 (S_cells : Nat → Int32) (v1 : Int32) (v2 : Int32) : Option (Int32) :=
  ob1 (f_X9_placeOf v1 v2) fun r_1 =>
  gd (inB r_1 69) <|
  some (S_cells r_1.toNatClampNeg)
noncomputable def f_X9_warmthOf (S_cells : Nat → Int32) (p1 : Int32) (p2 : Int32) : Option (Int32) := b_X9_warmthOf_0 S_cells p1 p2
noncomputable def b_X11_warmth_0 (told_gloves : Int32) (told_house : Nat → Int32) (now_cells : Nat → Int32) (v1 : Int32) (v2 : Int32) : Option (Int32) :=
  ob1 (f_X5_unlike told_gloves told_house v1 v2) fun r_1 =>
  if r_1 = (0 : Int32) then
    some (-1 : Int32)
  else
    ob1 (f_X9_warmthOf now_cells v1 v2) fun r_3 =>
    some r_3
noncomputable def f_X11_warmth (told_gloves : Int32) (told_house : Nat → Int32) (now_cells : Nat → Int32) (p1 : Int32) (p2 : Int32) : Option (Int32) := b_X11_warmth_0 told_gloves told_house now_cells p1 p2
noncomputable def b_X11_law_0 (laws_size : Int32) (laws_holds : Int32) (v1 : Int32) : Option (Int32 × Int32) :=
  if v1 < (-1 : Int32) then
    some ((0 : Int32), laws_holds)
  else
    if v1 < laws_size then
      some ((1 : Int32), v1)
    else
      some ((0 : Int32), laws_holds)
noncomputable def f_X11_law (laws_size : Int32) (laws_holds : Int32) (p1 : Int32) : Option (Int32 × Int32) := b_X11_law_0 laws_size laws_holds p1
noncomputable def b_X11_refuse_0 (x_refused : Nat → Int32) (v1 : Int32) : Option (Int32 × (Nat → Int32)) :=
  gd (inB v1 5) <|
  gd (inB v1 5) <|
  bnd (upd x_refused v1.toNatClampNeg ((x_refused v1.toNatClampNeg) + (1 : Int32))) fun x_refused_3 =>
  some ((-1 : Int32), x_refused_3)
noncomputable def f_X11_refuse (x_refused : Nat → Int32) (p1 : Int32) : Option (Int32 × (Nat → Int32)) := b_X11_refuse_0  x_refused p1
noncomputable def b_X0_keep_0 (S_cells : Nat → Int32) (acts_size : Int32) (acts_next : Int32) (acts_rows : Nat → Int32) : Option (Int32 × Int32 × (Nat → Int32)) :=
  gd (spB (0 : Int32) (69 : Int32) 69) <|
  gd (spB (acts_next * (69 : Int32)) (69 : Int32) 2760) <|
  bnd (va_cpy S_cells acts_rows (0 : Int32).toNatClampNeg (acts_next * (69 : Int32)).toNatClampNeg (69 : Int32).toNatClampNeg) fun acts_rows_3 =>
  bnd (rem (acts_next + (1 : Int32)) (40 : Int32)) fun n_4 =>
  bnd (mn (40 : Int32) (acts_size + (1 : Int32))) fun n_5 =>
  some (n_5, n_4, acts_rows_3)
noncomputable def f_X0_keep (S_cells : Nat → Int32) (acts_size : Int32) (acts_next : Int32) (acts_rows : Nat → Int32) : Option (Int32 × Int32 × (Nat → Int32)) := b_X0_keep_0 S_cells acts_size acts_next acts_rows
noncomputable def b_X9_pay_0 (S_cells : Nat → Int32) (v1 : Int32) : Option ((Nat → Int32)) :=
  gd (inB (67 : Int32) 69) <|
  gd (inB (67 : Int32) 69) <|
  bnd (upd S_cells (67 : Int32).toNatClampNeg ((S_cells (67 : Int32).toNatClampNeg) - v1)) fun S_cells_3 =>
  some S_cells_3
noncomputable def f_X9_pay (S_cells : Nat → Int32) (p1 : Int32) : Option ((Nat → Int32)) := b_X9_pay_0  S_cells p1
noncomputable def b_X9_day_0 (S_cells : Nat → Int32) : Option (Int32) :=
  gd (inB (68 : Int32) 69) <|
  some (S_cells (68 : Int32).toNatClampNeg)
noncomputable def f_X9_day (S_cells : Nat → Int32) : Option (Int32) := b_X9_day_0 S_cells 
noncomputable def b_X5_sameAim_0 (P_after : Nat → Int32) (v1 : Int32) (v2 : Int32) : Option (Int32) :=
  gd (inB v1 6) <|
  gd (inB v2 6) <|
  if (P_after v1.toNatClampNeg) = (P_after v2.toNatClampNeg) then
    some (1 : Int32)
  else
    some (0 : Int32)
noncomputable def f_X5_sameAim (P_after : Nat → Int32) (p1 : Int32) (p2 : Int32) : Option (Int32) := b_X5_sameAim_0 P_after p1 p2
noncomputable def b_X2_endOfClause_2 (ar : Nat → Int32) (ar_n : Nat) (k2 : Int32 → Int32 → Option (Int32)) (v1 : Int32) (v3 : Int32) : Option (Int32) :=
  if v1 ≤ v3 then
    some v1
  else
    gd (inB v3 ar_n) <|
    if (ar v3.toNatClampNeg) = (-13 : Int32) then
      some v3
    else
      bnd (v3 + (1 : Int32)) fun v3_2 =>
      k2 v1 v3_2
noncomputable def f_X2_endOfClause_2 (ar : Nat → Int32) (ar_n : Nat) : Nat → Int32 → Int32 → Option (Int32)
  | 0, _, _ => none
  | n + 1, v1, v3 => b_X2_endOfClause_2 ar ar_n (f_X2_endOfClause_2 ar ar_n n) v1 v3
noncomputable def b_X2_endOfClause_0 (ar : Nat → Int32) (ar_n : Nat) (v1 : Int32) (v2 : Int32) : Option (Int32) :=
  f_X2_endOfClause_2 ar ar_n fu v1 v2
noncomputable def f_X2_endOfClause (ar : Nat → Int32) (ar_n : Nat) (p2 : Int32) (p3 : Int32) : Option (Int32) := b_X2_endOfClause_0 ar ar_n p2 p3
noncomputable def b_X2_combine_162 (v5 : Int64) : Option (Int32) :=
  if (lg_cmp v5 (1000000 : Int64)) ≤ (0 : Int32) then
    if (0 : Int32) ≤ (lg_cmp v5 (-1000000 : Int64)) then
      some (v5.toInt32)
    else
      some (-1000000 : Int32)
  else
    some (1000000 : Int32)
noncomputable def b_X2_combine_85 (t0 : Int64) : Option (Int32) :=
  b_X2_combine_162 t0
noncomputable def b_X2_combine_156  : Option (Int32) :=
  some (1 : Int32)
noncomputable def b_X2_combine_0 (v0 : Int32) (v1 : Int64) (v3 : Int64) : Option (Int32) :=
  if v0 = (-9 : Int32) then
    if (lg_cmp v1 (0 : Int64)) = (0 : Int32) then
      some (0 : Int32)
    else
      if (lg_cmp v3 (0 : Int64)) = (0 : Int32) then
        some (0 : Int32)
      else
        some (1 : Int32)
  else
  if v0 = (-8 : Int32) then
    if (lg_cmp v1 v3) ≤ (0 : Int32) then
      some (0 : Int32)
    else
      some (1 : Int32)
  else
  if v0 = (-7 : Int32) then
    if (0 : Int32) ≤ (lg_cmp v1 v3) then
      some (0 : Int32)
    else
      some (1 : Int32)
  else
  if v0 = (-6 : Int32) then
    if (lg_cmp v1 v3) = (0 : Int32) then
      some (1 : Int32)
    else
      some (0 : Int32)
  else
  if v0 = (-5 : Int32) then
    if (lg_cmp v3 (0 : Int64)) = (0 : Int32) then
      b_X2_combine_85 (0 : Int64)
    else
      gd (nzL v3) <|
      b_X2_combine_85 (v1 / v3)
  else
  if v0 = (-4 : Int32) then
    bnd (v1 * v3) fun v5_2 =>
    b_X2_combine_162 v5_2
  else
  if v0 = (-3 : Int32) then
    bnd (v1 - v3) fun v5_3 =>
    b_X2_combine_162 v5_3
  else
  if v0 = (-2 : Int32) then
    bnd (v1 + v3) fun v5_4 =>
    b_X2_combine_162 v5_4
  else
  if (lg_cmp v1 (0 : Int64)) = (0 : Int32) then
    if (lg_cmp v3 (0 : Int64)) = (0 : Int32) then
      some (0 : Int32)
    else
      b_X2_combine_156 
  else
    b_X2_combine_156 
noncomputable def f_X2_combine (p1 : Int32) (p2 : Int64) (p3 : Int64) : Option (Int32) := b_X2_combine_0  p1 p2 p3
noncomputable def b_X2_worth_173 (laws_letters : Nat → Int32) (ar : Nat → Int32) (ar_n : Nat) (k5 : (Nat → Int32) → Int32 → Int32 → Int32 → Option (Int32 × (Nat → Int32))) (laws_stack : Nat → Int32) (v2 : Int32) (v3 : Int32) (v4 : Int32) : Option (Int32 × (Nat → Int32)) :=
  bnd (v4 + (1 : Int32)) fun v4_1 =>
  k5 laws_stack v2 v3 v4_1
noncomputable def b_X2_worth_61 (laws_letters : Nat → Int32) (ar : Nat → Int32) (ar_n : Nat) (k5 : (Nat → Int32) → Int32 → Int32 → Int32 → Option (Int32 × (Nat → Int32))) (laws_stack : Nat → Int32) (v2 : Int32) (v3 : Int32) (t0 : Int32) : Option (Int32 × (Nat → Int32)) :=
  b_X2_worth_173 laws_letters ar ar_n k5 laws_stack v2 v3 t0
noncomputable def b_X2_worth_106 (laws_letters : Nat → Int32) (ar : Nat → Int32) (ar_n : Nat) (k5 : (Nat → Int32) → Int32 → Int32 → Int32 → Option (Int32 × (Nat → Int32))) (laws_stack : Nat → Int32) (v2 : Int32) (v3 : Int32) (v4 : Int32) (t1 : Int32) (t2 : Int32) : Option (Int32 × (Nat → Int32)) :=
  gd (inB t1 241) <|
  bnd (upd laws_stack t1.toNatClampNeg t2) fun laws_stack_2 =>
  b_X2_worth_173 laws_letters ar ar_n k5 laws_stack_2 v2 v3 v4
noncomputable def b_X2_worth_78 (laws_letters : Nat → Int32) (ar : Nat → Int32) (ar_n : Nat) (k5 : (Nat → Int32) → Int32 → Int32 → Int32 → Option (Int32 × (Nat → Int32))) (laws_stack : Nat → Int32) (v2 : Int32) (v3 : Int32) (v4 : Int32) (v5 : Int32) : Option (Int32 × (Nat → Int32)) :=
  bnd (v3 + (1 : Int32)) fun v3_1 =>
  if v5 < (0 : Int32) then
    gd (inB ((-14 : Int32) - v5) 6) <|
    b_X2_worth_106 laws_letters ar ar_n k5 laws_stack v2 v3_1 v4 v3_1 (laws_letters ((-14 : Int32) - v5).toNatClampNeg)
  else
    b_X2_worth_106 laws_letters ar ar_n k5 laws_stack v2 v3_1 v4 v3_1 v5
noncomputable def b_X2_worth_138 (laws_letters : Nat → Int32) (ar : Nat → Int32) (ar_n : Nat) (k5 : (Nat → Int32) → Int32 → Int32 → Int32 → Option (Int32 × (Nat → Int32))) (laws_stack : Nat → Int32) (v2 : Int32) (v3 : Int32) (v4 : Int32) (v5 : Int32) : Option (Int32 × (Nat → Int32)) :=
  if v3 < (1 : Int32) then
    b_X2_worth_173 laws_letters ar ar_n k5 laws_stack v2 v3 v4
  else
    bnd (v3 + (-1 : Int32)) fun v3_1 =>
    gd (inB v3_1 241) <|
    gd (inB (v3_1 + (1 : Int32)) 241) <|
    ob1 (f_X2_combine v5 ((laws_stack v3_1.toNatClampNeg).toInt64) ((laws_stack (v3_1 + (1 : Int32)).toNatClampNeg).toInt64)) fun r_4 =>
    gd (inB v3_1 241) <|
    bnd (upd laws_stack v3_1.toNatClampNeg r_4) fun laws_stack_7 =>
    b_X2_worth_173 laws_letters ar ar_n k5 laws_stack_7 v2 v3_1 v4
noncomputable def b_X2_worth_5 (laws_letters : Nat → Int32) (ar : Nat → Int32) (ar_n : Nat) (k5 : (Nat → Int32) → Int32 → Int32 → Int32 → Option (Int32 × (Nat → Int32))) (laws_stack : Nat → Int32) (v2 : Int32) (v3 : Int32) (v4 : Int32) : Option (Int32 × (Nat → Int32)) :=
  if v2 ≤ v4 then
    some ((0 : Int32), laws_stack)
  else
    gd (inB v4 ar_n) <|
    bnd (ar v4.toNatClampNeg) fun v5_2 =>
    if v5_2 = (-13 : Int32) then
      gd (inB (0 : Int32) 241) <|
      some ((laws_stack (0 : Int32).toNatClampNeg), laws_stack)
    else
      if v5_2 = (-12 : Int32) then
        gd (inB (0 : Int32) 241) <|
        if (laws_stack (0 : Int32).toNatClampNeg) = (0 : Int32) then
          ob1 (f_X2_endOfClause ar ar_n v2 v4) fun r_7 =>
          b_X2_worth_61 laws_letters ar ar_n k5 laws_stack v2 (-1 : Int32) r_7
        else
          b_X2_worth_61 laws_letters ar ar_n k5 laws_stack v2 (-1 : Int32) v4
      else
        if (0 : Int32) ≤ v5_2 then
          b_X2_worth_78 laws_letters ar ar_n k5 laws_stack v2 v3 v4 v5_2
        else
          if (-14 : Int32) < v5_2 then
            if v5_2 = (-11 : Int32) then
              if v3 < (0 : Int32) then
                b_X2_worth_138 laws_letters ar ar_n k5 laws_stack v2 v3 v4 v5_2
              else
                gd (inB v3 241) <|
                gd (inB v3 241) <|
                bnd (upd laws_stack v3.toNatClampNeg ((1 : Int32) - (laws_stack v3.toNatClampNeg))) fun laws_stack_5 =>
                b_X2_worth_173 laws_letters ar ar_n k5 laws_stack_5 v2 v3 v4
            else
              b_X2_worth_138 laws_letters ar ar_n k5 laws_stack v2 v3 v4 v5_2
          else
            b_X2_worth_78 laws_letters ar ar_n k5 laws_stack v2 v3 v4 v5_2
noncomputable def f_X2_worth_5 (laws_letters : Nat → Int32) (ar : Nat → Int32) (ar_n : Nat) : Nat → (Nat → Int32) → Int32 → Int32 → Int32 → Option (Int32 × (Nat → Int32))
  | 0, _, _, _, _ => none
  | n + 1, laws_stack, v2, v3, v4 => b_X2_worth_5 laws_letters ar ar_n (f_X2_worth_5 laws_letters ar ar_n n) laws_stack v2 v3 v4
noncomputable def b_X2_worth_0 (laws_letters : Nat → Int32) (ar : Nat → Int32) (ar_n : Nat) (laws_stack : Nat → Int32) (v2 : Int32) : Option (Int32 × (Nat → Int32)) :=
  f_X2_worth_5 laws_letters ar ar_n fu laws_stack v2 (-1 : Int32) (0 : Int32)
noncomputable def f_X2_worth (laws_letters : Nat → Int32) (ar : Nat → Int32) (ar_n : Nat) (laws_stack : Nat → Int32) (p2 : Int32) : Option (Int32 × (Nat → Int32)) := b_X2_worth_0 laws_letters ar ar_n laws_stack p2
noncomputable def b_X2_riseBy_99 (laws_holds : Int32) (laws_lengths : Nat → Int32) (laws_c0 : Nat → Int32) (laws_c1 : Nat → Int32) (laws_c2 : Nat → Int32) (laws_c3 : Nat → Int32) (laws_letters : Nat → Int32) (laws_stack : Nat → Int32) (v7 : Int32) : Option (Int32 × (Nat → Int32) × (Nat → Int32)) :=
  bnd (mn (9 : Int32) v7) fun n_1 =>
  bnd (mx (-9 : Int32) n_1) fun n_2 =>
  some (n_2, laws_letters, laws_stack)
noncomputable def b_X2_riseBy_0 (laws_holds : Int32) (laws_lengths : Nat → Int32) (laws_c0 : Nat → Int32) (laws_c1 : Nat → Int32) (laws_c2 : Nat → Int32) (laws_c3 : Nat → Int32) (laws_letters : Nat → Int32) (laws_stack : Nat → Int32) (v1 : Int32) (v2 : Int32) (v3 : Int32) (v4 : Int32) (v5 : Int32) (v6 : Int32) : Option (Int32 × (Nat → Int32) × (Nat → Int32)) :=
  if laws_holds = (-1 : Int32) then
    bnd (((v1 / (2 : Int32)) + ((2 : Int32) * v4)) - (v5 / (3 : Int32))) fun n_30 =>
    bnd (n_30 - (v2 / (4 : Int32))) fun v7_31 =>
    b_X2_riseBy_99 laws_holds laws_lengths laws_c0 laws_c1 laws_c2 laws_c3 laws_letters laws_stack v7_31
  else
    gd (inB (0 : Int32) 6) <|
    bnd (upd laws_letters (0 : Int32).toNatClampNeg v1) fun laws_letters_2 =>
    gd (inB (1 : Int32) 6) <|
    bnd (upd laws_letters_2 (1 : Int32).toNatClampNeg v2) fun laws_letters_4 =>
    gd (inB (2 : Int32) 6) <|
    bnd (upd laws_letters_4 (2 : Int32).toNatClampNeg v3) fun laws_letters_6 =>
    gd (inB (3 : Int32) 6) <|
    bnd (upd laws_letters_6 (3 : Int32).toNatClampNeg v4) fun laws_letters_8 =>
    gd (inB (4 : Int32) 6) <|
    bnd (upd laws_letters_8 (4 : Int32).toNatClampNeg v5) fun laws_letters_10 =>
    gd (inB (5 : Int32) 6) <|
    bnd (upd laws_letters_10 (5 : Int32).toNatClampNeg v6) fun laws_letters_12 =>
    gd (inB laws_holds 4) <|
    if laws_holds = (0 : Int32) then
      gd (inB laws_holds 4) <|
      ob2 (f_X2_worth laws_letters_12 laws_c0 241 laws_stack (laws_lengths laws_holds.toNatClampNeg)) fun r_15 laws_stack_16 =>
      b_X2_riseBy_99 laws_holds laws_lengths laws_c0 laws_c1 laws_c2 laws_c3 laws_letters_12 laws_stack_16 r_15
    else
    if laws_holds = (1 : Int32) then
      gd (inB laws_holds 4) <|
      ob2 (f_X2_worth laws_letters_12 laws_c1 241 laws_stack (laws_lengths laws_holds.toNatClampNeg)) fun r_19 laws_stack_20 =>
      b_X2_riseBy_99 laws_holds laws_lengths laws_c0 laws_c1 laws_c2 laws_c3 laws_letters_12 laws_stack_20 r_19
    else
    if laws_holds = (2 : Int32) then
      gd (inB laws_holds 4) <|
      ob2 (f_X2_worth laws_letters_12 laws_c2 241 laws_stack (laws_lengths laws_holds.toNatClampNeg)) fun r_23 laws_stack_24 =>
      b_X2_riseBy_99 laws_holds laws_lengths laws_c0 laws_c1 laws_c2 laws_c3 laws_letters_12 laws_stack_24 r_23
    else
      gd (inB laws_holds 4) <|
      ob2 (f_X2_worth laws_letters_12 laws_c3 241 laws_stack (laws_lengths laws_holds.toNatClampNeg)) fun r_27 laws_stack_28 =>
      b_X2_riseBy_99 laws_holds laws_lengths laws_c0 laws_c1 laws_c2 laws_c3 laws_letters_12 laws_stack_28 r_27
noncomputable def f_X2_riseBy (laws_holds : Int32) (laws_lengths : Nat → Int32) (laws_c0 : Nat → Int32) (laws_c1 : Nat → Int32) (laws_c2 : Nat → Int32) (laws_c3 : Nat → Int32) (laws_letters : Nat → Int32) (laws_stack : Nat → Int32) (p1 : Int32) (p2 : Int32) (p3 : Int32) (p4 : Int32) (p5 : Int32) (p6 : Int32) : Option (Int32 × (Nat → Int32) × (Nat → Int32)) := b_X2_riseBy_0 laws_holds laws_lengths laws_c0 laws_c1 laws_c2 laws_c3 laws_letters laws_stack p1 p2 p3 p4 p5 p6
noncomputable def b_X9_riseAt_0 (told_after : Nat → Int32) (laws_holds : Int32) (laws_lengths : Nat → Int32) (laws_c0 : Nat → Int32) (laws_c1 : Nat → Int32) (laws_c2 : Nat → Int32) (laws_c3 : Nat → Int32) (S_cells : Nat → Int32) (laws_letters : Nat → Int32) (laws_stack : Nat → Int32) (v1 : Int32) (v2 : Int32) (v3 : Int32) (v4 : Int32) : Option (Int32 × (Nat → Int32) × (Nat → Int32)) :=
  ob1 (f_X9_free S_cells v1) fun r_1 =>
  ob1 (f_X9_free S_cells v2) fun r_3 =>
  ob1 (f_X9_stuffed S_cells v1) fun r_5 =>
  ob1 (f_X9_stuffed S_cells v2) fun r_7 =>
  ob1 (f_X5_sameAim told_after v1 v2) fun r_9 =>
  ob1 (f_X9_pride S_cells) fun r_11 =>
  ob3 (f_X2_riseBy laws_holds laws_lengths laws_c0 laws_c1 laws_c2 laws_c3 laws_letters laws_stack (r_1 + r_3) (r_5 + r_7) v3 r_9 r_11 v4) fun r_13 laws_letters_14 laws_stack_15 =>
  some (r_13, laws_letters_14, laws_stack_15)
noncomputable def f_X9_riseAt (told_after : Nat → Int32) (laws_holds : Int32) (laws_lengths : Nat → Int32) (laws_c0 : Nat → Int32) (laws_c1 : Nat → Int32) (laws_c2 : Nat → Int32) (laws_c3 : Nat → Int32) (S_cells : Nat → Int32) (laws_letters : Nat → Int32) (laws_stack : Nat → Int32) (p1 : Int32) (p2 : Int32) (p3 : Int32) (p4 : Int32) : Option (Int32 × (Nat → Int32) × (Nat → Int32)) := b_X9_riseAt_0 told_after laws_holds laws_lengths laws_c0 laws_c1 laws_c2 laws_c3 S_cells laws_letters laws_stack p1 p2 p3 p4
noncomputable def b_X9_warmer_0 (told_after : Nat → Int32) (laws_holds : Int32) (laws_lengths : Nat → Int32) (laws_c0 : Nat → Int32) (laws_c1 : Nat → Int32) (laws_c2 : Nat → Int32) (laws_c3 : Nat → Int32) (S_cells : Nat → Int32) (laws_letters : Nat → Int32) (laws_stack : Nat → Int32) (v1 : Int32) (v2 : Int32) (v3 : Int32) (v4 : Int32) : Option (Int32 × (Nat → Int32) × (Nat → Int32)) :=
  ob1 (f_X9_day S_cells) fun r_1 =>
  bnd (mn (999 : Int32) (r_1 + v4)) fun n_3 =>
  ob3 (f_X9_riseAt told_after laws_holds laws_lengths laws_c0 laws_c1 laws_c2 laws_c3 S_cells laws_letters laws_stack v1 v2 v3 n_3) fun r_4 laws_letters_5 laws_stack_6 =>
  bnd (mn (99 : Int32) (v3 + r_4)) fun n_8 =>
  bnd (mx (0 : Int32) n_8) fun n_9 =>
  some (n_9, laws_letters_5, laws_stack_6)
noncomputable def f_X9_warmer (told_after : Nat → Int32) (laws_holds : Int32) (laws_lengths : Nat → Int32) (laws_c0 : Nat → Int32) (laws_c1 : Nat → Int32) (laws_c2 : Nat → Int32) (laws_c3 : Nat → Int32) (S_cells : Nat → Int32) (laws_letters : Nat → Int32) (laws_stack : Nat → Int32) (p1 : Int32) (p2 : Int32) (p3 : Int32) (p4 : Int32) : Option (Int32 × (Nat → Int32) × (Nat → Int32)) := b_X9_warmer_0 told_after laws_holds laws_lengths laws_c0 laws_c1 laws_c2 laws_c3 S_cells laws_letters laws_stack p1 p2 p3 p4
noncomputable def b_X9_signLowest_77 (told_matters : Int32) (told_need : Nat → Int32) (k2 : (Nat → Int32) → Int32 → Int32 → Int32 → Option ((Nat → Int32))) (S_cells : Nat → Int32) (v1 : Int32) (v2 : Int32) (v3 : Int32) : Option ((Nat → Int32)) :=
  bnd (v3 + (1 : Int32)) fun v3_1 =>
  k2 S_cells v1 v2 v3_1
noncomputable def b_X9_signLowest_2 (told_matters : Int32) (told_need : Nat → Int32) (k2 : (Nat → Int32) → Int32 → Int32 → Int32 → Option ((Nat → Int32))) (S_cells : Nat → Int32) (v1 : Int32) (v2 : Int32) (v3 : Int32) : Option ((Nat → Int32)) :=
  if told_matters ≤ v3 then
    some S_cells
  else
    ob1 (f_X9_signers S_cells v3) fun r_1 =>
    if r_1 = (-1 : Int32) then
      ob1 (f_X9_warmthOf S_cells v1 v2) fun r_3 =>
      gd (inB v3 5) <|
      if r_3 < (told_need v3.toNatClampNeg) then
        b_X9_signLowest_77 told_matters told_need k2 S_cells v1 v2 v3
      else
        bnd (mn v1 v2) fun n_6 =>
        bnd (mx v1 v2) fun n_7 =>
        gd (inB ((60 : Int32) + v3) 69) <|
        bnd (upd S_cells ((60 : Int32) + v3).toNatClampNeg (((10 : Int32) * n_6) + n_7)) fun S_cells_9 =>
        gd (inB (65 : Int32) 69) <|
        bnd ((S_cells_9 (65 : Int32).toNatClampNeg) ||| ((1 : Int32) <<< (v3 &&& (31 : Int32)))) fun n_11 =>
        gd (inB (65 : Int32) 69) <|
        bnd (upd S_cells_9 (65 : Int32).toNatClampNeg n_11) fun S_cells_13 =>
        some S_cells_13
    else
      b_X9_signLowest_77 told_matters told_need k2 S_cells v1 v2 v3
noncomputable def f_X9_signLowest_2 (told_matters : Int32) (told_need : Nat → Int32) : Nat → (Nat → Int32) → Int32 → Int32 → Int32 → Option ((Nat → Int32))
  | 0, _, _, _, _ => none
  | n + 1, S_cells, v1, v2, v3 => b_X9_signLowest_2 told_matters told_need (f_X9_signLowest_2 told_matters told_need n) S_cells v1 v2 v3
noncomputable def b_X9_signLowest_0 (told_matters : Int32) (told_need : Nat → Int32) (S_cells : Nat → Int32) (v1 : Int32) (v2 : Int32) : Option ((Nat → Int32)) :=
  f_X9_signLowest_2 told_matters told_need fu S_cells v1 v2 (0 : Int32)
noncomputable def f_X9_signLowest (told_matters : Int32) (told_need : Nat → Int32) (S_cells : Nat → Int32) (p1 : Int32) (p2 : Int32) : Option ((Nat → Int32)) := b_X9_signLowest_0 told_matters told_need S_cells p1 p2
noncomputable def b_X9_meet_0 (told_matters : Int32) (told_after : Nat → Int32) (told_need : Nat → Int32) (laws_holds : Int32) (laws_lengths : Nat → Int32) (laws_c0 : Nat → Int32) (laws_c1 : Nat → Int32) (laws_c2 : Nat → Int32) (laws_c3 : Nat → Int32) (laws_letters : Nat → Int32) (laws_stack : Nat → Int32) (S_cells : Nat → Int32) (v1 : Int32) (v2 : Int32) : Option ((Nat → Int32) × (Nat → Int32) × (Nat → Int32)) :=
  ob1 (f_X9_placeOf v1 v2) fun r_1 =>
  ob1 (f_X9_warmthOf S_cells v1 v2) fun r_3 =>
  ob3 (f_X9_warmer told_after laws_holds laws_lengths laws_c0 laws_c1 laws_c2 laws_c3 S_cells laws_letters laws_stack v1 v2 r_3 (0 : Int32)) fun r_5 laws_letters_6 laws_stack_7 =>
  gd (inB r_1 69) <|
  bnd (upd S_cells r_1.toNatClampNeg r_5) fun S_cells_10 =>
  ob1 (f_X9_knows S_cells_10 v1) fun r_11 =>
  ob1 (f_X9_knows S_cells_10 v2) fun r_13 =>
  bnd (r_11 ||| r_13) fun v3_15 =>
  gd (inB ((48 : Int32) + v1) 69) <|
  bnd (upd S_cells_10 ((48 : Int32) + v1).toNatClampNeg v3_15) fun S_cells_17 =>
  gd (inB ((48 : Int32) + v2) 69) <|
  bnd (upd S_cells_17 ((48 : Int32) + v2).toNatClampNeg v3_15) fun S_cells_19 =>
  gd (inB ((54 : Int32) + v1) 69) <|
  bnd (upd S_cells_19 ((54 : Int32) + v1).toNatClampNeg v2) fun S_cells_21 =>
  gd (inB ((54 : Int32) + v2) 69) <|
  bnd (upd S_cells_21 ((54 : Int32) + v2).toNatClampNeg v1) fun S_cells_23 =>
  ob1 (f_X9_signLowest told_matters told_need S_cells_23 v1 v2) fun S_cells_24 =>
  some (laws_letters_6, laws_stack_7, S_cells_24)
noncomputable def f_X9_meet (told_matters : Int32) (told_after : Nat → Int32) (told_need : Nat → Int32) (laws_holds : Int32) (laws_lengths : Nat → Int32) (laws_c0 : Nat → Int32) (laws_c1 : Nat → Int32) (laws_c2 : Nat → Int32) (laws_c3 : Nat → Int32) (laws_letters : Nat → Int32) (laws_stack : Nat → Int32) (S_cells : Nat → Int32) (p1 : Int32) (p2 : Int32) : Option ((Nat → Int32) × (Nat → Int32) × (Nat → Int32)) := b_X9_meet_0 told_matters told_after told_need laws_holds laws_lengths laws_c0 laws_c1 laws_c2 laws_c3 laws_letters laws_stack S_cells p1 p2
noncomputable def b_X11_meets_22 (told_gloves : Int32) (told_matters : Int32) (told_house : Nat → Int32) (told_after : Nat → Int32) (told_need : Nat → Int32) (laws_holds : Int32) (laws_lengths : Nat → Int32) (laws_c0 : Nat → Int32) (laws_c1 : Nat → Int32) (laws_c2 : Nat → Int32) (laws_c3 : Nat → Int32) (x_refused : Nat → Int32) (laws_letters : Nat → Int32) (laws_stack : Nat → Int32) (now_cells : Nat → Int32) (acts_size : Int32) (acts_next : Int32) (acts_rows : Nat → Int32) : Option (Int32 × (Nat → Int32) × (Nat → Int32) × (Nat → Int32) × (Nat → Int32) × Int32 × Int32 × (Nat → Int32)) :=
  ob2 (f_X11_refuse x_refused (0 : Int32)) fun r_1 x_refused_2 =>
  some (r_1, x_refused_2, laws_letters, laws_stack, now_cells, acts_size, acts_next, acts_rows)
noncomputable def b_X11_meets_68 (told_gloves : Int32) (told_matters : Int32) (told_house : Nat → Int32) (told_after : Nat → Int32) (told_need : Nat → Int32) (laws_holds : Int32) (laws_lengths : Nat → Int32) (laws_c0 : Nat → Int32) (laws_c1 : Nat → Int32) (laws_c2 : Nat → Int32) (laws_c3 : Nat → Int32) (x_refused : Nat → Int32) (laws_letters : Nat → Int32) (laws_stack : Nat → Int32) (now_cells : Nat → Int32) (acts_size : Int32) (acts_next : Int32) (acts_rows : Nat → Int32) : Option (Int32 × (Nat → Int32) × (Nat → Int32) × (Nat → Int32) × (Nat → Int32) × Int32 × Int32 × (Nat → Int32)) :=
  ob2 (f_X11_refuse x_refused (2 : Int32)) fun r_1 x_refused_2 =>
  some (r_1, x_refused_2, laws_letters, laws_stack, now_cells, acts_size, acts_next, acts_rows)
noncomputable def b_X11_meets_0 (told_gloves : Int32) (told_matters : Int32) (told_house : Nat → Int32) (told_after : Nat → Int32) (told_need : Nat → Int32) (laws_holds : Int32) (laws_lengths : Nat → Int32) (laws_c0 : Nat → Int32) (laws_c1 : Nat → Int32) (laws_c2 : Nat → Int32) (laws_c3 : Nat → Int32) (x_refused : Nat → Int32) (laws_letters : Nat → Int32) (laws_stack : Nat → Int32) (now_cells : Nat → Int32) (acts_size : Int32) (acts_next : Int32) (acts_rows : Nat → Int32) (v1 : Int32) (v2 : Int32) : Option (Int32 × (Nat → Int32) × (Nat → Int32) × (Nat → Int32) × (Nat → Int32) × Int32 × Int32 × (Nat → Int32)) :=
  ob1 (f_X5_hasGlove told_gloves v1) fun r_1 =>
  if r_1 = (0 : Int32) then
    b_X11_meets_22 told_gloves told_matters told_house told_after told_need laws_holds laws_lengths laws_c0 laws_c1 laws_c2 laws_c3 x_refused laws_letters laws_stack now_cells acts_size acts_next acts_rows
  else
    ob1 (f_X5_hasGlove told_gloves v2) fun r_3 =>
    if r_3 = (0 : Int32) then
      b_X11_meets_22 told_gloves told_matters told_house told_after told_need laws_holds laws_lengths laws_c0 laws_c1 laws_c2 laws_c3 x_refused laws_letters laws_stack now_cells acts_size acts_next acts_rows
    else
      ob1 (f_X5_unlike told_gloves told_house v1 v2) fun r_5 =>
      if r_5 = (0 : Int32) then
        ob2 (f_X11_refuse x_refused (1 : Int32)) fun r_28 x_refused_29 =>
        some (r_28, x_refused_29, laws_letters, laws_stack, now_cells, acts_size, acts_next, acts_rows)
      else
        ob1 (f_X9_hasMet now_cells v1) fun r_7 =>
        if r_7 = (0 : Int32) then
          ob1 (f_X9_hasMet now_cells v2) fun r_9 =>
          if r_9 = (0 : Int32) then
            ob1 (f_X9_coins now_cells) fun r_11 =>
            if (1 : Int32) ≤ r_11 then
              ob3 (f_X0_keep now_cells acts_size acts_next acts_rows) fun acts_size_13 acts_next_14 acts_rows_15 =>
              ob1 (f_X9_pay now_cells (1 : Int32)) fun now_cells_17 =>
              ob3 (f_X9_meet told_matters told_after told_need laws_holds laws_lengths laws_c0 laws_c1 laws_c2 laws_c3 laws_letters laws_stack now_cells_17 v1 v2) fun laws_letters_19 laws_stack_20 now_cells_21 =>
              ob1 (f_X9_warmthOf now_cells_21 v1 v2) fun r_23 =>
              some (r_23, x_refused, laws_letters_19, laws_stack_20, now_cells_21, acts_size_13, acts_next_14, acts_rows_15)
            else
              ob2 (f_X11_refuse x_refused (3 : Int32)) fun r_25 x_refused_26 =>
              some (r_25, x_refused_26, laws_letters, laws_stack, now_cells, acts_size, acts_next, acts_rows)
          else
            b_X11_meets_68 told_gloves told_matters told_house told_after told_need laws_holds laws_lengths laws_c0 laws_c1 laws_c2 laws_c3 x_refused laws_letters laws_stack now_cells acts_size acts_next acts_rows
        else
          b_X11_meets_68 told_gloves told_matters told_house told_after told_need laws_holds laws_lengths laws_c0 laws_c1 laws_c2 laws_c3 x_refused laws_letters laws_stack now_cells acts_size acts_next acts_rows
noncomputable def f_X11_meets (told_gloves : Int32) (told_matters : Int32) (told_house : Nat → Int32) (told_after : Nat → Int32) (told_need : Nat → Int32) (laws_holds : Int32) (laws_lengths : Nat → Int32) (laws_c0 : Nat → Int32) (laws_c1 : Nat → Int32) (laws_c2 : Nat → Int32) (laws_c3 : Nat → Int32) (x_refused : Nat → Int32) (laws_letters : Nat → Int32) (laws_stack : Nat → Int32) (now_cells : Nat → Int32) (acts_size : Int32) (acts_next : Int32) (acts_rows : Nat → Int32) (p1 : Int32) (p2 : Int32) : Option (Int32 × (Nat → Int32) × (Nat → Int32) × (Nat → Int32) × (Nat → Int32) × Int32 × Int32 × (Nat → Int32)) := b_X11_meets_0 told_gloves told_matters told_house told_after told_need laws_holds laws_lengths laws_c0 laws_c1 laws_c2 laws_c3 x_refused laws_letters laws_stack now_cells acts_size acts_next acts_rows p1 p2
noncomputable def b_X9_setFree_0 (S_cells : Nat → Int32) (v1 : Int32) (v2 : Int32) : Option ((Nat → Int32)) :=
  gd (inB ((36 : Int32) + v1) 69) <|
  bnd (upd S_cells ((36 : Int32) + v1).toNatClampNeg v2) fun S_cells_2 =>
  some S_cells_2
noncomputable def f_X9_setFree (S_cells : Nat → Int32) (p1 : Int32) (p2 : Int32) : Option ((Nat → Int32)) := b_X9_setFree_0  S_cells p1 p2
noncomputable def b_X11_loosen_0 (told_gloves : Int32) (x_refused : Nat → Int32) (now_cells : Nat → Int32) (acts_size : Int32) (acts_next : Int32) (acts_rows : Nat → Int32) (v1 : Int32) : Option (Int32 × (Nat → Int32) × (Nat → Int32) × Int32 × Int32 × (Nat → Int32)) :=
  ob1 (f_X5_hasGlove told_gloves v1) fun r_1 =>
  if r_1 = (0 : Int32) then
    ob2 (f_X11_refuse x_refused (0 : Int32)) fun r_25 x_refused_26 =>
    some (r_25, x_refused_26, now_cells, acts_size, acts_next, acts_rows)
  else
    ob1 (f_X9_free now_cells v1) fun r_3 =>
    if r_3 < (9 : Int32) then
      ob1 (f_X9_coins now_cells) fun r_5 =>
      if (3 : Int32) ≤ r_5 then
        ob3 (f_X0_keep now_cells acts_size acts_next acts_rows) fun acts_size_7 acts_next_8 acts_rows_9 =>
        ob1 (f_X9_pay now_cells (3 : Int32)) fun now_cells_11 =>
        ob1 (f_X9_free now_cells_11 v1) fun r_13 =>
        ob1 (f_X9_setFree now_cells_11 v1 (r_13 + (1 : Int32))) fun now_cells_15 =>
        ob1 (f_X9_free now_cells_15 v1) fun r_17 =>
        some (r_17, x_refused, now_cells_15, acts_size_7, acts_next_8, acts_rows_9)
      else
        ob2 (f_X11_refuse x_refused (3 : Int32)) fun r_19 x_refused_20 =>
        some (r_19, x_refused_20, now_cells, acts_size, acts_next, acts_rows)
    else
      ob2 (f_X11_refuse x_refused (2 : Int32)) fun r_22 x_refused_23 =>
      some (r_22, x_refused_23, now_cells, acts_size, acts_next, acts_rows)
noncomputable def f_X11_loosen (told_gloves : Int32) (x_refused : Nat → Int32) (now_cells : Nat → Int32) (acts_size : Int32) (acts_next : Int32) (acts_rows : Nat → Int32) (p1 : Int32) : Option (Int32 × (Nat → Int32) × (Nat → Int32) × Int32 × Int32 × (Nat → Int32)) := b_X11_loosen_0 told_gloves x_refused now_cells acts_size acts_next acts_rows p1
noncomputable def b_X9_setStuffed_0 (S_cells : Nat → Int32) (v1 : Int32) (v2 : Int32) : Option ((Nat → Int32)) :=
  gd (inB ((42 : Int32) + v1) 69) <|
  bnd (upd S_cells ((42 : Int32) + v1).toNatClampNeg v2) fun S_cells_2 =>
  some S_cells_2
noncomputable def f_X9_setStuffed (S_cells : Nat → Int32) (p1 : Int32) (p2 : Int32) : Option ((Nat → Int32)) := b_X9_setStuffed_0  S_cells p1 p2
noncomputable def b_X11_stuff_27 (told_gloves : Int32) (x_refused : Nat → Int32) (now_cells : Nat → Int32) (acts_size : Int32) (acts_next : Int32) (acts_rows : Nat → Int32) : Option (Int32 × (Nat → Int32) × (Nat → Int32) × Int32 × Int32 × (Nat → Int32)) :=
  ob2 (f_X11_refuse x_refused (1 : Int32)) fun r_1 x_refused_2 =>
  some (r_1, x_refused_2, now_cells, acts_size, acts_next, acts_rows)
noncomputable def b_X11_stuff_0 (told_gloves : Int32) (x_refused : Nat → Int32) (now_cells : Nat → Int32) (acts_size : Int32) (acts_next : Int32) (acts_rows : Nat → Int32) (v1 : Int32) (v2 : Int32) : Option (Int32 × (Nat → Int32) × (Nat → Int32) × Int32 × Int32 × (Nat → Int32)) :=
  ob1 (f_X5_hasGlove told_gloves v1) fun r_1 =>
  if r_1 = (0 : Int32) then
    ob2 (f_X11_refuse x_refused (0 : Int32)) fun r_21 x_refused_22 =>
    some (r_21, x_refused_22, now_cells, acts_size, acts_next, acts_rows)
  else
    if v2 < (0 : Int32) then
      b_X11_stuff_27 told_gloves x_refused now_cells acts_size acts_next acts_rows
    else
      if v2 ≤ (9 : Int32) then
        ob1 (f_X9_stuffed now_cells v1) fun r_3 =>
        if r_3 = v2 then
          ob2 (f_X11_refuse x_refused (2 : Int32)) fun r_18 x_refused_19 =>
          some (r_18, x_refused_19, now_cells, acts_size, acts_next, acts_rows)
        else
          ob1 (f_X9_coins now_cells) fun r_5 =>
          if (2 : Int32) ≤ r_5 then
            ob3 (f_X0_keep now_cells acts_size acts_next acts_rows) fun acts_size_7 acts_next_8 acts_rows_9 =>
            ob1 (f_X9_pay now_cells (2 : Int32)) fun now_cells_11 =>
            ob1 (f_X9_setStuffed now_cells_11 v1 v2) fun now_cells_13 =>
            some (r_3, x_refused, now_cells_13, acts_size_7, acts_next_8, acts_rows_9)
          else
            ob2 (f_X11_refuse x_refused (3 : Int32)) fun r_15 x_refused_16 =>
            some (r_15, x_refused_16, now_cells, acts_size, acts_next, acts_rows)
      else
        b_X11_stuff_27 told_gloves x_refused now_cells acts_size acts_next acts_rows
noncomputable def f_X11_stuff (told_gloves : Int32) (x_refused : Nat → Int32) (now_cells : Nat → Int32) (acts_size : Int32) (acts_next : Int32) (acts_rows : Nat → Int32) (p1 : Int32) (p2 : Int32) : Option (Int32 × (Nat → Int32) × (Nat → Int32) × Int32 × Int32 × (Nat → Int32)) := b_X11_stuff_0 told_gloves x_refused now_cells acts_size acts_next acts_rows p1 p2
noncomputable def b_X9_setPride_0 (S_cells : Nat → Int32) (v1 : Int32) : Option ((Nat → Int32)) :=
  gd (inB (66 : Int32) 69) <|
  bnd (upd S_cells (66 : Int32).toNatClampNeg v1) fun S_cells_2 =>
  some S_cells_2
noncomputable def f_X9_setPride (S_cells : Nat → Int32) (p1 : Int32) : Option ((Nat → Int32)) := b_X9_setPride_0  S_cells p1
noncomputable def b_X11_swallow_0 (told_gloves : Int32) (x_refused : Nat → Int32) (now_cells : Nat → Int32) (acts_size : Int32) (acts_next : Int32) (acts_rows : Nat → Int32) : Option (Int32 × (Nat → Int32) × (Nat → Int32) × Int32 × Int32 × (Nat → Int32)) :=
  ob1 (f_X11_noPeace told_gloves) fun r_1 =>
  if r_1 = (0 : Int32) then
    ob1 (f_X9_pride now_cells) fun r_3 =>
    if r_3 = (0 : Int32) then
      ob2 (f_X11_refuse x_refused (2 : Int32)) fun r_22 x_refused_23 =>
      some (r_22, x_refused_23, now_cells, acts_size, acts_next, acts_rows)
    else
      ob1 (f_X9_coins now_cells) fun r_5 =>
      if (4 : Int32) ≤ r_5 then
        ob3 (f_X0_keep now_cells acts_size acts_next acts_rows) fun acts_size_7 acts_next_8 acts_rows_9 =>
        ob1 (f_X9_pay now_cells (4 : Int32)) fun now_cells_11 =>
        ob1 (f_X9_pride now_cells_11) fun r_13 =>
        ob1 (f_X9_setPride now_cells_11 (r_13 - (1 : Int32))) fun now_cells_15 =>
        ob1 (f_X9_pride now_cells_15) fun r_17 =>
        some (r_17, x_refused, now_cells_15, acts_size_7, acts_next_8, acts_rows_9)
      else
        ob2 (f_X11_refuse x_refused (3 : Int32)) fun r_19 x_refused_20 =>
        some (r_19, x_refused_20, now_cells, acts_size, acts_next, acts_rows)
  else
    ob2 (f_X11_refuse x_refused (0 : Int32)) fun r_25 x_refused_26 =>
    some (r_25, x_refused_26, now_cells, acts_size, acts_next, acts_rows)
noncomputable def f_X11_swallow (told_gloves : Int32) (x_refused : Nat → Int32) (now_cells : Nat → Int32) (acts_size : Int32) (acts_next : Int32) (acts_rows : Nat → Int32) : Option (Int32 × (Nat → Int32) × (Nat → Int32) × Int32 × Int32 × (Nat → Int32)) := b_X11_swallow_0 told_gloves x_refused now_cells acts_size acts_next acts_rows
noncomputable def b_X9_tearUp_0 (S_cells : Nat → Int32) (v1 : Int32) : Option ((Nat → Int32)) :=
  gd (inB ((60 : Int32) + v1) 69) <|
  bnd (upd S_cells ((60 : Int32) + v1).toNatClampNeg (-1 : Int32)) fun S_cells_2 =>
  some S_cells_2
noncomputable def f_X9_tearUp (S_cells : Nat → Int32) (p1 : Int32) : Option ((Nat → Int32)) := b_X9_tearUp_0  S_cells p1
noncomputable def b_X9_growProud_0 (S_cells : Nat → Int32) : Option ((Nat → Int32)) :=
  gd (inB (66 : Int32) 69) <|
  bnd (mn (9 : Int32) ((S_cells (66 : Int32).toNatClampNeg) + (1 : Int32))) fun n_2 =>
  gd (inB (66 : Int32) 69) <|
  bnd (upd S_cells (66 : Int32).toNatClampNeg n_2) fun S_cells_4 =>
  some S_cells_4
noncomputable def f_X9_growProud (S_cells : Nat → Int32) : Option ((Nat → Int32)) := b_X9_growProud_0  S_cells
noncomputable def b_X11_tear_0 (told_matters : Int32) (x_refused : Nat → Int32) (now_cells : Nat → Int32) (acts_size : Int32) (acts_next : Int32) (acts_rows : Nat → Int32) (v1 : Int32) : Option (Int32 × (Nat → Int32) × (Nat → Int32) × Int32 × Int32 × (Nat → Int32)) :=
  ob1 (f_X5_hasMatter told_matters v1) fun r_1 =>
  if r_1 = (0 : Int32) then
    ob2 (f_X11_refuse x_refused (0 : Int32)) fun r_18 x_refused_19 =>
    some (r_18, x_refused_19, now_cells, acts_size, acts_next, acts_rows)
  else
    ob1 (f_X9_signers now_cells v1) fun r_3 =>
    if r_3 = (-1 : Int32) then
      ob2 (f_X11_refuse x_refused (2 : Int32)) fun r_15 x_refused_16 =>
      some (r_15, x_refused_16, now_cells, acts_size, acts_next, acts_rows)
    else
      ob3 (f_X0_keep now_cells acts_size acts_next acts_rows) fun acts_size_5 acts_next_6 acts_rows_7 =>
      ob1 (f_X9_tearUp now_cells v1) fun now_cells_9 =>
      ob1 (f_X9_growProud now_cells_9) fun now_cells_11 =>
      ob1 (f_X9_pride now_cells_11) fun r_13 =>
      some (r_13, x_refused, now_cells_11, acts_size_5, acts_next_6, acts_rows_7)
noncomputable def f_X11_tear (told_matters : Int32) (x_refused : Nat → Int32) (now_cells : Nat → Int32) (acts_size : Int32) (acts_next : Int32) (acts_rows : Nat → Int32) (p1 : Int32) : Option (Int32 × (Nat → Int32) × (Nat → Int32) × Int32 × Int32 × (Nat → Int32)) := b_X11_tear_0 told_matters x_refused now_cells acts_size acts_next acts_rows p1
noncomputable def b_X11_give_39 (told_gloves : Int32) (x_refused : Nat → Int32) (now_cells : Nat → Int32) (acts_size : Int32) (acts_next : Int32) (acts_rows : Nat → Int32) : Option (Int32 × (Nat → Int32) × (Nat → Int32) × Int32 × Int32 × (Nat → Int32)) :=
  ob2 (f_X11_refuse x_refused (1 : Int32)) fun r_1 x_refused_2 =>
  some (r_1, x_refused_2, now_cells, acts_size, acts_next, acts_rows)
noncomputable def b_X11_give_0 (told_gloves : Int32) (x_refused : Nat → Int32) (now_cells : Nat → Int32) (acts_size : Int32) (acts_next : Int32) (acts_rows : Nat → Int32) (v1 : Int32) : Option (Int32 × (Nat → Int32) × (Nat → Int32) × Int32 × Int32 × (Nat → Int32)) :=
  ob1 (f_X11_noPeace told_gloves) fun r_1 =>
  if r_1 = (0 : Int32) then
    if v1 < (1 : Int32) then
      b_X11_give_39 told_gloves x_refused now_cells acts_size acts_next acts_rows
    else
      if (50 : Int32) < v1 then
        b_X11_give_39 told_gloves x_refused now_cells acts_size acts_next acts_rows
      else
        ob1 (f_X9_coins now_cells) fun r_3 =>
        if (r_3 + v1) ≤ (999 : Int32) then
          ob3 (f_X0_keep now_cells acts_size acts_next acts_rows) fun acts_size_5 acts_next_6 acts_rows_7 =>
          ob1 (f_X9_pay now_cells (-v1)) fun now_cells_9 =>
          ob1 (f_X9_coins now_cells_9) fun r_11 =>
          some (r_11, x_refused, now_cells_9, acts_size_5, acts_next_6, acts_rows_7)
        else
          b_X11_give_39 told_gloves x_refused now_cells acts_size acts_next acts_rows
  else
    ob2 (f_X11_refuse x_refused (0 : Int32)) fun r_13 x_refused_14 =>
    some (r_13, x_refused_14, now_cells, acts_size, acts_next, acts_rows)
noncomputable def f_X11_give (told_gloves : Int32) (x_refused : Nat → Int32) (now_cells : Nat → Int32) (acts_size : Int32) (acts_next : Int32) (acts_rows : Nat → Int32) (p1 : Int32) : Option (Int32 × (Nat → Int32) × (Nat → Int32) × Int32 × Int32 × (Nat → Int32)) := b_X11_give_0 told_gloves x_refused now_cells acts_size acts_next acts_rows p1
noncomputable def b_X9_cool_66 (told_gloves : Int32) (k2 : (Nat → Int32) → Int32 → Option ((Nat → Int32))) (k17 : (Nat → Int32) → Int32 → Int32 → Option ((Nat → Int32))) (S_cells : Nat → Int32) (v1 : Int32) (v2 : Int32) : Option ((Nat → Int32)) :=
  bnd (v2 + (1 : Int32)) fun v2_1 =>
  k17 S_cells v1 v2_1
noncomputable def b_X9_cool_17 (told_gloves : Int32) (k2 : (Nat → Int32) → Int32 → Option ((Nat → Int32))) (k17 : (Nat → Int32) → Int32 → Int32 → Option ((Nat → Int32))) (S_cells : Nat → Int32) (v1 : Int32) (v2 : Int32) : Option ((Nat → Int32)) :=
  if told_gloves ≤ v2 then
    bnd (v1 + (1 : Int32)) fun v1_1 =>
    k2 S_cells v1_1
  else
    ob1 (f_X9_placeOf v1 v2) fun r_2 =>
    gd (inB ((54 : Int32) + v1) 69) <|
    if (S_cells ((54 : Int32) + v1).toNatClampNeg) = v2 then
      b_X9_cool_66 told_gloves k2 k17 S_cells v1 v2
    else
      gd (inB r_2 69) <|
      if (S_cells r_2.toNatClampNeg) ≤ (0 : Int32) then
        b_X9_cool_66 told_gloves k2 k17 S_cells v1 v2
      else
        gd (inB r_2 69) <|
        gd (inB r_2 69) <|
        bnd (upd S_cells r_2.toNatClampNeg ((S_cells r_2.toNatClampNeg) - (1 : Int32))) fun S_cells_8 =>
        b_X9_cool_66 told_gloves k2 k17 S_cells_8 v1 v2
noncomputable def f_X9_cool_17 (told_gloves : Int32) (k2 : (Nat → Int32) → Int32 → Option ((Nat → Int32))) : Nat → (Nat → Int32) → Int32 → Int32 → Option ((Nat → Int32))
  | 0, _, _, _ => none
  | n + 1, S_cells, v1, v2 => b_X9_cool_17 told_gloves k2 (f_X9_cool_17 told_gloves k2 n) S_cells v1 v2
noncomputable def b_X9_cool_2 (told_gloves : Int32) (k2 : (Nat → Int32) → Int32 → Option ((Nat → Int32))) (S_cells : Nat → Int32) (v1 : Int32) : Option ((Nat → Int32)) :=
  if told_gloves ≤ v1 then
    gd (inB (67 : Int32) 69) <|
    bnd (mn (999 : Int32) ((S_cells (67 : Int32).toNatClampNeg) + (2 : Int32))) fun n_2 =>
    gd (inB (67 : Int32) 69) <|
    bnd (upd S_cells (67 : Int32).toNatClampNeg n_2) fun S_cells_4 =>
    some S_cells_4
  else
    bnd (v1 + (1 : Int32)) fun v2_5 =>
    f_X9_cool_17 told_gloves k2 fu S_cells v1 v2_5
noncomputable def f_X9_cool_2 (told_gloves : Int32) : Nat → (Nat → Int32) → Int32 → Option ((Nat → Int32))
  | 0, _, _ => none
  | n + 1, S_cells, v1 => b_X9_cool_2 told_gloves (f_X9_cool_2 told_gloves n) S_cells v1
noncomputable def b_X9_cool_0 (told_gloves : Int32) (S_cells : Nat → Int32) : Option ((Nat → Int32)) :=
  f_X9_cool_2 told_gloves fu S_cells (0 : Int32)
noncomputable def f_X9_cool (told_gloves : Int32) (S_cells : Nat → Int32) : Option ((Nat → Int32)) := b_X9_cool_0 told_gloves S_cells
noncomputable def b_X9_metBits_29 (told_gloves : Int32) (S_cells : Nat → Int32) (k4 : Int32 → Int32 → Option (Int32)) (v1 : Int32) (v2 : Int32) : Option (Int32) :=
  bnd (v2 + (1 : Int32)) fun v2_1 =>
  k4 v1 v2_1
noncomputable def b_X9_metBits_4 (told_gloves : Int32) (S_cells : Nat → Int32) (k4 : Int32 → Int32 → Option (Int32)) (v1 : Int32) (v2 : Int32) : Option (Int32) :=
  if told_gloves ≤ v2 then
    some v1
  else
    ob1 (f_X9_hasMet S_cells v2) fun r_1 =>
    if r_1 = (0 : Int32) then
      b_X9_metBits_29 told_gloves S_cells k4 v1 v2
    else
      bnd (v1 ||| ((1 : Int32) <<< (v2 &&& (31 : Int32)))) fun v1_3 =>
      b_X9_metBits_29 told_gloves S_cells k4 v1_3 v2
noncomputable def f_X9_metBits_4 (told_gloves : Int32) (S_cells : Nat → Int32) : Nat → Int32 → Int32 → Option (Int32)
  | 0, _, _ => none
  | n + 1, v1, v2 => b_X9_metBits_4 told_gloves S_cells (f_X9_metBits_4 told_gloves S_cells n) v1 v2
noncomputable def b_X9_metBits_0 (told_gloves : Int32) (S_cells : Nat → Int32) : Option (Int32) :=
  f_X9_metBits_4 told_gloves S_cells fu (0 : Int32) (0 : Int32)
noncomputable def f_X9_metBits (told_gloves : Int32) (S_cells : Nat → Int32) : Option (Int32) := b_X9_metBits_0 told_gloves S_cells 
noncomputable def b_J6_bitCount_0f7a4_0 (v0 : Int32) : Option (Int32) :=
  bnd (v0 - ((ushr v0 (1 : Int32)) &&& (1431655765 : Int32))) fun v0_1 =>
  bnd ((v0_1 &&& (858993459 : Int32)) + ((ushr v0_1 (2 : Int32)) &&& (858993459 : Int32))) fun n_2 =>
  bnd ((n_2 + (ushr n_2 (4 : Int32))) &&& (252645135 : Int32)) fun v0_3 =>
  bnd (v0_3 + (ushr v0_3 (8 : Int32))) fun v0_4 =>
  bnd (v0_4 + (ushr v0_4 (16 : Int32))) fun v0_5 =>
  some (v0_5 &&& (63 : Int32))
noncomputable def f_J6_bitCount_0f7a4 (p1 : Int32) : Option (Int32) := b_J6_bitCount_0f7a4_0  p1
noncomputable def b_X9_signedToday_0 (S_cells : Nat → Int32) : Option (Int32) :=
  gd (inB (65 : Int32) 69) <|
  some (S_cells (65 : Int32).toNatClampNeg)
noncomputable def f_X9_signedToday (S_cells : Nat → Int32) : Option (Int32) := b_X9_signedToday_0 S_cells 
noncomputable def b_X9_warmthOfAll_4 (S_cells : Nat → Int32) (k4 : Int32 → Int32 → Option (Int32)) (v1 : Int32) (v2 : Int32) : Option (Int32) :=
  if (36 : Int32) ≤ v2 then
    some v1
  else
    gd (inB v2 69) <|
    bnd (v1 + (S_cells v2.toNatClampNeg)) fun v1_2 =>
    bnd (v2 + (1 : Int32)) fun v2_3 =>
    k4 v1_2 v2_3
noncomputable def f_X9_warmthOfAll_4 (S_cells : Nat → Int32) : Nat → Int32 → Int32 → Option (Int32)
  | 0, _, _ => none
  | n + 1, v1, v2 => b_X9_warmthOfAll_4 S_cells (f_X9_warmthOfAll_4 S_cells n) v1 v2
noncomputable def b_X9_warmthOfAll_0 (S_cells : Nat → Int32) : Option (Int32) :=
  f_X9_warmthOfAll_4 S_cells fu (0 : Int32) (0 : Int32)
noncomputable def f_X9_warmthOfAll (S_cells : Nat → Int32) : Option (Int32) := b_X9_warmthOfAll_0 S_cells 
noncomputable def b_X3_write_0 (B_rows : Nat → Int32) (v1 : Int32) (v2 : Int32) (v3 : Int32) (v4 : Int32) : Option ((Nat → Int32)) :=
  bnd ((v1 &&& (127 : Int32)) * (3 : Int32)) fun v5_1 =>
  gd (inB v5_1 384) <|
  bnd (upd B_rows v5_1.toNatClampNeg v2) fun B_rows_3 =>
  gd (inB (v5_1 + (1 : Int32)) 384) <|
  bnd (upd B_rows_3 (v5_1 + (1 : Int32)).toNatClampNeg v3) fun B_rows_5 =>
  gd (inB (v5_1 + (2 : Int32)) 384) <|
  bnd (upd B_rows_5 (v5_1 + (2 : Int32)).toNatClampNeg v4) fun B_rows_7 =>
  some B_rows_7
noncomputable def f_X3_write (B_rows : Nat → Int32) (p1 : Int32) (p2 : Int32) (p3 : Int32) (p4 : Int32) : Option ((Nat → Int32)) := b_X3_write_0  B_rows p1 p2 p3 p4
noncomputable def b_X9_dawn_2 (k2 : (Nat → Int32) → Int32 → Option ((Nat → Int32))) (S_cells : Nat → Int32) (v1 : Int32) : Option ((Nat → Int32)) :=
  if (6 : Int32) ≤ v1 then
    gd (inB (65 : Int32) 69) <|
    bnd (upd S_cells (65 : Int32).toNatClampNeg (0 : Int32)) fun S_cells_2 =>
    gd (inB (68 : Int32) 69) <|
    gd (inB (68 : Int32) 69) <|
    bnd (upd S_cells_2 (68 : Int32).toNatClampNeg ((S_cells_2 (68 : Int32).toNatClampNeg) + (1 : Int32))) fun S_cells_5 =>
    some S_cells_5
  else
    gd (inB ((54 : Int32) + v1) 69) <|
    bnd (upd S_cells ((54 : Int32) + v1).toNatClampNeg (-1 : Int32)) fun S_cells_7 =>
    bnd (v1 + (1 : Int32)) fun v1_8 =>
    k2 S_cells_7 v1_8
noncomputable def f_X9_dawn_2  : Nat → (Nat → Int32) → Int32 → Option ((Nat → Int32))
  | 0, _, _ => none
  | n + 1, S_cells, v1 => b_X9_dawn_2  (f_X9_dawn_2  n) S_cells v1
noncomputable def b_X9_dawn_0 (S_cells : Nat → Int32) : Option ((Nat → Int32)) :=
  f_X9_dawn_2 fu S_cells (0 : Int32)
noncomputable def f_X9_dawn (S_cells : Nat → Int32) : Option ((Nat → Int32)) := b_X9_dawn_0  S_cells
noncomputable def b_X11_passDay_0 (told_gloves : Int32) (now_cells : Nat → Int32) (book_rows : Nat → Int32) : Option ((Nat → Int32) × (Nat → Int32)) :=
  ob1 (f_X9_cool told_gloves now_cells) fun now_cells_1 =>
  ob1 (f_X9_day now_cells_1) fun r_3 =>
  ob1 (f_X9_metBits told_gloves now_cells_1) fun r_5 =>
  ob1 (f_J6_bitCount_0f7a4 r_5) fun r_7 =>
  ob1 (f_X9_signedToday now_cells_1) fun r_9 =>
  ob1 (f_X9_warmthOfAll now_cells_1) fun r_11 =>
  ob1 (f_X3_write book_rows r_3 r_7 r_9 r_11) fun book_rows_13 =>
  ob1 (f_X9_dawn now_cells_1) fun now_cells_15 =>
  some (now_cells_15, book_rows_13)
noncomputable def f_X11_passDay (told_gloves : Int32) (now_cells : Nat → Int32) (book_rows : Nat → Int32) : Option ((Nat → Int32) × (Nat → Int32)) := b_X11_passDay_0 told_gloves now_cells book_rows
noncomputable def b_X11_days_24 (told_gloves : Int32) (x_refused : Nat → Int32) (now_cells : Nat → Int32) (book_rows : Nat → Int32) (acts_size : Int32) (acts_next : Int32) (acts_rows : Nat → Int32) : Option (Int32 × (Nat → Int32) × (Nat → Int32) × (Nat → Int32) × Int32 × Int32 × (Nat → Int32)) :=
  ob2 (f_X11_refuse x_refused (1 : Int32)) fun r_1 x_refused_2 =>
  some (r_1, x_refused_2, now_cells, book_rows, acts_size, acts_next, acts_rows)
noncomputable def b_X11_days_53 (told_gloves : Int32) (k53 : (Nat → Int32) → (Nat → Int32) → (Nat → Int32) → Int32 → Int32 → (Nat → Int32) → Int32 → Int32 → Option (Int32 × (Nat → Int32) × (Nat → Int32) × (Nat → Int32) × Int32 × Int32 × (Nat → Int32))) (x_refused : Nat → Int32) (now_cells : Nat → Int32) (book_rows : Nat → Int32) (acts_size : Int32) (acts_next : Int32) (acts_rows : Nat → Int32) (v1 : Int32) (v2 : Int32) : Option (Int32 × (Nat → Int32) × (Nat → Int32) × (Nat → Int32) × Int32 × Int32 × (Nat → Int32)) :=
  if v1 ≤ v2 then
    ob1 (f_X9_day now_cells) fun r_1 =>
    some (r_1, x_refused, now_cells, book_rows, acts_size, acts_next, acts_rows)
  else
    ob3 (f_X0_keep now_cells acts_size acts_next acts_rows) fun acts_size_3 acts_next_4 acts_rows_5 =>
    ob2 (f_X11_passDay told_gloves now_cells book_rows) fun now_cells_7 book_rows_8 =>
    bnd (v2 + (1 : Int32)) fun v2_10 =>
    k53 x_refused now_cells_7 book_rows_8 acts_size_3 acts_next_4 acts_rows_5 v1 v2_10
noncomputable def f_X11_days_53 (told_gloves : Int32) : Nat → (Nat → Int32) → (Nat → Int32) → (Nat → Int32) → Int32 → Int32 → (Nat → Int32) → Int32 → Int32 → Option (Int32 × (Nat → Int32) × (Nat → Int32) × (Nat → Int32) × Int32 × Int32 × (Nat → Int32))
  | 0, _, _, _, _, _, _, _, _ => none
  | n + 1, x_refused, now_cells, book_rows, acts_size, acts_next, acts_rows, v1, v2 => b_X11_days_53 told_gloves (f_X11_days_53 told_gloves n) x_refused now_cells book_rows acts_size acts_next acts_rows v1 v2
noncomputable def b_X11_days_0 (told_gloves : Int32) (x_refused : Nat → Int32) (now_cells : Nat → Int32) (book_rows : Nat → Int32) (acts_size : Int32) (acts_next : Int32) (acts_rows : Nat → Int32) (v1 : Int32) : Option (Int32 × (Nat → Int32) × (Nat → Int32) × (Nat → Int32) × Int32 × Int32 × (Nat → Int32)) :=
  ob1 (f_X11_noPeace told_gloves) fun r_1 =>
  if r_1 = (0 : Int32) then
    if v1 < (1 : Int32) then
      b_X11_days_24 told_gloves x_refused now_cells book_rows acts_size acts_next acts_rows
    else
      if v1 ≤ (60 : Int32) then
        ob1 (f_X9_day now_cells) fun r_3 =>
        if (r_3 + v1) ≤ (999 : Int32) then
          f_X11_days_53 told_gloves fu x_refused now_cells book_rows acts_size acts_next acts_rows v1 (0 : Int32)
        else
          ob2 (f_X11_refuse x_refused (4 : Int32)) fun r_5 x_refused_6 =>
          some (r_5, x_refused_6, now_cells, book_rows, acts_size, acts_next, acts_rows)
      else
        b_X11_days_24 told_gloves x_refused now_cells book_rows acts_size acts_next acts_rows
  else
    ob2 (f_X11_refuse x_refused (0 : Int32)) fun r_8 x_refused_9 =>
    some (r_8, x_refused_9, now_cells, book_rows, acts_size, acts_next, acts_rows)
noncomputable def f_X11_days (told_gloves : Int32) (x_refused : Nat → Int32) (now_cells : Nat → Int32) (book_rows : Nat → Int32) (acts_size : Int32) (acts_next : Int32) (acts_rows : Nat → Int32) (p1 : Int32) : Option (Int32 × (Nat → Int32) × (Nat → Int32) × (Nat → Int32) × Int32 × Int32 × (Nat → Int32)) := b_X11_days_0 told_gloves x_refused now_cells book_rows acts_size acts_next acts_rows p1
noncomputable def b_X11_spite_0 (x_spiteNow : Int32) (v1 : Int32) : Option (Int32 × Int32) :=
  if v1 < (0 : Int32) then
    some ((0 : Int32), x_spiteNow)
  else
    if (9 : Int32) < v1 then
      some ((0 : Int32), x_spiteNow)
    else
      if v1 = x_spiteNow then
        some ((0 : Int32), x_spiteNow)
      else
        some ((1 : Int32), v1)
noncomputable def f_X11_spite (x_spiteNow : Int32) (p1 : Int32) : Option (Int32 × Int32) := b_X11_spite_0  x_spiteNow p1
noncomputable def b_X11_draw_0 (x_drawn : Int64) (v1 : Int32) : Option (Int32 × Int64) :=
  bnd ((x_drawn * (6364136223846793005 : Int64)) + (1442695040888963407 : Int64)) fun n_1 =>
  if (1 : Int32) ≤ v1 then
    gd (nzL (v1.toInt64)) <|
    bnd (remL (ushrL n_1 (33 : Int32)) (v1.toInt64)) fun n_3 =>
    some ((n_3.toInt32), n_1)
  else
    some ((0 : Int32), n_1)
noncomputable def f_X11_draw (x_drawn : Int64) (p1 : Int32) : Option (Int32 × Int64) := b_X11_draw_0  x_drawn p1
noncomputable def b_X11_drawMeeting_0 (told_gloves : Int32) (told_matters : Int32) (told_house : Nat → Int32) (told_after : Nat → Int32) (told_need : Nat → Int32) (laws_holds : Int32) (laws_lengths : Nat → Int32) (laws_c0 : Nat → Int32) (laws_c1 : Nat → Int32) (laws_c2 : Nat → Int32) (laws_c3 : Nat → Int32) (x_drawn : Int64) (laws_letters : Nat → Int32) (laws_stack : Nat → Int32) (now_cells : Nat → Int32) : Option (Int64 × (Nat → Int32) × (Nat → Int32) × (Nat → Int32)) :=
  ob2 (f_X11_draw x_drawn told_gloves) fun r_1 x_drawn_2 =>
  ob2 (f_X11_draw x_drawn_2 told_gloves) fun r_4 x_drawn_5 =>
  ob1 (f_X5_unlike told_gloves told_house r_1 r_4) fun r_7 =>
  if r_7 = (0 : Int32) then
    some (x_drawn_5, laws_letters, laws_stack, now_cells)
  else
    ob1 (f_X9_hasMet now_cells r_1) fun r_9 =>
    if r_9 = (0 : Int32) then
      ob1 (f_X9_hasMet now_cells r_4) fun r_11 =>
      if r_11 = (0 : Int32) then
        ob3 (f_X9_meet told_matters told_after told_need laws_holds laws_lengths laws_c0 laws_c1 laws_c2 laws_c3 laws_letters laws_stack now_cells r_1 r_4) fun laws_letters_13 laws_stack_14 now_cells_15 =>
        some (x_drawn_5, laws_letters_13, laws_stack_14, now_cells_15)
      else
        some (x_drawn_5, laws_letters, laws_stack, now_cells)
    else
      some (x_drawn_5, laws_letters, laws_stack, now_cells)
noncomputable def f_X11_drawMeeting (told_gloves : Int32) (told_matters : Int32) (told_house : Nat → Int32) (told_after : Nat → Int32) (told_need : Nat → Int32) (laws_holds : Int32) (laws_lengths : Nat → Int32) (laws_c0 : Nat → Int32) (laws_c1 : Nat → Int32) (laws_c2 : Nat → Int32) (laws_c3 : Nat → Int32) (x_drawn : Int64) (laws_letters : Nat → Int32) (laws_stack : Nat → Int32) (now_cells : Nat → Int32) : Option (Int64 × (Nat → Int32) × (Nat → Int32) × (Nat → Int32)) := b_X11_drawMeeting_0 told_gloves told_matters told_house told_after told_need laws_holds laws_lengths laws_c0 laws_c1 laws_c2 laws_c3 x_drawn laws_letters laws_stack now_cells
noncomputable def b_X11_years_88 (x_spiteNow : Int32) (told_gloves : Int32) (told_matters : Int32) (told_house : Nat → Int32) (told_after : Nat → Int32) (told_need : Nat → Int32) (laws_holds : Int32) (laws_lengths : Nat → Int32) (laws_c0 : Nat → Int32) (laws_c1 : Nat → Int32) (laws_c2 : Nat → Int32) (laws_c3 : Nat → Int32) (k43 : Int64 → (Nat → Int32) → (Nat → Int32) → (Nat → Int32) → (Nat → Int32) → Int32 → Int32 → (Nat → Int32) → Int32 → Int32 → Option (Int32 × Int64 × (Nat → Int32) × (Nat → Int32) × (Nat → Int32) × (Nat → Int32) × Int32 × Int32 × (Nat → Int32))) (x_drawn : Int64) (laws_letters : Nat → Int32) (laws_stack : Nat → Int32) (now_cells : Nat → Int32) (book_rows : Nat → Int32) (acts_size : Int32) (acts_next : Int32) (acts_rows : Nat → Int32) (v1 : Int32) (v4 : Int32) : Option (Int32 × Int64 × (Nat → Int32) × (Nat → Int32) × (Nat → Int32) × (Nat → Int32) × Int32 × Int32 × (Nat → Int32)) :=
  ob2 (f_X11_passDay told_gloves now_cells book_rows) fun now_cells_1 book_rows_2 =>
  bnd (v4 + (1 : Int32)) fun v4_4 =>
  k43 x_drawn laws_letters laws_stack now_cells_1 book_rows_2 acts_size acts_next acts_rows v1 v4_4
noncomputable def b_X11_years_43 (x_spiteNow : Int32) (told_gloves : Int32) (told_matters : Int32) (told_house : Nat → Int32) (told_after : Nat → Int32) (told_need : Nat → Int32) (laws_holds : Int32) (laws_lengths : Nat → Int32) (laws_c0 : Nat → Int32) (laws_c1 : Nat → Int32) (laws_c2 : Nat → Int32) (laws_c3 : Nat → Int32) (k43 : Int64 → (Nat → Int32) → (Nat → Int32) → (Nat → Int32) → (Nat → Int32) → Int32 → Int32 → (Nat → Int32) → Int32 → Int32 → Option (Int32 × Int64 × (Nat → Int32) × (Nat → Int32) × (Nat → Int32) × (Nat → Int32) × Int32 × Int32 × (Nat → Int32))) (x_drawn : Int64) (laws_letters : Nat → Int32) (laws_stack : Nat → Int32) (now_cells : Nat → Int32) (book_rows : Nat → Int32) (acts_size : Int32) (acts_next : Int32) (acts_rows : Nat → Int32) (v1 : Int32) (v4 : Int32) : Option (Int32 × Int64 × (Nat → Int32) × (Nat → Int32) × (Nat → Int32) × (Nat → Int32) × Int32 × Int32 × (Nat → Int32)) :=
  if v1 ≤ v4 then
    ob1 (f_X9_day now_cells) fun r_1 =>
    some (r_1, x_drawn, laws_letters, laws_stack, now_cells, book_rows, acts_size, acts_next, acts_rows)
  else
    ob3 (f_X0_keep now_cells acts_size acts_next acts_rows) fun acts_size_3 acts_next_4 acts_rows_5 =>
    ob4 (f_X11_drawMeeting told_gloves told_matters told_house told_after told_need laws_holds laws_lengths laws_c0 laws_c1 laws_c2 laws_c3 x_drawn laws_letters laws_stack now_cells) fun x_drawn_7 laws_letters_8 laws_stack_9 now_cells_10 =>
    ob4 (f_X11_drawMeeting told_gloves told_matters told_house told_after told_need laws_holds laws_lengths laws_c0 laws_c1 laws_c2 laws_c3 x_drawn_7 laws_letters_8 laws_stack_9 now_cells_10) fun x_drawn_12 laws_letters_13 laws_stack_14 now_cells_15 =>
    ob2 (f_X11_draw x_drawn_12 (10 : Int32)) fun r_17 x_drawn_18 =>
    if x_spiteNow ≤ r_17 then
      b_X11_years_88 x_spiteNow told_gloves told_matters told_house told_after told_need laws_holds laws_lengths laws_c0 laws_c1 laws_c2 laws_c3 k43 x_drawn_18 laws_letters_13 laws_stack_14 now_cells_15 book_rows acts_size_3 acts_next_4 acts_rows_5 v1 v4
    else
      ob1 (f_X9_growProud now_cells_15) fun now_cells_20 =>
      b_X11_years_88 x_spiteNow told_gloves told_matters told_house told_after told_need laws_holds laws_lengths laws_c0 laws_c1 laws_c2 laws_c3 k43 x_drawn_18 laws_letters_13 laws_stack_14 now_cells_20 book_rows acts_size_3 acts_next_4 acts_rows_5 v1 v4
noncomputable def f_X11_years_43 (x_spiteNow : Int32) (told_gloves : Int32) (told_matters : Int32) (told_house : Nat → Int32) (told_after : Nat → Int32) (told_need : Nat → Int32) (laws_holds : Int32) (laws_lengths : Nat → Int32) (laws_c0 : Nat → Int32) (laws_c1 : Nat → Int32) (laws_c2 : Nat → Int32) (laws_c3 : Nat → Int32) : Nat → Int64 → (Nat → Int32) → (Nat → Int32) → (Nat → Int32) → (Nat → Int32) → Int32 → Int32 → (Nat → Int32) → Int32 → Int32 → Option (Int32 × Int64 × (Nat → Int32) × (Nat → Int32) × (Nat → Int32) × (Nat → Int32) × Int32 × Int32 × (Nat → Int32))
  | 0, _, _, _, _, _, _, _, _, _, _ => none
  | n + 1, x_drawn, laws_letters, laws_stack, now_cells, book_rows, acts_size, acts_next, acts_rows, v1, v4 => b_X11_years_43 x_spiteNow told_gloves told_matters told_house told_after told_need laws_holds laws_lengths laws_c0 laws_c1 laws_c2 laws_c3 (f_X11_years_43 x_spiteNow told_gloves told_matters told_house told_after told_need laws_holds laws_lengths laws_c0 laws_c1 laws_c2 laws_c3 n) x_drawn laws_letters laws_stack now_cells book_rows acts_size acts_next acts_rows v1 v4
noncomputable def b_X11_years_0 (x_spiteNow : Int32) (told_gloves : Int32) (told_matters : Int32) (told_house : Nat → Int32) (told_after : Nat → Int32) (told_need : Nat → Int32) (laws_holds : Int32) (laws_lengths : Nat → Int32) (laws_c0 : Nat → Int32) (laws_c1 : Nat → Int32) (laws_c2 : Nat → Int32) (laws_c3 : Nat → Int32) (x_drawn : Int64) (laws_letters : Nat → Int32) (laws_stack : Nat → Int32) (now_cells : Nat → Int32) (book_rows : Nat → Int32) (acts_size : Int32) (acts_next : Int32) (acts_rows : Nat → Int32) (v1 : Int32) (v2 : Int64) : Option (Int32 × Int64 × (Nat → Int32) × (Nat → Int32) × (Nat → Int32) × (Nat → Int32) × Int32 × Int32 × (Nat → Int32)) :=
  ob1 (f_X11_noPeace told_gloves) fun r_1 =>
  if r_1 = (0 : Int32) then
    if v1 < (1 : Int32) then
      some ((-1 : Int32), x_drawn, laws_letters, laws_stack, now_cells, book_rows, acts_size, acts_next, acts_rows)
    else
      if (60 : Int32) < v1 then
        some ((-1 : Int32), x_drawn, laws_letters, laws_stack, now_cells, book_rows, acts_size, acts_next, acts_rows)
      else
        ob1 (f_X9_day now_cells) fun r_3 =>
        if (r_3 + v1) ≤ (999 : Int32) then
          f_X11_years_43 x_spiteNow told_gloves told_matters told_house told_after told_need laws_holds laws_lengths laws_c0 laws_c1 laws_c2 laws_c3 fu v2 laws_letters laws_stack now_cells book_rows acts_size acts_next acts_rows v1 (0 : Int32)
        else
          some ((-1 : Int32), x_drawn, laws_letters, laws_stack, now_cells, book_rows, acts_size, acts_next, acts_rows)
  else
    some ((-1 : Int32), x_drawn, laws_letters, laws_stack, now_cells, book_rows, acts_size, acts_next, acts_rows)
noncomputable def f_X11_years (x_spiteNow : Int32) (told_gloves : Int32) (told_matters : Int32) (told_house : Nat → Int32) (told_after : Nat → Int32) (told_need : Nat → Int32) (laws_holds : Int32) (laws_lengths : Nat → Int32) (laws_c0 : Nat → Int32) (laws_c1 : Nat → Int32) (laws_c2 : Nat → Int32) (laws_c3 : Nat → Int32) (x_drawn : Int64) (laws_letters : Nat → Int32) (laws_stack : Nat → Int32) (now_cells : Nat → Int32) (book_rows : Nat → Int32) (acts_size : Int32) (acts_next : Int32) (acts_rows : Nat → Int32) (p1 : Int32) (p2 : Int64) : Option (Int32 × Int64 × (Nat → Int32) × (Nat → Int32) × (Nat → Int32) × (Nat → Int32) × Int32 × Int32 × (Nat → Int32)) := b_X11_years_0 x_spiteNow told_gloves told_matters told_house told_after told_need laws_holds laws_lengths laws_c0 laws_c1 laws_c2 laws_c3 x_drawn laws_letters laws_stack now_cells book_rows acts_size acts_next acts_rows p1 p2
noncomputable def b_X11_status_9 (x_refused : Nat → Int32) : Option (Int32) :=
  some (-1 : Int32)
noncomputable def b_X11_status_0 (x_refused : Nat → Int32) (v1 : Int32) : Option (Int32) :=
  if v1 < (0 : Int32) then
    b_X11_status_9 x_refused 
  else
    if v1 ≤ (4 : Int32) then
      gd (inB v1 5) <|
      some (x_refused v1.toNatClampNeg)
    else
      b_X11_status_9 x_refused 
noncomputable def f_X11_status (x_refused : Nat → Int32) (p1 : Int32) : Option (Int32) := b_X11_status_0 x_refused p1
noncomputable def b_X0_takeBack_0 (acts_rows : Nat → Int32) (S_cells : Nat → Int32) (acts_size : Int32) (acts_next : Int32) : Option ((Nat → Int32) × Int32 × Int32) :=
  bnd (rem ((acts_next + (40 : Int32)) - (1 : Int32)) (40 : Int32)) fun n_1 =>
  bnd (acts_size - (1 : Int32)) fun size_2 =>
  gd (spB (n_1 * (69 : Int32)) (69 : Int32) 2760) <|
  gd (spB (0 : Int32) (69 : Int32) 69) <|
  bnd (va_cpy acts_rows S_cells (n_1 * (69 : Int32)).toNatClampNeg (0 : Int32).toNatClampNeg (69 : Int32).toNatClampNeg) fun S_cells_5 =>
  some (S_cells_5, size_2, n_1)
noncomputable def f_X0_takeBack (acts_rows : Nat → Int32) (S_cells : Nat → Int32) (acts_size : Int32) (acts_next : Int32) : Option ((Nat → Int32) × Int32 × Int32) := b_X0_takeBack_0 acts_rows S_cells acts_size acts_next
noncomputable def b_X11_undo_0 (acts_rows : Nat → Int32) (now_cells : Nat → Int32) (acts_size : Int32) (acts_next : Int32) : Option (Int32 × (Nat → Int32) × Int32 × Int32) :=
  if acts_size = (0 : Int32) then
    some ((-1 : Int32), now_cells, acts_size, acts_next)
  else
    ob3 (f_X0_takeBack acts_rows now_cells acts_size acts_next) fun now_cells_1 acts_size_2 acts_next_3 =>
    some (acts_size_2, now_cells_1, acts_size_2, acts_next_3)
noncomputable def f_X11_undo (acts_rows : Nat → Int32) (now_cells : Nat → Int32) (acts_size : Int32) (acts_next : Int32) : Option (Int32 × (Nat → Int32) × Int32 × Int32) := b_X11_undo_0 acts_rows now_cells acts_size acts_next
noncomputable def b_X3_lengthOn_0 (v0 : Int32) : Option (Int32) :=
  bnd (mn (60 : Int32) v0) fun n_1 =>
  some n_1
noncomputable def f_X3_lengthOn (p1 : Int32) : Option (Int32) := b_X3_lengthOn_0  p1
noncomputable def b_X3_read_0 (B_rows : Nat → Int32) (v1 : Int32) (v2 : Int32) : Option (Int32) :=
  bnd (((v1 &&& (127 : Int32)) * (3 : Int32)) + v2) fun i_1 =>
  gd (inB i_1 384) <|
  some (B_rows i_1.toNatClampNeg)
noncomputable def f_X3_read (B_rows : Nat → Int32) (p1 : Int32) (p2 : Int32) : Option (Int32) := b_X3_read_0 B_rows p1 p2
noncomputable def b_X11_log_0 (now_cells : Nat → Int32) (book_rows : Nat → Int32) (v1 : Int32) (v2 : Int32) : Option (Int32) :=
  if v1 < (0 : Int32) then
    some (-1 : Int32)
  else
    ob1 (f_X9_day now_cells) fun r_1 =>
    ob1 (f_X3_lengthOn r_1) fun r_3 =>
    if r_3 ≤ v1 then
      some (-1 : Int32)
    else
      if v2 < (0 : Int32) then
        some (-1 : Int32)
      else
        if v2 ≤ (2 : Int32) then
          ob1 (f_X9_day now_cells) fun r_5 =>
          ob1 (f_X3_read book_rows ((r_5 - (1 : Int32)) - v1) v2) fun r_7 =>
          some r_7
        else
          some (-1 : Int32)
noncomputable def f_X11_log (now_cells : Nat → Int32) (book_rows : Nat → Int32) (p1 : Int32) (p2 : Int32) : Option (Int32) := b_X11_log_0 now_cells book_rows p1 p2
noncomputable def b_X9_riseOf_0 (told_after : Nat → Int32) (laws_holds : Int32) (laws_lengths : Nat → Int32) (laws_c0 : Nat → Int32) (laws_c1 : Nat → Int32) (laws_c2 : Nat → Int32) (laws_c3 : Nat → Int32) (S_cells : Nat → Int32) (laws_letters : Nat → Int32) (laws_stack : Nat → Int32) (v1 : Int32) (v2 : Int32) : Option (Int32 × (Nat → Int32) × (Nat → Int32)) :=
  ob1 (f_X9_warmthOf S_cells v1 v2) fun r_1 =>
  ob1 (f_X9_day S_cells) fun r_3 =>
  ob3 (f_X9_riseAt told_after laws_holds laws_lengths laws_c0 laws_c1 laws_c2 laws_c3 S_cells laws_letters laws_stack v1 v2 r_1 r_3) fun r_5 laws_letters_6 laws_stack_7 =>
  some (r_5, laws_letters_6, laws_stack_7)
noncomputable def f_X9_riseOf (told_after : Nat → Int32) (laws_holds : Int32) (laws_lengths : Nat → Int32) (laws_c0 : Nat → Int32) (laws_c1 : Nat → Int32) (laws_c2 : Nat → Int32) (laws_c3 : Nat → Int32) (S_cells : Nat → Int32) (laws_letters : Nat → Int32) (laws_stack : Nat → Int32) (p1 : Int32) (p2 : Int32) : Option (Int32 × (Nat → Int32) × (Nat → Int32)) := b_X9_riseOf_0 told_after laws_holds laws_lengths laws_c0 laws_c1 laws_c2 laws_c3 S_cells laws_letters laws_stack p1 p2
noncomputable def b_X11_rises_0 (told_gloves : Int32) (told_house : Nat → Int32) (told_after : Nat → Int32) (laws_holds : Int32) (laws_lengths : Nat → Int32) (laws_c0 : Nat → Int32) (laws_c1 : Nat → Int32) (laws_c2 : Nat → Int32) (laws_c3 : Nat → Int32) (now_cells : Nat → Int32) (laws_letters : Nat → Int32) (laws_stack : Nat → Int32) (v1 : Int32) (v2 : Int32) : Option (Int32 × (Nat → Int32) × (Nat → Int32)) :=
  ob1 (f_X5_unlike told_gloves told_house v1 v2) fun r_1 =>
  if r_1 = (0 : Int32) then
    some ((-1000000 : Int32), laws_letters, laws_stack)
  else
    ob3 (f_X9_riseOf told_after laws_holds laws_lengths laws_c0 laws_c1 laws_c2 laws_c3 now_cells laws_letters laws_stack v1 v2) fun r_3 laws_letters_4 laws_stack_5 =>
    some (r_3, laws_letters_4, laws_stack_5)
noncomputable def f_X11_rises (told_gloves : Int32) (told_house : Nat → Int32) (told_after : Nat → Int32) (laws_holds : Int32) (laws_lengths : Nat → Int32) (laws_c0 : Nat → Int32) (laws_c1 : Nat → Int32) (laws_c2 : Nat → Int32) (laws_c3 : Nat → Int32) (now_cells : Nat → Int32) (laws_letters : Nat → Int32) (laws_stack : Nat → Int32) (p1 : Int32) (p2 : Int32) : Option (Int32 × (Nat → Int32) × (Nat → Int32)) := b_X11_rises_0 told_gloves told_house told_after laws_holds laws_lengths laws_c0 laws_c1 laws_c2 laws_c3 now_cells laws_letters laws_stack p1 p2
noncomputable def b_X11_later_38 (told_gloves : Int32) (told_house : Nat → Int32) (told_after : Nat → Int32) (laws_holds : Int32) (laws_lengths : Nat → Int32) (laws_c0 : Nat → Int32) (laws_c1 : Nat → Int32) (laws_c2 : Nat → Int32) (laws_c3 : Nat → Int32) (now_cells : Nat → Int32) (k38 : (Nat → Int32) → (Nat → Int32) → Int32 → Int32 → Int32 → Int32 → Int32 → Option (Int32 × (Nat → Int32) × (Nat → Int32))) (laws_letters : Nat → Int32) (laws_stack : Nat → Int32) (v1 : Int32) (v2 : Int32) (v3 : Int32) (v4 : Int32) (v5 : Int32) : Option (Int32 × (Nat → Int32) × (Nat → Int32)) :=
  if v3 ≤ v5 then
    some (v4, laws_letters, laws_stack)
  else
    ob3 (f_X9_warmer told_after laws_holds laws_lengths laws_c0 laws_c1 laws_c2 laws_c3 now_cells laws_letters laws_stack v1 v2 v4 v5) fun r_1 laws_letters_2 laws_stack_3 =>
    bnd (v5 + (1 : Int32)) fun v5_5 =>
    k38 laws_letters_2 laws_stack_3 v1 v2 v3 r_1 v5_5
noncomputable def f_X11_later_38 (told_gloves : Int32) (told_house : Nat → Int32) (told_after : Nat → Int32) (laws_holds : Int32) (laws_lengths : Nat → Int32) (laws_c0 : Nat → Int32) (laws_c1 : Nat → Int32) (laws_c2 : Nat → Int32) (laws_c3 : Nat → Int32) (now_cells : Nat → Int32) : Nat → (Nat → Int32) → (Nat → Int32) → Int32 → Int32 → Int32 → Int32 → Int32 → Option (Int32 × (Nat → Int32) × (Nat → Int32))
  | 0, _, _, _, _, _, _, _ => none
  | n + 1, laws_letters, laws_stack, v1, v2, v3, v4, v5 => b_X11_later_38 told_gloves told_house told_after laws_holds laws_lengths laws_c0 laws_c1 laws_c2 laws_c3 now_cells (f_X11_later_38 told_gloves told_house told_after laws_holds laws_lengths laws_c0 laws_c1 laws_c2 laws_c3 now_cells n) laws_letters laws_stack v1 v2 v3 v4 v5
noncomputable def b_X11_later_0 (told_gloves : Int32) (told_house : Nat → Int32) (told_after : Nat → Int32) (laws_holds : Int32) (laws_lengths : Nat → Int32) (laws_c0 : Nat → Int32) (laws_c1 : Nat → Int32) (laws_c2 : Nat → Int32) (laws_c3 : Nat → Int32) (now_cells : Nat → Int32) (laws_letters : Nat → Int32) (laws_stack : Nat → Int32) (v1 : Int32) (v2 : Int32) (v3 : Int32) : Option (Int32 × (Nat → Int32) × (Nat → Int32)) :=
  ob1 (f_X5_unlike told_gloves told_house v1 v2) fun r_1 =>
  if r_1 = (0 : Int32) then
    some ((-1 : Int32), laws_letters, laws_stack)
  else
    if v3 < (0 : Int32) then
      some ((-1 : Int32), laws_letters, laws_stack)
    else
      if v3 ≤ (60 : Int32) then
        ob1 (f_X9_warmthOf now_cells v1 v2) fun r_3 =>
        f_X11_later_38 told_gloves told_house told_after laws_holds laws_lengths laws_c0 laws_c1 laws_c2 laws_c3 now_cells fu laws_letters laws_stack v1 v2 v3 r_3 (0 : Int32)
      else
        some ((-1 : Int32), laws_letters, laws_stack)
noncomputable def f_X11_later (told_gloves : Int32) (told_house : Nat → Int32) (told_after : Nat → Int32) (laws_holds : Int32) (laws_lengths : Nat → Int32) (laws_c0 : Nat → Int32) (laws_c1 : Nat → Int32) (laws_c2 : Nat → Int32) (laws_c3 : Nat → Int32) (now_cells : Nat → Int32) (laws_letters : Nat → Int32) (laws_stack : Nat → Int32) (p1 : Int32) (p2 : Int32) (p3 : Int32) : Option (Int32 × (Nat → Int32) × (Nat → Int32)) := b_X11_later_0 told_gloves told_house told_after laws_holds laws_lengths laws_c0 laws_c1 laws_c2 laws_c3 now_cells laws_letters laws_stack p1 p2 p3
noncomputable def b_X11_daysUntil_14 (told_after : Nat → Int32) (laws_holds : Int32) (laws_lengths : Nat → Int32) (laws_c0 : Nat → Int32) (laws_c1 : Nat → Int32) (laws_c2 : Nat → Int32) (laws_c3 : Nat → Int32) (now_cells : Nat → Int32) (k14 : (Nat → Int32) → (Nat → Int32) → Int32 → Int32 → Int32 → Int32 → Int32 → Option (Int32 × (Nat → Int32) × (Nat → Int32))) (laws_letters : Nat → Int32) (laws_stack : Nat → Int32) (v1 : Int32) (v2 : Int32) (v3 : Int32) (v4 : Int32) (v5 : Int32) : Option (Int32 × (Nat → Int32) × (Nat → Int32)) :=
  if (60 : Int32) < v5 then
    some ((61 : Int32), laws_letters, laws_stack)
  else
    if v4 < v3 then
      ob3 (f_X9_warmer told_after laws_holds laws_lengths laws_c0 laws_c1 laws_c2 laws_c3 now_cells laws_letters laws_stack v1 v2 v4 v5) fun r_1 laws_letters_2 laws_stack_3 =>
      bnd (v5 + (1 : Int32)) fun v5_5 =>
      k14 laws_letters_2 laws_stack_3 v1 v2 v3 r_1 v5_5
    else
      some (v5, laws_letters, laws_stack)
noncomputable def f_X11_daysUntil_14 (told_after : Nat → Int32) (laws_holds : Int32) (laws_lengths : Nat → Int32) (laws_c0 : Nat → Int32) (laws_c1 : Nat → Int32) (laws_c2 : Nat → Int32) (laws_c3 : Nat → Int32) (now_cells : Nat → Int32) : Nat → (Nat → Int32) → (Nat → Int32) → Int32 → Int32 → Int32 → Int32 → Int32 → Option (Int32 × (Nat → Int32) × (Nat → Int32))
  | 0, _, _, _, _, _, _, _ => none
  | n + 1, laws_letters, laws_stack, v1, v2, v3, v4, v5 => b_X11_daysUntil_14 told_after laws_holds laws_lengths laws_c0 laws_c1 laws_c2 laws_c3 now_cells (f_X11_daysUntil_14 told_after laws_holds laws_lengths laws_c0 laws_c1 laws_c2 laws_c3 now_cells n) laws_letters laws_stack v1 v2 v3 v4 v5
noncomputable def b_X11_daysUntil_0 (told_after : Nat → Int32) (laws_holds : Int32) (laws_lengths : Nat → Int32) (laws_c0 : Nat → Int32) (laws_c1 : Nat → Int32) (laws_c2 : Nat → Int32) (laws_c3 : Nat → Int32) (now_cells : Nat → Int32) (laws_letters : Nat → Int32) (laws_stack : Nat → Int32) (v1 : Int32) (v2 : Int32) (v3 : Int32) : Option (Int32 × (Nat → Int32) × (Nat → Int32)) :=
  ob1 (f_X9_warmthOf now_cells v1 v2) fun r_1 =>
  f_X11_daysUntil_14 told_after laws_holds laws_lengths laws_c0 laws_c1 laws_c2 laws_c3 now_cells fu laws_letters laws_stack v1 v2 v3 r_1 (0 : Int32)
noncomputable def f_X11_daysUntil (told_after : Nat → Int32) (laws_holds : Int32) (laws_lengths : Nat → Int32) (laws_c0 : Nat → Int32) (laws_c1 : Nat → Int32) (laws_c2 : Nat → Int32) (laws_c3 : Nat → Int32) (now_cells : Nat → Int32) (laws_letters : Nat → Int32) (laws_stack : Nat → Int32) (p1 : Int32) (p2 : Int32) (p3 : Int32) : Option (Int32 × (Nat → Int32) × (Nat → Int32)) := b_X11_daysUntil_0 told_after laws_holds laws_lengths laws_c0 laws_c1 laws_c2 laws_c3 now_cells laws_letters laws_stack p1 p2 p3
noncomputable def b_X11_soonest_119 (told_gloves : Int32) (told_matters : Int32) (told_house : Nat → Int32) (told_after : Nat → Int32) (told_need : Nat → Int32) (laws_holds : Int32) (laws_lengths : Nat → Int32) (laws_c0 : Nat → Int32) (laws_c1 : Nat → Int32) (laws_c2 : Nat → Int32) (laws_c3 : Nat → Int32) (now_cells : Nat → Int32) (k31 : (Nat → Int32) → (Nat → Int32) → Int32 → Int32 → Int32 → Int32 → Int32 → Option (Int32 × (Nat → Int32) × (Nat → Int32))) (k49 : (Nat → Int32) → (Nat → Int32) → Int32 → Int32 → Int32 → Int32 → Int32 → Int32 → Option (Int32 × (Nat → Int32) × (Nat → Int32))) (laws_letters : Nat → Int32) (laws_stack : Nat → Int32) (v1 : Int32) (v2 : Int32) (v3 : Int32) (v4 : Int32) (v5 : Int32) (v6 : Int32) : Option (Int32 × (Nat → Int32) × (Nat → Int32)) :=
  bnd (v6 + (1 : Int32)) fun v6_1 =>
  k49 laws_letters laws_stack v1 v2 v3 v4 v5 v6_1
noncomputable def b_X11_soonest_97 (told_gloves : Int32) (told_matters : Int32) (told_house : Nat → Int32) (told_after : Nat → Int32) (told_need : Nat → Int32) (laws_holds : Int32) (laws_lengths : Nat → Int32) (laws_c0 : Nat → Int32) (laws_c1 : Nat → Int32) (laws_c2 : Nat → Int32) (laws_c3 : Nat → Int32) (now_cells : Nat → Int32) (k31 : (Nat → Int32) → (Nat → Int32) → Int32 → Int32 → Int32 → Int32 → Int32 → Option (Int32 × (Nat → Int32) × (Nat → Int32))) (k49 : (Nat → Int32) → (Nat → Int32) → Int32 → Int32 → Int32 → Int32 → Int32 → Int32 → Option (Int32 × (Nat → Int32) × (Nat → Int32))) (laws_letters : Nat → Int32) (laws_stack : Nat → Int32) (v1 : Int32) (v2 : Int32) (v3 : Int32) (v4 : Int32) (v5 : Int32) (v6 : Int32) (t0 : Int32) : Option (Int32 × (Nat → Int32) × (Nat → Int32)) :=
  if v4 ≤ t0 then
    b_X11_soonest_119 told_gloves told_matters told_house told_after told_need laws_holds laws_lengths laws_c0 laws_c1 laws_c2 laws_c3 now_cells k31 k49 laws_letters laws_stack v1 v2 v3 v4 v5 v6
  else
    bnd (((10 : Int32) * v5) + v6) fun v3_1 =>
    b_X11_soonest_119 told_gloves told_matters told_house told_after told_need laws_holds laws_lengths laws_c0 laws_c1 laws_c2 laws_c3 now_cells k31 k49 laws_letters laws_stack v1 v2 v3_1 t0 v5 v6
noncomputable def b_X11_soonest_49 (told_gloves : Int32) (told_matters : Int32) (told_house : Nat → Int32) (told_after : Nat → Int32) (told_need : Nat → Int32) (laws_holds : Int32) (laws_lengths : Nat → Int32) (laws_c0 : Nat → Int32) (laws_c1 : Nat → Int32) (laws_c2 : Nat → Int32) (laws_c3 : Nat → Int32) (now_cells : Nat → Int32) (k31 : (Nat → Int32) → (Nat → Int32) → Int32 → Int32 → Int32 → Int32 → Int32 → Option (Int32 × (Nat → Int32) × (Nat → Int32))) (k49 : (Nat → Int32) → (Nat → Int32) → Int32 → Int32 → Int32 → Int32 → Int32 → Int32 → Option (Int32 × (Nat → Int32) × (Nat → Int32))) (laws_letters : Nat → Int32) (laws_stack : Nat → Int32) (v1 : Int32) (v2 : Int32) (v3 : Int32) (v4 : Int32) (v5 : Int32) (v6 : Int32) : Option (Int32 × (Nat → Int32) × (Nat → Int32)) :=
  if told_gloves ≤ v6 then
    bnd (v5 + (1 : Int32)) fun v5_1 =>
    k31 laws_letters laws_stack v1 v2 v3 v4 v5_1
  else
    ob1 (f_X5_unlike told_gloves told_house v5 v6) fun r_2 =>
    if r_2 = (0 : Int32) then
      b_X11_soonest_97 told_gloves told_matters told_house told_after told_need laws_holds laws_lengths laws_c0 laws_c1 laws_c2 laws_c3 now_cells k31 k49 laws_letters laws_stack v1 v2 v3 v4 v5 v6 v4
    else
      gd (inB v1 5) <|
      ob3 (f_X11_daysUntil told_after laws_holds laws_lengths laws_c0 laws_c1 laws_c2 laws_c3 now_cells laws_letters laws_stack v5 v6 (told_need v1.toNatClampNeg)) fun r_5 laws_letters_6 laws_stack_7 =>
      b_X11_soonest_97 told_gloves told_matters told_house told_after told_need laws_holds laws_lengths laws_c0 laws_c1 laws_c2 laws_c3 now_cells k31 k49 laws_letters_6 laws_stack_7 v1 v2 v3 v4 v5 v6 r_5
noncomputable def f_X11_soonest_49 (told_gloves : Int32) (told_matters : Int32) (told_house : Nat → Int32) (told_after : Nat → Int32) (told_need : Nat → Int32) (laws_holds : Int32) (laws_lengths : Nat → Int32) (laws_c0 : Nat → Int32) (laws_c1 : Nat → Int32) (laws_c2 : Nat → Int32) (laws_c3 : Nat → Int32) (now_cells : Nat → Int32) (k31 : (Nat → Int32) → (Nat → Int32) → Int32 → Int32 → Int32 → Int32 → Int32 → Option (Int32 × (Nat → Int32) × (Nat → Int32))) : Nat → (Nat → Int32) → (Nat → Int32) → Int32 → Int32 → Int32 → Int32 → Int32 → Int32 → Option (Int32 × (Nat → Int32) × (Nat → Int32))
  | 0, _, _, _, _, _, _, _, _ => none
  | n + 1, laws_letters, laws_stack, v1, v2, v3, v4, v5, v6 => b_X11_soonest_49 told_gloves told_matters told_house told_after told_need laws_holds laws_lengths laws_c0 laws_c1 laws_c2 laws_c3 now_cells k31 (f_X11_soonest_49 told_gloves told_matters told_house told_after told_need laws_holds laws_lengths laws_c0 laws_c1 laws_c2 laws_c3 now_cells k31 n) laws_letters laws_stack v1 v2 v3 v4 v5 v6
noncomputable def b_X11_soonest_140 (told_gloves : Int32) (told_matters : Int32) (told_house : Nat → Int32) (told_after : Nat → Int32) (told_need : Nat → Int32) (laws_holds : Int32) (laws_lengths : Nat → Int32) (laws_c0 : Nat → Int32) (laws_c1 : Nat → Int32) (laws_c2 : Nat → Int32) (laws_c3 : Nat → Int32) (now_cells : Nat → Int32) (laws_letters : Nat → Int32) (laws_stack : Nat → Int32) (v3 : Int32) : Option (Int32 × (Nat → Int32) × (Nat → Int32)) :=
  some (v3, laws_letters, laws_stack)
noncomputable def b_X11_soonest_31 (told_gloves : Int32) (told_matters : Int32) (told_house : Nat → Int32) (told_after : Nat → Int32) (told_need : Nat → Int32) (laws_holds : Int32) (laws_lengths : Nat → Int32) (laws_c0 : Nat → Int32) (laws_c1 : Nat → Int32) (laws_c2 : Nat → Int32) (laws_c3 : Nat → Int32) (now_cells : Nat → Int32) (k31 : (Nat → Int32) → (Nat → Int32) → Int32 → Int32 → Int32 → Int32 → Int32 → Option (Int32 × (Nat → Int32) × (Nat → Int32))) (laws_letters : Nat → Int32) (laws_stack : Nat → Int32) (v1 : Int32) (v2 : Int32) (v3 : Int32) (v4 : Int32) (v5 : Int32) : Option (Int32 × (Nat → Int32) × (Nat → Int32)) :=
  if told_gloves ≤ v5 then
    if v2 = (0 : Int32) then
      b_X11_soonest_140 told_gloves told_matters told_house told_after told_need laws_holds laws_lengths laws_c0 laws_c1 laws_c2 laws_c3 now_cells laws_letters laws_stack v3
    else
      if v3 = (-1 : Int32) then
        b_X11_soonest_140 told_gloves told_matters told_house told_after told_need laws_holds laws_lengths laws_c0 laws_c1 laws_c2 laws_c3 now_cells laws_letters laws_stack v3
      else
        some (v4, laws_letters, laws_stack)
  else
    bnd (v5 + (1 : Int32)) fun v6_1 =>
    f_X11_soonest_49 told_gloves told_matters told_house told_after told_need laws_holds laws_lengths laws_c0 laws_c1 laws_c2 laws_c3 now_cells k31 fu laws_letters laws_stack v1 v2 v3 v4 v5 v6_1
noncomputable def f_X11_soonest_31 (told_gloves : Int32) (told_matters : Int32) (told_house : Nat → Int32) (told_after : Nat → Int32) (told_need : Nat → Int32) (laws_holds : Int32) (laws_lengths : Nat → Int32) (laws_c0 : Nat → Int32) (laws_c1 : Nat → Int32) (laws_c2 : Nat → Int32) (laws_c3 : Nat → Int32) (now_cells : Nat → Int32) : Nat → (Nat → Int32) → (Nat → Int32) → Int32 → Int32 → Int32 → Int32 → Int32 → Option (Int32 × (Nat → Int32) × (Nat → Int32))
  | 0, _, _, _, _, _, _, _ => none
  | n + 1, laws_letters, laws_stack, v1, v2, v3, v4, v5 => b_X11_soonest_31 told_gloves told_matters told_house told_after told_need laws_holds laws_lengths laws_c0 laws_c1 laws_c2 laws_c3 now_cells (f_X11_soonest_31 told_gloves told_matters told_house told_after told_need laws_holds laws_lengths laws_c0 laws_c1 laws_c2 laws_c3 now_cells n) laws_letters laws_stack v1 v2 v3 v4 v5
noncomputable def b_X11_soonest_0 (told_gloves : Int32) (told_matters : Int32) (told_house : Nat → Int32) (told_after : Nat → Int32) (told_need : Nat → Int32) (laws_holds : Int32) (laws_lengths : Nat → Int32) (laws_c0 : Nat → Int32) (laws_c1 : Nat → Int32) (laws_c2 : Nat → Int32) (laws_c3 : Nat → Int32) (now_cells : Nat → Int32) (laws_letters : Nat → Int32) (laws_stack : Nat → Int32) (v1 : Int32) (v2 : Int32) : Option (Int32 × (Nat → Int32) × (Nat → Int32)) :=
  ob1 (f_X5_hasMatter told_matters v1) fun r_1 =>
  if r_1 = (0 : Int32) then
    some ((-1 : Int32), laws_letters, laws_stack)
  else
    if v2 < (0 : Int32) then
      some ((-1 : Int32), laws_letters, laws_stack)
    else
      if v2 ≤ (1 : Int32) then
        f_X11_soonest_31 told_gloves told_matters told_house told_after told_need laws_holds laws_lengths laws_c0 laws_c1 laws_c2 laws_c3 now_cells fu laws_letters laws_stack v1 v2 (-1 : Int32) (61 : Int32) (0 : Int32)
      else
        some ((-1 : Int32), laws_letters, laws_stack)
noncomputable def f_X11_soonest (told_gloves : Int32) (told_matters : Int32) (told_house : Nat → Int32) (told_after : Nat → Int32) (told_need : Nat → Int32) (laws_holds : Int32) (laws_lengths : Nat → Int32) (laws_c0 : Nat → Int32) (laws_c1 : Nat → Int32) (laws_c2 : Nat → Int32) (laws_c3 : Nat → Int32) (now_cells : Nat → Int32) (laws_letters : Nat → Int32) (laws_stack : Nat → Int32) (p1 : Int32) (p2 : Int32) : Option (Int32 × (Nat → Int32) × (Nat → Int32)) := b_X11_soonest_0 told_gloves told_matters told_house told_after told_need laws_holds laws_lengths laws_c0 laws_c1 laws_c2 laws_c3 now_cells laws_letters laws_stack p1 p2
noncomputable def b_X4_search_30 (F_X4_search : Int32 → (Nat → Int32) → Int32 → (Nat → Int32) → (Nat → Int32) → Int32 → Int32 → Int32 → Int32 → Int32 → Int32 → Int32 → Option (Int32 × Int32 × Int32)) (told_gloves : Int32) (told_house : Nat → Int32) (mt_size : Int32) (mt_unmet : Nat → Int32) (mt_rise : Nat → Int32) (mt_bestSum : Int32) (mt_bestRow : Int32) (mt_found : Int32) (v3 : Int32) (v4 : Int32) : Option (Int32 × Int32 × Int32) :=
  some (v4, v3, (1 : Int32))
noncomputable def b_X4_search_14 (F_X4_search : Int32 → (Nat → Int32) → Int32 → (Nat → Int32) → (Nat → Int32) → Int32 → Int32 → Int32 → Int32 → Int32 → Int32 → Int32 → Option (Int32 × Int32 × Int32)) (told_gloves : Int32) (told_house : Nat → Int32) (mt_size : Int32) (mt_unmet : Nat → Int32) (mt_rise : Nat → Int32) (mt_bestSum : Int32) (mt_bestRow : Int32) (mt_found : Int32) (v3 : Int32) (v4 : Int32) : Option (Int32 × Int32 × Int32) :=
  if mt_found = (0 : Int32) then
    b_X4_search_30 F_X4_search told_gloves told_house mt_size mt_unmet mt_rise mt_bestSum mt_bestRow mt_found v3 v4
  else
    if v4 ≤ mt_bestSum then
      some (mt_bestSum, mt_bestRow, mt_found)
    else
      b_X4_search_30 F_X4_search told_gloves told_house mt_size mt_unmet mt_rise mt_bestSum mt_bestRow mt_found v3 v4
noncomputable def b_X4_search_125 (F_X4_search : Int32 → (Nat → Int32) → Int32 → (Nat → Int32) → (Nat → Int32) → Int32 → Int32 → Int32 → Int32 → Int32 → Int32 → Int32 → Option (Int32 × Int32 × Int32)) (told_gloves : Int32) (told_house : Nat → Int32) (mt_size : Int32) (mt_unmet : Nat → Int32) (mt_rise : Nat → Int32) (k50 : Int32 → Int32 → Int32 → Int32 → Int32 → Int32 → Int32 → Int32 → Option (Int32 × Int32 × Int32)) (mt_bestSum : Int32) (mt_bestRow : Int32) (mt_found : Int32) (v1 : Int32) (v2 : Int32) (v3 : Int32) (v4 : Int32) (v5 : Int32) : Option (Int32 × Int32 × Int32) :=
  bnd (v5 + (1 : Int32)) fun v5_1 =>
  k50 mt_bestSum mt_bestRow mt_found v1 v2 v3 v4 v5_1
noncomputable def b_X4_search_50 (F_X4_search : Int32 → (Nat → Int32) → Int32 → (Nat → Int32) → (Nat → Int32) → Int32 → Int32 → Int32 → Int32 → Int32 → Int32 → Int32 → Option (Int32 × Int32 × Int32)) (told_gloves : Int32) (told_house : Nat → Int32) (mt_size : Int32) (mt_unmet : Nat → Int32) (mt_rise : Nat → Int32) (k50 : Int32 → Int32 → Int32 → Int32 → Int32 → Int32 → Int32 → Int32 → Option (Int32 × Int32 × Int32)) (mt_bestSum : Int32) (mt_bestRow : Int32) (mt_found : Int32) (v1 : Int32) (v2 : Int32) (v3 : Int32) (v4 : Int32) (v5 : Int32) : Option (Int32 × Int32 × Int32) :=
  if told_gloves ≤ v5 then
    ob3 (F_X4_search told_gloves told_house mt_size mt_unmet mt_rise mt_bestSum mt_bestRow mt_found (v1 + (1 : Int32)) v2 ((v3 * (10 : Int32)) + (9 : Int32)) v4) fun mt_bestSum_1 mt_bestRow_2 mt_found_3 =>
    some (mt_bestSum_1, mt_bestRow_2, mt_found_3)
  else
    gd (inB v5 6) <|
    if (told_house v5.toNatClampNeg) = (1 : Int32) then
      if ((v2 >>> (v5 &&& (31 : Int32))) &&& (1 : Int32)) = (0 : Int32) then
        gd (inB v1 6) <|
        bnd (((mt_unmet v1.toNatClampNeg) * (6 : Int32)) + v5) fun i_7 =>
        gd (inB i_7 36) <|
        ob3 (F_X4_search told_gloves told_house mt_size mt_unmet mt_rise mt_bestSum mt_bestRow mt_found (v1 + (1 : Int32)) (v2 ||| ((1 : Int32) <<< (v5 &&& (31 : Int32)))) ((v3 * (10 : Int32)) + v5) (v4 + (mt_rise i_7.toNatClampNeg))) fun mt_bestSum_9 mt_bestRow_10 mt_found_11 =>
        b_X4_search_125 F_X4_search told_gloves told_house mt_size mt_unmet mt_rise k50 mt_bestSum_9 mt_bestRow_10 mt_found_11 v1 v2 v3 v4 v5
      else
        b_X4_search_125 F_X4_search told_gloves told_house mt_size mt_unmet mt_rise k50 mt_bestSum mt_bestRow mt_found v1 v2 v3 v4 v5
    else
      b_X4_search_125 F_X4_search told_gloves told_house mt_size mt_unmet mt_rise k50 mt_bestSum mt_bestRow mt_found v1 v2 v3 v4 v5
noncomputable def f_X4_search_50 (F_X4_search : Int32 → (Nat → Int32) → Int32 → (Nat → Int32) → (Nat → Int32) → Int32 → Int32 → Int32 → Int32 → Int32 → Int32 → Int32 → Option (Int32 × Int32 × Int32)) (told_gloves : Int32) (told_house : Nat → Int32) (mt_size : Int32) (mt_unmet : Nat → Int32) (mt_rise : Nat → Int32) : Nat → Int32 → Int32 → Int32 → Int32 → Int32 → Int32 → Int32 → Int32 → Option (Int32 × Int32 × Int32)
  | 0, _, _, _, _, _, _, _, _ => none
  | n + 1, mt_bestSum, mt_bestRow, mt_found, v1, v2, v3, v4, v5 => b_X4_search_50 F_X4_search told_gloves told_house mt_size mt_unmet mt_rise (f_X4_search_50 F_X4_search told_gloves told_house mt_size mt_unmet mt_rise n) mt_bestSum mt_bestRow mt_found v1 v2 v3 v4 v5
noncomputable def b_X4_search_0 (F_X4_search : Int32 → (Nat → Int32) → Int32 → (Nat → Int32) → (Nat → Int32) → Int32 → Int32 → Int32 → Int32 → Int32 → Int32 → Int32 → Option (Int32 × Int32 × Int32)) (told_gloves : Int32) (told_house : Nat → Int32) (mt_size : Int32) (mt_unmet : Nat → Int32) (mt_rise : Nat → Int32) (mt_bestSum : Int32) (mt_bestRow : Int32) (mt_found : Int32) (v1 : Int32) (v2 : Int32) (v3 : Int32) (v4 : Int32) : Option (Int32 × Int32 × Int32) :=
  if mt_size ≤ v1 then
    b_X4_search_14 F_X4_search told_gloves told_house mt_size mt_unmet mt_rise mt_bestSum mt_bestRow mt_found v3 v4
  else
    if v1 < (6 : Int32) then
      f_X4_search_50 F_X4_search told_gloves told_house mt_size mt_unmet mt_rise fu mt_bestSum mt_bestRow mt_found v1 v2 v3 v4 (0 : Int32)
    else
      b_X4_search_14 F_X4_search told_gloves told_house mt_size mt_unmet mt_rise mt_bestSum mt_bestRow mt_found v3 v4
noncomputable def g_X4_search (F_X4_search : Int32 → (Nat → Int32) → Int32 → (Nat → Int32) → (Nat → Int32) → Int32 → Int32 → Int32 → Int32 → Int32 → Int32 → Int32 → Option (Int32 × Int32 × Int32)) (told_gloves : Int32) (told_house : Nat → Int32) (mt_size : Int32) (mt_unmet : Nat → Int32) (mt_rise : Nat → Int32) (mt_bestSum : Int32) (mt_bestRow : Int32) (mt_found : Int32) (p1 : Int32) (p2 : Int32) (p3 : Int32) (p4 : Int32) : Option (Int32 × Int32 × Int32) := b_X4_search_0 F_X4_search told_gloves told_house mt_size mt_unmet mt_rise mt_bestSum mt_bestRow mt_found p1 p2 p3 p4
noncomputable def rc_X4_search : Nat → Int32 → (Nat → Int32) → Int32 → (Nat → Int32) → (Nat → Int32) → Int32 → Int32 → Int32 → Int32 → Int32 → Int32 → Int32 → Option (Int32 × Int32 × Int32)
  | 0 => fun _ _ _ _ _ _ _ _ _ _ _ _ => none
  | d + 1 => g_X4_search (rc_X4_search d)
noncomputable def f_X4_search (d : Nat) : Int32 → (Nat → Int32) → Int32 → (Nat → Int32) → (Nat → Int32) → Int32 → Int32 → Int32 → Int32 → Int32 → Int32 → Int32 → Option (Int32 × Int32 × Int32) := (rc_X4_search d)
noncomputable def b_X4_solve_103 (told_gloves : Int32) (told_house : Nat → Int32) (told_after : Nat → Int32) (laws_holds : Int32) (laws_lengths : Nat → Int32) (laws_c0 : Nat → Int32) (laws_c1 : Nat → Int32) (laws_c2 : Nat → Int32) (laws_c3 : Nat → Int32) (S_cells : Nat → Int32) (k7 : (Nat → Int32) → (Nat → Int32) → Int32 → Int32 → Int32 → Int32 → (Nat → Int32) → (Nat → Int32) → Int32 → Option ((Nat → Int32) × (Nat → Int32) × Int32 × Int32 × Int32 × Int32 × (Nat → Int32) × (Nat → Int32))) (k60 : (Nat → Int32) → (Nat → Int32) → Int32 → Int32 → Int32 → Int32 → (Nat → Int32) → (Nat → Int32) → Int32 → Int32 → Option ((Nat → Int32) × (Nat → Int32) × Int32 × Int32 × Int32 × Int32 × (Nat → Int32) × (Nat → Int32))) (laws_letters : Nat → Int32) (laws_stack : Nat → Int32) (mt_size : Int32) (mt_bestSum : Int32) (mt_bestRow : Int32) (mt_found : Int32) (mt_unmet : Nat → Int32) (mt_rise : Nat → Int32) (v2 : Int32) (v3 : Int32) (t1 : Int32) (t2 : Int32) : Option ((Nat → Int32) × (Nat → Int32) × Int32 × Int32 × Int32 × Int32 × (Nat → Int32) × (Nat → Int32)) :=
  gd (inB t1 36) <|
  bnd (upd mt_rise t1.toNatClampNeg t2) fun mt_rise_2 =>
  bnd (v3 + (1 : Int32)) fun v3_3 =>
  k60 laws_letters laws_stack mt_size mt_bestSum mt_bestRow mt_found mt_unmet mt_rise_2 v2 v3_3
noncomputable def b_X4_solve_110 (told_gloves : Int32) (told_house : Nat → Int32) (told_after : Nat → Int32) (laws_holds : Int32) (laws_lengths : Nat → Int32) (laws_c0 : Nat → Int32) (laws_c1 : Nat → Int32) (laws_c2 : Nat → Int32) (laws_c3 : Nat → Int32) (S_cells : Nat → Int32) (k7 : (Nat → Int32) → (Nat → Int32) → Int32 → Int32 → Int32 → Int32 → (Nat → Int32) → (Nat → Int32) → Int32 → Option ((Nat → Int32) × (Nat → Int32) × Int32 × Int32 × Int32 × Int32 × (Nat → Int32) × (Nat → Int32))) (laws_letters : Nat → Int32) (laws_stack : Nat → Int32) (mt_size : Int32) (mt_bestSum : Int32) (mt_bestRow : Int32) (mt_found : Int32) (mt_unmet : Nat → Int32) (mt_rise : Nat → Int32) (v2 : Int32) : Option ((Nat → Int32) × (Nat → Int32) × Int32 × Int32 × Int32 × Int32 × (Nat → Int32) × (Nat → Int32)) :=
  bnd (v2 + (1 : Int32)) fun v2_1 =>
  k7 laws_letters laws_stack mt_size mt_bestSum mt_bestRow mt_found mt_unmet mt_rise v2_1
noncomputable def b_X4_solve_60 (told_gloves : Int32) (told_house : Nat → Int32) (told_after : Nat → Int32) (laws_holds : Int32) (laws_lengths : Nat → Int32) (laws_c0 : Nat → Int32) (laws_c1 : Nat → Int32) (laws_c2 : Nat → Int32) (laws_c3 : Nat → Int32) (S_cells : Nat → Int32) (k7 : (Nat → Int32) → (Nat → Int32) → Int32 → Int32 → Int32 → Int32 → (Nat → Int32) → (Nat → Int32) → Int32 → Option ((Nat → Int32) × (Nat → Int32) × Int32 × Int32 × Int32 × Int32 × (Nat → Int32) × (Nat → Int32))) (k60 : (Nat → Int32) → (Nat → Int32) → Int32 → Int32 → Int32 → Int32 → (Nat → Int32) → (Nat → Int32) → Int32 → Int32 → Option ((Nat → Int32) × (Nat → Int32) × Int32 × Int32 × Int32 × Int32 × (Nat → Int32) × (Nat → Int32))) (laws_letters : Nat → Int32) (laws_stack : Nat → Int32) (mt_size : Int32) (mt_bestSum : Int32) (mt_bestRow : Int32) (mt_found : Int32) (mt_unmet : Nat → Int32) (mt_rise : Nat → Int32) (v2 : Int32) (v3 : Int32) : Option ((Nat → Int32) × (Nat → Int32) × Int32 × Int32 × Int32 × Int32 × (Nat → Int32) × (Nat → Int32)) :=
  if told_gloves ≤ v3 then
    b_X4_solve_110 told_gloves told_house told_after laws_holds laws_lengths laws_c0 laws_c1 laws_c2 laws_c3 S_cells k7 laws_letters laws_stack mt_size mt_bestSum mt_bestRow mt_found mt_unmet mt_rise v2
  else
    ob1 (f_X5_unlike told_gloves told_house v2 v3) fun r_1 =>
    if r_1 = (0 : Int32) then
      b_X4_solve_103 told_gloves told_house told_after laws_holds laws_lengths laws_c0 laws_c1 laws_c2 laws_c3 S_cells k7 k60 laws_letters laws_stack mt_size mt_bestSum mt_bestRow mt_found mt_unmet mt_rise v2 v3 ((v2 * (6 : Int32)) + v3) (0 : Int32)
    else
      ob3 (f_X9_riseOf told_after laws_holds laws_lengths laws_c0 laws_c1 laws_c2 laws_c3 S_cells laws_letters laws_stack v2 v3) fun r_3 laws_letters_4 laws_stack_5 =>
      b_X4_solve_103 told_gloves told_house told_after laws_holds laws_lengths laws_c0 laws_c1 laws_c2 laws_c3 S_cells k7 k60 laws_letters_4 laws_stack_5 mt_size mt_bestSum mt_bestRow mt_found mt_unmet mt_rise v2 v3 ((v2 * (6 : Int32)) + v3) r_3
noncomputable def f_X4_solve_60 (told_gloves : Int32) (told_house : Nat → Int32) (told_after : Nat → Int32) (laws_holds : Int32) (laws_lengths : Nat → Int32) (laws_c0 : Nat → Int32) (laws_c1 : Nat → Int32) (laws_c2 : Nat → Int32) (laws_c3 : Nat → Int32) (S_cells : Nat → Int32) (k7 : (Nat → Int32) → (Nat → Int32) → Int32 → Int32 → Int32 → Int32 → (Nat → Int32) → (Nat → Int32) → Int32 → Option ((Nat → Int32) × (Nat → Int32) × Int32 × Int32 × Int32 × Int32 × (Nat → Int32) × (Nat → Int32))) : Nat → (Nat → Int32) → (Nat → Int32) → Int32 → Int32 → Int32 → Int32 → (Nat → Int32) → (Nat → Int32) → Int32 → Int32 → Option ((Nat → Int32) × (Nat → Int32) × Int32 × Int32 × Int32 × Int32 × (Nat → Int32) × (Nat → Int32))
  | 0, _, _, _, _, _, _, _, _, _, _ => none
  | n + 1, laws_letters, laws_stack, mt_size, mt_bestSum, mt_bestRow, mt_found, mt_unmet, mt_rise, v2, v3 => b_X4_solve_60 told_gloves told_house told_after laws_holds laws_lengths laws_c0 laws_c1 laws_c2 laws_c3 S_cells k7 (f_X4_solve_60 told_gloves told_house told_after laws_holds laws_lengths laws_c0 laws_c1 laws_c2 laws_c3 S_cells k7 n) laws_letters laws_stack mt_size mt_bestSum mt_bestRow mt_found mt_unmet mt_rise v2 v3
noncomputable def b_X4_solve_7 (told_gloves : Int32) (told_house : Nat → Int32) (told_after : Nat → Int32) (laws_holds : Int32) (laws_lengths : Nat → Int32) (laws_c0 : Nat → Int32) (laws_c1 : Nat → Int32) (laws_c2 : Nat → Int32) (laws_c3 : Nat → Int32) (S_cells : Nat → Int32) (k7 : (Nat → Int32) → (Nat → Int32) → Int32 → Int32 → Int32 → Int32 → (Nat → Int32) → (Nat → Int32) → Int32 → Option ((Nat → Int32) × (Nat → Int32) × Int32 × Int32 × Int32 × Int32 × (Nat → Int32) × (Nat → Int32))) (laws_letters : Nat → Int32) (laws_stack : Nat → Int32) (mt_size : Int32) (mt_bestSum : Int32) (mt_bestRow : Int32) (mt_found : Int32) (mt_unmet : Nat → Int32) (mt_rise : Nat → Int32) (v2 : Int32) : Option ((Nat → Int32) × (Nat → Int32) × Int32 × Int32 × Int32 × Int32 × (Nat → Int32) × (Nat → Int32)) :=
  if told_gloves ≤ v2 then
    ob1 (f_X9_metBits told_gloves S_cells) fun r_1 =>
    ob3 (f_X4_search 60 told_gloves told_house mt_size mt_unmet mt_rise mt_bestSum mt_bestRow (0 : Int32) (0 : Int32) r_1 (0 : Int32) (0 : Int32)) fun mt_bestSum_3 mt_bestRow_4 mt_found_5 =>
    some (laws_letters, laws_stack, mt_size, mt_bestSum_3, mt_bestRow_4, mt_found_5, mt_unmet, mt_rise)
  else
    gd (inB v2 6) <|
    if (told_house v2.toNatClampNeg) = (0 : Int32) then
      ob1 (f_X9_hasMet S_cells v2) fun r_8 =>
      if r_8 = (0 : Int32) then
        gd (inB mt_size 6) <|
        bnd (upd mt_unmet mt_size.toNatClampNeg v2) fun mt_unmet_11 =>
        bnd (mt_size + (1 : Int32)) fun size_12 =>
        f_X4_solve_60 told_gloves told_house told_after laws_holds laws_lengths laws_c0 laws_c1 laws_c2 laws_c3 S_cells k7 fu laws_letters laws_stack size_12 mt_bestSum mt_bestRow mt_found mt_unmet_11 mt_rise v2 (0 : Int32)
      else
        b_X4_solve_110 told_gloves told_house told_after laws_holds laws_lengths laws_c0 laws_c1 laws_c2 laws_c3 S_cells k7 laws_letters laws_stack mt_size mt_bestSum mt_bestRow mt_found mt_unmet mt_rise v2
    else
      b_X4_solve_110 told_gloves told_house told_after laws_holds laws_lengths laws_c0 laws_c1 laws_c2 laws_c3 S_cells k7 laws_letters laws_stack mt_size mt_bestSum mt_bestRow mt_found mt_unmet mt_rise v2
noncomputable def f_X4_solve_7 (told_gloves : Int32) (told_house : Nat → Int32) (told_after : Nat → Int32) (laws_holds : Int32) (laws_lengths : Nat → Int32) (laws_c0 : Nat → Int32) (laws_c1 : Nat → Int32) (laws_c2 : Nat → Int32) (laws_c3 : Nat → Int32) (S_cells : Nat → Int32) : Nat → (Nat → Int32) → (Nat → Int32) → Int32 → Int32 → Int32 → Int32 → (Nat → Int32) → (Nat → Int32) → Int32 → Option ((Nat → Int32) × (Nat → Int32) × Int32 × Int32 × Int32 × Int32 × (Nat → Int32) × (Nat → Int32))
  | 0, _, _, _, _, _, _, _, _, _ => none
  | n + 1, laws_letters, laws_stack, mt_size, mt_bestSum, mt_bestRow, mt_found, mt_unmet, mt_rise, v2 => b_X4_solve_7 told_gloves told_house told_after laws_holds laws_lengths laws_c0 laws_c1 laws_c2 laws_c3 S_cells (f_X4_solve_7 told_gloves told_house told_after laws_holds laws_lengths laws_c0 laws_c1 laws_c2 laws_c3 S_cells n) laws_letters laws_stack mt_size mt_bestSum mt_bestRow mt_found mt_unmet mt_rise v2
noncomputable def b_X4_solve_0 (told_gloves : Int32) (told_house : Nat → Int32) (told_after : Nat → Int32) (laws_holds : Int32) (laws_lengths : Nat → Int32) (laws_c0 : Nat → Int32) (laws_c1 : Nat → Int32) (laws_c2 : Nat → Int32) (laws_c3 : Nat → Int32) (S_cells : Nat → Int32) (laws_letters : Nat → Int32) (laws_stack : Nat → Int32) (mt_size : Int32) (mt_bestSum : Int32) (mt_bestRow : Int32) (mt_found : Int32) (mt_unmet : Nat → Int32) (mt_rise : Nat → Int32) : Option ((Nat → Int32) × (Nat → Int32) × Int32 × Int32 × Int32 × Int32 × (Nat → Int32) × (Nat → Int32)) :=
  f_X4_solve_7 told_gloves told_house told_after laws_holds laws_lengths laws_c0 laws_c1 laws_c2 laws_c3 S_cells fu laws_letters laws_stack (0 : Int32) mt_bestSum mt_bestRow mt_found mt_unmet mt_rise (0 : Int32)
noncomputable def f_X4_solve (told_gloves : Int32) (told_house : Nat → Int32) (told_after : Nat → Int32) (laws_holds : Int32) (laws_lengths : Nat → Int32) (laws_c0 : Nat → Int32) (laws_c1 : Nat → Int32) (laws_c2 : Nat → Int32) (laws_c3 : Nat → Int32) (S_cells : Nat → Int32) (laws_letters : Nat → Int32) (laws_stack : Nat → Int32) (mt_size : Int32) (mt_bestSum : Int32) (mt_bestRow : Int32) (mt_found : Int32) (mt_unmet : Nat → Int32) (mt_rise : Nat → Int32) : Option ((Nat → Int32) × (Nat → Int32) × Int32 × Int32 × Int32 × Int32 × (Nat → Int32) × (Nat → Int32)) := b_X4_solve_0 told_gloves told_house told_after laws_holds laws_lengths laws_c0 laws_c1 laws_c2 laws_c3 S_cells laws_letters laws_stack mt_size mt_bestSum mt_bestRow mt_found mt_unmet mt_rise
noncomputable def b_X11_pairs_16 (told_gloves : Int32) (told_house : Nat → Int32) (told_after : Nat → Int32) (laws_holds : Int32) (laws_lengths : Nat → Int32) (laws_c0 : Nat → Int32) (laws_c1 : Nat → Int32) (laws_c2 : Nat → Int32) (laws_c3 : Nat → Int32) (now_cells : Nat → Int32) (laws_letters : Nat → Int32) (laws_stack : Nat → Int32) (mt_size : Int32) (mt_bestSum : Int32) (mt_bestRow : Int32) (mt_found : Int32) (mt_unmet : Nat → Int32) (mt_rise : Nat → Int32) : Option (Int32 × (Nat → Int32) × (Nat → Int32) × Int32 × Int32 × Int32 × Int32 × (Nat → Int32) × (Nat → Int32)) :=
  some ((-1000000 : Int32), laws_letters, laws_stack, mt_size, mt_bestSum, mt_bestRow, mt_found, mt_unmet, mt_rise)
noncomputable def b_X11_pairs_0 (told_gloves : Int32) (told_house : Nat → Int32) (told_after : Nat → Int32) (laws_holds : Int32) (laws_lengths : Nat → Int32) (laws_c0 : Nat → Int32) (laws_c1 : Nat → Int32) (laws_c2 : Nat → Int32) (laws_c3 : Nat → Int32) (now_cells : Nat → Int32) (laws_letters : Nat → Int32) (laws_stack : Nat → Int32) (mt_size : Int32) (mt_bestSum : Int32) (mt_bestRow : Int32) (mt_found : Int32) (mt_unmet : Nat → Int32) (mt_rise : Nat → Int32) (v1 : Int32) : Option (Int32 × (Nat → Int32) × (Nat → Int32) × Int32 × Int32 × Int32 × Int32 × (Nat → Int32) × (Nat → Int32)) :=
  ob1 (f_X11_noPeace told_gloves) fun r_1 =>
  if r_1 = (0 : Int32) then
    if v1 < (0 : Int32) then
      b_X11_pairs_16 told_gloves told_house told_after laws_holds laws_lengths laws_c0 laws_c1 laws_c2 laws_c3 now_cells laws_letters laws_stack mt_size mt_bestSum mt_bestRow mt_found mt_unmet mt_rise
    else
      if v1 ≤ (1 : Int32) then
        ob8 (f_X4_solve told_gloves told_house told_after laws_holds laws_lengths laws_c0 laws_c1 laws_c2 laws_c3 now_cells laws_letters laws_stack mt_size mt_bestSum mt_bestRow mt_found mt_unmet mt_rise) fun laws_letters_3 laws_stack_4 mt_size_5 mt_bestSum_6 mt_bestRow_7 mt_found_8 mt_unmet_9 mt_rise_10 =>
        if v1 = (1 : Int32) then
          some (mt_bestSum_6, laws_letters_3, laws_stack_4, mt_size_5, mt_bestSum_6, mt_bestRow_7, mt_found_8, mt_unmet_9, mt_rise_10)
        else
          if mt_size_5 = (0 : Int32) then
            some ((-1 : Int32), laws_letters_3, laws_stack_4, mt_size_5, mt_bestSum_6, mt_bestRow_7, mt_found_8, mt_unmet_9, mt_rise_10)
          else
            some (mt_bestRow_7, laws_letters_3, laws_stack_4, mt_size_5, mt_bestSum_6, mt_bestRow_7, mt_found_8, mt_unmet_9, mt_rise_10)
      else
        b_X11_pairs_16 told_gloves told_house told_after laws_holds laws_lengths laws_c0 laws_c1 laws_c2 laws_c3 now_cells laws_letters laws_stack mt_size mt_bestSum mt_bestRow mt_found mt_unmet mt_rise
  else
    b_X11_pairs_16 told_gloves told_house told_after laws_holds laws_lengths laws_c0 laws_c1 laws_c2 laws_c3 now_cells laws_letters laws_stack mt_size mt_bestSum mt_bestRow mt_found mt_unmet mt_rise
noncomputable def f_X11_pairs (told_gloves : Int32) (told_house : Nat → Int32) (told_after : Nat → Int32) (laws_holds : Int32) (laws_lengths : Nat → Int32) (laws_c0 : Nat → Int32) (laws_c1 : Nat → Int32) (laws_c2 : Nat → Int32) (laws_c3 : Nat → Int32) (now_cells : Nat → Int32) (laws_letters : Nat → Int32) (laws_stack : Nat → Int32) (mt_size : Int32) (mt_bestSum : Int32) (mt_bestRow : Int32) (mt_found : Int32) (mt_unmet : Nat → Int32) (mt_rise : Nat → Int32) (p1 : Int32) : Option (Int32 × (Nat → Int32) × (Nat → Int32) × Int32 × Int32 × Int32 × Int32 × (Nat → Int32) × (Nat → Int32)) := b_X11_pairs_0 told_gloves told_house told_after laws_holds laws_lengths laws_c0 laws_c1 laws_c2 laws_c3 now_cells laws_letters laws_stack mt_size mt_bestSum mt_bestRow mt_found mt_unmet mt_rise p1
noncomputable def b_X9_copyFrom_0 (SO_cells : Nat → Int32) (S_cells : Nat → Int32) : Option ((Nat → Int32)) :=
  gd (spB (0 : Int32) (69 : Int32) 69) <|
  gd (spB (0 : Int32) (69 : Int32) 69) <|
  bnd (va_cpy SO_cells S_cells (0 : Int32).toNatClampNeg (0 : Int32).toNatClampNeg (69 : Int32).toNatClampNeg) fun S_cells_3 =>
  some S_cells_3
noncomputable def f_X9_copyFrom (SO_cells : Nat → Int32) (S_cells : Nat → Int32) : Option ((Nat → Int32)) := b_X9_copyFrom_0 SO_cells S_cells
noncomputable def b_X9_allKnown_2 (told_gloves : Int32) (S_cells : Nat → Int32) (k2 : Int32 → Option (Int32)) (v1 : Int32) : Option (Int32) :=
  if told_gloves ≤ v1 then
    some (1 : Int32)
  else
    ob1 (f_X9_knows S_cells v1) fun r_1 =>
    bnd (((1 : Int32) <<< (told_gloves &&& (31 : Int32))) - (1 : Int32)) fun n_3 =>
    if r_1 = n_3 then
      bnd (v1 + (1 : Int32)) fun v1_4 =>
      k2 v1_4
    else
      some (0 : Int32)
noncomputable def f_X9_allKnown_2 (told_gloves : Int32) (S_cells : Nat → Int32) : Nat → Int32 → Option (Int32)
  | 0, _ => none
  | n + 1, v1 => b_X9_allKnown_2 told_gloves S_cells (f_X9_allKnown_2 told_gloves S_cells n) v1
noncomputable def b_X9_allKnown_0 (told_gloves : Int32) (S_cells : Nat → Int32) : Option (Int32) :=
  f_X9_allKnown_2 told_gloves S_cells fu (0 : Int32)
noncomputable def f_X9_allKnown (told_gloves : Int32) (S_cells : Nat → Int32) : Option (Int32) := b_X9_allKnown_0 told_gloves S_cells 
noncomputable def b_X4_perform_50 (told_gloves : Int32) (told_matters : Int32) (told_house : Nat → Int32) (told_after : Nat → Int32) (told_need : Nat → Int32) (laws_holds : Int32) (laws_lengths : Nat → Int32) (laws_c0 : Nat → Int32) (laws_c1 : Nat → Int32) (laws_c2 : Nat → Int32) (laws_c3 : Nat → Int32) (mt_size : Int32) (mt_bestRow : Int32) (mt_unmet : Nat → Int32) (k12 : (Nat → Int32) → (Nat → Int32) → (Nat → Int32) → Int32 → Int32 → Option ((Nat → Int32) × (Nat → Int32) × (Nat → Int32))) (laws_letters : Nat → Int32) (laws_stack : Nat → Int32) (S_cells : Nat → Int32) (v2 : Int32) (v3 : Int32) : Option ((Nat → Int32) × (Nat → Int32) × (Nat → Int32)) :=
  bnd (v2 / (10 : Int32)) fun v2_1 =>
  bnd (v3 + (-1 : Int32)) fun v3_2 =>
  k12 laws_letters laws_stack S_cells v2_1 v3_2
noncomputable def b_X4_perform_12 (told_gloves : Int32) (told_matters : Int32) (told_house : Nat → Int32) (told_after : Nat → Int32) (told_need : Nat → Int32) (laws_holds : Int32) (laws_lengths : Nat → Int32) (laws_c0 : Nat → Int32) (laws_c1 : Nat → Int32) (laws_c2 : Nat → Int32) (laws_c3 : Nat → Int32) (mt_size : Int32) (mt_bestRow : Int32) (mt_unmet : Nat → Int32) (k12 : (Nat → Int32) → (Nat → Int32) → (Nat → Int32) → Int32 → Int32 → Option ((Nat → Int32) × (Nat → Int32) × (Nat → Int32))) (laws_letters : Nat → Int32) (laws_stack : Nat → Int32) (S_cells : Nat → Int32) (v2 : Int32) (v3 : Int32) : Option ((Nat → Int32) × (Nat → Int32) × (Nat → Int32)) :=
  if v3 < (0 : Int32) then
    some (laws_letters, laws_stack, S_cells)
  else
    gd (inB v3 6) <|
    bnd (rem v2 (10 : Int32)) fun n_2 =>
    ob1 (f_X5_unlike told_gloves told_house (mt_unmet v3.toNatClampNeg) n_2) fun r_3 =>
    if r_3 = (0 : Int32) then
      b_X4_perform_50 told_gloves told_matters told_house told_after told_need laws_holds laws_lengths laws_c0 laws_c1 laws_c2 laws_c3 mt_size mt_bestRow mt_unmet k12 laws_letters laws_stack S_cells v2 v3
    else
      gd (inB v3 6) <|
      bnd (rem v2 (10 : Int32)) fun n_6 =>
      ob3 (f_X9_meet told_matters told_after told_need laws_holds laws_lengths laws_c0 laws_c1 laws_c2 laws_c3 laws_letters laws_stack S_cells (mt_unmet v3.toNatClampNeg) n_6) fun laws_letters_7 laws_stack_8 S_cells_9 =>
      b_X4_perform_50 told_gloves told_matters told_house told_after told_need laws_holds laws_lengths laws_c0 laws_c1 laws_c2 laws_c3 mt_size mt_bestRow mt_unmet k12 laws_letters_7 laws_stack_8 S_cells_9 v2 v3
noncomputable def f_X4_perform_12 (told_gloves : Int32) (told_matters : Int32) (told_house : Nat → Int32) (told_after : Nat → Int32) (told_need : Nat → Int32) (laws_holds : Int32) (laws_lengths : Nat → Int32) (laws_c0 : Nat → Int32) (laws_c1 : Nat → Int32) (laws_c2 : Nat → Int32) (laws_c3 : Nat → Int32) (mt_size : Int32) (mt_bestRow : Int32) (mt_unmet : Nat → Int32) : Nat → (Nat → Int32) → (Nat → Int32) → (Nat → Int32) → Int32 → Int32 → Option ((Nat → Int32) × (Nat → Int32) × (Nat → Int32))
  | 0, _, _, _, _, _ => none
  | n + 1, laws_letters, laws_stack, S_cells, v2, v3 => b_X4_perform_12 told_gloves told_matters told_house told_after told_need laws_holds laws_lengths laws_c0 laws_c1 laws_c2 laws_c3 mt_size mt_bestRow mt_unmet (f_X4_perform_12 told_gloves told_matters told_house told_after told_need laws_holds laws_lengths laws_c0 laws_c1 laws_c2 laws_c3 mt_size mt_bestRow mt_unmet n) laws_letters laws_stack S_cells v2 v3
noncomputable def b_X4_perform_0 (told_gloves : Int32) (told_matters : Int32) (told_house : Nat → Int32) (told_after : Nat → Int32) (told_need : Nat → Int32) (laws_holds : Int32) (laws_lengths : Nat → Int32) (laws_c0 : Nat → Int32) (laws_c1 : Nat → Int32) (laws_c2 : Nat → Int32) (laws_c3 : Nat → Int32) (mt_size : Int32) (mt_bestRow : Int32) (mt_unmet : Nat → Int32) (laws_letters : Nat → Int32) (laws_stack : Nat → Int32) (S_cells : Nat → Int32) : Option ((Nat → Int32) × (Nat → Int32) × (Nat → Int32)) :=
  bnd (mt_size - (1 : Int32)) fun v3_1 =>
  f_X4_perform_12 told_gloves told_matters told_house told_after told_need laws_holds laws_lengths laws_c0 laws_c1 laws_c2 laws_c3 mt_size mt_bestRow mt_unmet fu laws_letters laws_stack S_cells mt_bestRow v3_1
noncomputable def f_X4_perform (told_gloves : Int32) (told_matters : Int32) (told_house : Nat → Int32) (told_after : Nat → Int32) (told_need : Nat → Int32) (laws_holds : Int32) (laws_lengths : Nat → Int32) (laws_c0 : Nat → Int32) (laws_c1 : Nat → Int32) (laws_c2 : Nat → Int32) (laws_c3 : Nat → Int32) (mt_size : Int32) (mt_bestRow : Int32) (mt_unmet : Nat → Int32) (laws_letters : Nat → Int32) (laws_stack : Nat → Int32) (S_cells : Nat → Int32) : Option ((Nat → Int32) × (Nat → Int32) × (Nat → Int32)) := b_X4_perform_0 told_gloves told_matters told_house told_after told_need laws_holds laws_lengths laws_c0 laws_c1 laws_c2 laws_c3 mt_size mt_bestRow mt_unmet laws_letters laws_stack S_cells
noncomputable def b_X11_allKnow_89 (told_gloves : Int32) (told_matters : Int32) (told_house : Nat → Int32) (told_after : Nat → Int32) (told_need : Nat → Int32) (laws_holds : Int32) (laws_lengths : Nat → Int32) (laws_c0 : Nat → Int32) (laws_c1 : Nat → Int32) (laws_c2 : Nat → Int32) (laws_c3 : Nat → Int32) (now_cells : Nat → Int32) (k22 : (Nat → Int32) → (Nat → Int32) → (Nat → Int32) → Int32 → Int32 → Int32 → Int32 → (Nat → Int32) → (Nat → Int32) → Int32 → Option (Int32 × (Nat → Int32) × (Nat → Int32) × (Nat → Int32) × Int32 × Int32 × Int32 × Int32 × (Nat → Int32) × (Nat → Int32))) (laws_letters : Nat → Int32) (laws_stack : Nat → Int32) (apart_cells : Nat → Int32) (mt_size : Int32) (mt_bestSum : Int32) (mt_bestRow : Int32) (mt_found : Int32) (mt_unmet : Nat → Int32) (mt_rise : Nat → Int32) (v1 : Int32) : Option (Int32 × (Nat → Int32) × (Nat → Int32) × (Nat → Int32) × Int32 × Int32 × Int32 × Int32 × (Nat → Int32) × (Nat → Int32)) :=
  bnd (v1 + (1 : Int32)) fun v1_1 =>
  k22 laws_letters laws_stack apart_cells mt_size mt_bestSum mt_bestRow mt_found mt_unmet mt_rise v1_1
noncomputable def b_X11_allKnow_22 (told_gloves : Int32) (told_matters : Int32) (told_house : Nat → Int32) (told_after : Nat → Int32) (told_need : Nat → Int32) (laws_holds : Int32) (laws_lengths : Nat → Int32) (laws_c0 : Nat → Int32) (laws_c1 : Nat → Int32) (laws_c2 : Nat → Int32) (laws_c3 : Nat → Int32) (now_cells : Nat → Int32) (k22 : (Nat → Int32) → (Nat → Int32) → (Nat → Int32) → Int32 → Int32 → Int32 → Int32 → (Nat → Int32) → (Nat → Int32) → Int32 → Option (Int32 × (Nat → Int32) × (Nat → Int32) × (Nat → Int32) × Int32 × Int32 × Int32 × Int32 × (Nat → Int32) × (Nat → Int32))) (laws_letters : Nat → Int32) (laws_stack : Nat → Int32) (apart_cells : Nat → Int32) (mt_size : Int32) (mt_bestSum : Int32) (mt_bestRow : Int32) (mt_found : Int32) (mt_unmet : Nat → Int32) (mt_rise : Nat → Int32) (v1 : Int32) : Option (Int32 × (Nat → Int32) × (Nat → Int32) × (Nat → Int32) × Int32 × Int32 × Int32 × Int32 × (Nat → Int32) × (Nat → Int32)) :=
  if (30 : Int32) < v1 then
    some ((-1 : Int32), laws_letters, laws_stack, apart_cells, mt_size, mt_bestSum, mt_bestRow, mt_found, mt_unmet, mt_rise)
  else
    ob1 (f_X9_allKnown told_gloves apart_cells) fun r_1 =>
    if r_1 = (0 : Int32) then
      ob8 (f_X4_solve told_gloves told_house told_after laws_holds laws_lengths laws_c0 laws_c1 laws_c2 laws_c3 apart_cells laws_letters laws_stack mt_size mt_bestSum mt_bestRow mt_found mt_unmet mt_rise) fun laws_letters_3 laws_stack_4 mt_size_5 mt_bestSum_6 mt_bestRow_7 mt_found_8 mt_unmet_9 mt_rise_10 =>
      ob3 (f_X4_perform told_gloves told_matters told_house told_after told_need laws_holds laws_lengths laws_c0 laws_c1 laws_c2 laws_c3 mt_size_5 mt_bestRow_7 mt_unmet_9 laws_letters_3 laws_stack_4 apart_cells) fun laws_letters_12 laws_stack_13 apart_cells_14 =>
      ob1 (f_X9_day apart_cells_14) fun r_16 =>
      if (999 : Int32) ≤ r_16 then
        b_X11_allKnow_89 told_gloves told_matters told_house told_after told_need laws_holds laws_lengths laws_c0 laws_c1 laws_c2 laws_c3 now_cells k22 laws_letters_12 laws_stack_13 apart_cells_14 mt_size_5 mt_bestSum_6 mt_bestRow_7 mt_found_8 mt_unmet_9 mt_rise_10 v1
      else
        ob1 (f_X9_cool told_gloves apart_cells_14) fun apart_cells_18 =>
        ob1 (f_X9_dawn apart_cells_18) fun apart_cells_20 =>
        b_X11_allKnow_89 told_gloves told_matters told_house told_after told_need laws_holds laws_lengths laws_c0 laws_c1 laws_c2 laws_c3 now_cells k22 laws_letters_12 laws_stack_13 apart_cells_20 mt_size_5 mt_bestSum_6 mt_bestRow_7 mt_found_8 mt_unmet_9 mt_rise_10 v1
    else
      some (v1, laws_letters, laws_stack, apart_cells, mt_size, mt_bestSum, mt_bestRow, mt_found, mt_unmet, mt_rise)
noncomputable def f_X11_allKnow_22 (told_gloves : Int32) (told_matters : Int32) (told_house : Nat → Int32) (told_after : Nat → Int32) (told_need : Nat → Int32) (laws_holds : Int32) (laws_lengths : Nat → Int32) (laws_c0 : Nat → Int32) (laws_c1 : Nat → Int32) (laws_c2 : Nat → Int32) (laws_c3 : Nat → Int32) (now_cells : Nat → Int32) : Nat → (Nat → Int32) → (Nat → Int32) → (Nat → Int32) → Int32 → Int32 → Int32 → Int32 → (Nat → Int32) → (Nat → Int32) → Int32 → Option (Int32 × (Nat → Int32) × (Nat → Int32) × (Nat → Int32) × Int32 × Int32 × Int32 × Int32 × (Nat → Int32) × (Nat → Int32))
  | 0, _, _, _, _, _, _, _, _, _, _ => none
  | n + 1, laws_letters, laws_stack, apart_cells, mt_size, mt_bestSum, mt_bestRow, mt_found, mt_unmet, mt_rise, v1 => b_X11_allKnow_22 told_gloves told_matters told_house told_after told_need laws_holds laws_lengths laws_c0 laws_c1 laws_c2 laws_c3 now_cells (f_X11_allKnow_22 told_gloves told_matters told_house told_after told_need laws_holds laws_lengths laws_c0 laws_c1 laws_c2 laws_c3 now_cells n) laws_letters laws_stack apart_cells mt_size mt_bestSum mt_bestRow mt_found mt_unmet mt_rise v1
noncomputable def b_X11_allKnow_0 (told_gloves : Int32) (told_matters : Int32) (told_house : Nat → Int32) (told_after : Nat → Int32) (told_need : Nat → Int32) (laws_holds : Int32) (laws_lengths : Nat → Int32) (laws_c0 : Nat → Int32) (laws_c1 : Nat → Int32) (laws_c2 : Nat → Int32) (laws_c3 : Nat → Int32) (now_cells : Nat → Int32) (laws_letters : Nat → Int32) (laws_stack : Nat → Int32) (apart_cells : Nat → Int32) (mt_size : Int32) (mt_bestSum : Int32) (mt_bestRow : Int32) (mt_found : Int32) (mt_unmet : Nat → Int32) (mt_rise : Nat → Int32) : Option (Int32 × (Nat → Int32) × (Nat → Int32) × (Nat → Int32) × Int32 × Int32 × Int32 × Int32 × (Nat → Int32) × (Nat → Int32)) :=
  ob1 (f_X11_noPeace told_gloves) fun r_1 =>
  if r_1 = (0 : Int32) then
    ob1 (f_X9_copyFrom now_cells apart_cells) fun apart_cells_3 =>
    f_X11_allKnow_22 told_gloves told_matters told_house told_after told_need laws_holds laws_lengths laws_c0 laws_c1 laws_c2 laws_c3 now_cells fu laws_letters laws_stack apart_cells_3 mt_size mt_bestSum mt_bestRow mt_found mt_unmet mt_rise (0 : Int32)
  else
    some ((-1 : Int32), laws_letters, laws_stack, apart_cells, mt_size, mt_bestSum, mt_bestRow, mt_found, mt_unmet, mt_rise)
noncomputable def f_X11_allKnow (told_gloves : Int32) (told_matters : Int32) (told_house : Nat → Int32) (told_after : Nat → Int32) (told_need : Nat → Int32) (laws_holds : Int32) (laws_lengths : Nat → Int32) (laws_c0 : Nat → Int32) (laws_c1 : Nat → Int32) (laws_c2 : Nat → Int32) (laws_c3 : Nat → Int32) (now_cells : Nat → Int32) (laws_letters : Nat → Int32) (laws_stack : Nat → Int32) (apart_cells : Nat → Int32) (mt_size : Int32) (mt_bestSum : Int32) (mt_bestRow : Int32) (mt_found : Int32) (mt_unmet : Nat → Int32) (mt_rise : Nat → Int32) : Option (Int32 × (Nat → Int32) × (Nat → Int32) × (Nat → Int32) × Int32 × Int32 × Int32 × Int32 × (Nat → Int32) × (Nat → Int32)) := b_X11_allKnow_0 told_gloves told_matters told_house told_after told_need laws_holds laws_lengths laws_c0 laws_c1 laws_c2 laws_c3 now_cells laws_letters laws_stack apart_cells mt_size mt_bestSum mt_bestRow mt_found mt_unmet mt_rise
noncomputable def b_X11_isNoRise_12  : Option (Int32) :=
  some (1 : Int32)
noncomputable def b_X11_isNoRise_0 (v0 : Int32) : Option (Int32) :=
  if v0 < (-9 : Int32) then
    b_X11_isNoRise_12 
  else
    if v0 ≤ (9 : Int32) then
      some (0 : Int32)
    else
      b_X11_isNoRise_12 
noncomputable def f_X11_isNoRise (p1 : Int32) : Option (Int32) := b_X11_isNoRise_0  p1
noncomputable def b_X8_isFull_0 (sg_size : Int32) : Option (Int32) :=
  if sg_size < (10 : Int32) then
    some (0 : Int32)
  else
    some (1 : Int32)
noncomputable def f_X8_isFull (sg_size : Int32) : Option (Int32) := b_X8_isFull_0 sg_size 
noncomputable def b_X8_add_0 (sg_size : Int32) (sg_ones : Nat → Int32) (sg_others : Nat → Int32) (sg_bounds : Nat → Int32) (sg_reached : Nat → Int32) (v1 : Int32) (v2 : Int32) (v3 : Int32) (v4 : Int32) : Option (Int32 × (Nat → Int32) × (Nat → Int32) × (Nat → Int32) × (Nat → Int32)) :=
  gd (inB sg_size 10) <|
  bnd (upd sg_ones sg_size.toNatClampNeg v1) fun sg_ones_2 =>
  gd (inB sg_size 10) <|
  bnd (upd sg_others sg_size.toNatClampNeg v2) fun sg_others_4 =>
  gd (inB sg_size 10) <|
  bnd (upd sg_bounds sg_size.toNatClampNeg v3) fun sg_bounds_6 =>
  gd (inB sg_size 10) <|
  bnd (upd sg_reached sg_size.toNatClampNeg (vp_nar .boolean v4)) fun sg_reached_8 =>
  bnd (sg_size + (1 : Int32)) fun size_9 =>
  some (size_9, sg_ones_2, sg_others_4, sg_bounds_6, sg_reached_8)
noncomputable def f_X8_add (sg_size : Int32) (sg_ones : Nat → Int32) (sg_others : Nat → Int32) (sg_bounds : Nat → Int32) (sg_reached : Nat → Int32) (p1 : Int32) (p2 : Int32) (p3 : Int32) (p4 : Int32) : Option (Int32 × (Nat → Int32) × (Nat → Int32) × (Nat → Int32) × (Nat → Int32)) := b_X8_add_0  sg_size sg_ones sg_others sg_bounds sg_reached p1 p2 p3 p4
noncomputable def b_X11_seen_0 (told_gloves : Int32) (told_house : Nat → Int32) (sg_size : Int32) (sg_ones : Nat → Int32) (sg_others : Nat → Int32) (sg_bounds : Nat → Int32) (sg_reached : Nat → Int32) (v1 : Int32) (v2 : Int32) (v3 : Int32) (v4 : Int32) : Option (Int32 × Int32 × (Nat → Int32) × (Nat → Int32) × (Nat → Int32) × (Nat → Int32)) :=
  ob1 (f_X5_unlike told_gloves told_house v1 v2) fun r_1 =>
  if r_1 = (0 : Int32) then
    some ((-1 : Int32), sg_size, sg_ones, sg_others, sg_bounds, sg_reached)
  else
    ob1 (f_X11_isNoRise v3) fun r_3 =>
    if r_3 = (0 : Int32) then
      ob1 (f_X8_isFull sg_size) fun r_5 =>
      if r_5 = (0 : Int32) then
        ob5 (f_X8_add sg_size sg_ones sg_others sg_bounds sg_reached v1 v2 v3 v4) fun sg_size_7 sg_ones_8 sg_others_9 sg_bounds_10 sg_reached_11 =>
        some (sg_size_7, sg_size_7, sg_ones_8, sg_others_9, sg_bounds_10, sg_reached_11)
      else
        some ((-1 : Int32), sg_size, sg_ones, sg_others, sg_bounds, sg_reached)
    else
      some ((-1 : Int32), sg_size, sg_ones, sg_others, sg_bounds, sg_reached)
noncomputable def f_X11_seen (told_gloves : Int32) (told_house : Nat → Int32) (sg_size : Int32) (sg_ones : Nat → Int32) (sg_others : Nat → Int32) (sg_bounds : Nat → Int32) (sg_reached : Nat → Int32) (p1 : Int32) (p2 : Int32) (p3 : Int32) (p4 : Int32) : Option (Int32 × Int32 × (Nat → Int32) × (Nat → Int32) × (Nat → Int32) × (Nat → Int32)) := b_X11_seen_0 told_gloves told_house sg_size sg_ones sg_others sg_bounds sg_reached p1 p2 p3 p4
noncomputable def b_X8_reaches_0 (told_pride : Int32) (told_free : Nat → Int32) (told_stuffed : Nat → Int32) (told_after : Nat → Int32) (laws_holds : Int32) (laws_lengths : Nat → Int32) (laws_c0 : Nat → Int32) (laws_c1 : Nat → Int32) (laws_c2 : Nat → Int32) (laws_c3 : Nat → Int32) (laws_letters : Nat → Int32) (laws_stack : Nat → Int32) (v1 : Int32) (v2 : Int32) (v3 : Int32) (v4 : Int32) : Option (Int32 × (Nat → Int32) × (Nat → Int32)) :=
  gd (inB v3 6) <|
  gd (inB v1 6) <|
  gd (inB v3 6) <|
  bnd ((told_stuffed v1.toNatClampNeg) + (told_stuffed v3.toNatClampNeg)) fun n_4 =>
  ob1 (f_X5_sameAim told_after v1 v3) fun r_5 =>
  ob3 (f_X2_riseBy laws_holds laws_lengths laws_c0 laws_c1 laws_c2 laws_c3 laws_letters laws_stack (v2 + (told_free v3.toNatClampNeg)) n_4 (0 : Int32) r_5 told_pride (0 : Int32)) fun r_7 laws_letters_8 laws_stack_9 =>
  if r_7 < v4 then
    some ((0 : Int32), laws_letters_8, laws_stack_9)
  else
    some ((1 : Int32), laws_letters_8, laws_stack_9)
noncomputable def f_X8_reaches (told_pride : Int32) (told_free : Nat → Int32) (told_stuffed : Nat → Int32) (told_after : Nat → Int32) (laws_holds : Int32) (laws_lengths : Nat → Int32) (laws_c0 : Nat → Int32) (laws_c1 : Nat → Int32) (laws_c2 : Nat → Int32) (laws_c3 : Nat → Int32) (laws_letters : Nat → Int32) (laws_stack : Nat → Int32) (p1 : Int32) (p2 : Int32) (p3 : Int32) (p4 : Int32) : Option (Int32 × (Nat → Int32) × (Nat → Int32)) := b_X8_reaches_0 told_pride told_free told_stuffed told_after laws_holds laws_lengths laws_c0 laws_c1 laws_c2 laws_c3 laws_letters laws_stack p1 p2 p3 p4
noncomputable def b_X8_allow_82 (told_pride : Int32) (told_free : Nat → Int32) (told_stuffed : Nat → Int32) (told_after : Nat → Int32) (laws_holds : Int32) (laws_lengths : Nat → Int32) (laws_c0 : Nat → Int32) (laws_c1 : Nat → Int32) (laws_c2 : Nat → Int32) (laws_c3 : Nat → Int32) (sg_size : Int32) (sg_ones : Nat → Int32) (sg_others : Nat → Int32) (sg_bounds : Nat → Int32) (sg_reached : Nat → Int32) (k2 : (Nat → Int32) → (Nat → Int32) → Int32 → Int32 → Int32 → Option (Int32 × (Nat → Int32) × (Nat → Int32))) (laws_letters : Nat → Int32) (laws_stack : Nat → Int32) (v1 : Int32) (v2 : Int32) (v3 : Int32) : Option (Int32 × (Nat → Int32) × (Nat → Int32)) :=
  bnd (v3 + (1 : Int32)) fun v3_1 =>
  k2 laws_letters laws_stack v1 v2 v3_1
noncomputable def b_X8_allow_55 (told_pride : Int32) (told_free : Nat → Int32) (told_stuffed : Nat → Int32) (told_after : Nat → Int32) (laws_holds : Int32) (laws_lengths : Nat → Int32) (laws_c0 : Nat → Int32) (laws_c1 : Nat → Int32) (laws_c2 : Nat → Int32) (laws_c3 : Nat → Int32) (sg_size : Int32) (sg_ones : Nat → Int32) (sg_others : Nat → Int32) (sg_bounds : Nat → Int32) (sg_reached : Nat → Int32) (k2 : (Nat → Int32) → (Nat → Int32) → Int32 → Int32 → Int32 → Option (Int32 × (Nat → Int32) × (Nat → Int32))) (laws_letters : Nat → Int32) (laws_stack : Nat → Int32) (v1 : Int32) (v2 : Int32) (v3 : Int32) (t0 : Int32) : Option (Int32 × (Nat → Int32) × (Nat → Int32)) :=
  gd (inB v3 10) <|
  ob3 (f_X8_reaches told_pride told_free told_stuffed told_after laws_holds laws_lengths laws_c0 laws_c1 laws_c2 laws_c3 laws_letters laws_stack v1 v2 t0 (sg_bounds v3.toNatClampNeg)) fun r_2 laws_letters_3 laws_stack_4 =>
  gd (inB v3 10) <|
  if r_2 = (sg_reached v3.toNatClampNeg) then
    b_X8_allow_82 told_pride told_free told_stuffed told_after laws_holds laws_lengths laws_c0 laws_c1 laws_c2 laws_c3 sg_size sg_ones sg_others sg_bounds sg_reached k2 laws_letters_3 laws_stack_4 v1 v2 v3
  else
    some ((0 : Int32), laws_letters_3, laws_stack_4)
noncomputable def b_X8_allow_30 (told_pride : Int32) (told_free : Nat → Int32) (told_stuffed : Nat → Int32) (told_after : Nat → Int32) (laws_holds : Int32) (laws_lengths : Nat → Int32) (laws_c0 : Nat → Int32) (laws_c1 : Nat → Int32) (laws_c2 : Nat → Int32) (laws_c3 : Nat → Int32) (sg_size : Int32) (sg_ones : Nat → Int32) (sg_others : Nat → Int32) (sg_bounds : Nat → Int32) (sg_reached : Nat → Int32) (k2 : (Nat → Int32) → (Nat → Int32) → Int32 → Int32 → Int32 → Option (Int32 × (Nat → Int32) × (Nat → Int32))) (laws_letters : Nat → Int32) (laws_stack : Nat → Int32) (v1 : Int32) (v2 : Int32) (v3 : Int32) : Option (Int32 × (Nat → Int32) × (Nat → Int32)) :=
  gd (inB v3 10) <|
  if (sg_ones v3.toNatClampNeg) = v1 then
    gd (inB v3 10) <|
    b_X8_allow_55 told_pride told_free told_stuffed told_after laws_holds laws_lengths laws_c0 laws_c1 laws_c2 laws_c3 sg_size sg_ones sg_others sg_bounds sg_reached k2 laws_letters laws_stack v1 v2 v3 (sg_others v3.toNatClampNeg)
  else
    gd (inB v3 10) <|
    b_X8_allow_55 told_pride told_free told_stuffed told_after laws_holds laws_lengths laws_c0 laws_c1 laws_c2 laws_c3 sg_size sg_ones sg_others sg_bounds sg_reached k2 laws_letters laws_stack v1 v2 v3 (sg_ones v3.toNatClampNeg)
noncomputable def b_X8_allow_2 (told_pride : Int32) (told_free : Nat → Int32) (told_stuffed : Nat → Int32) (told_after : Nat → Int32) (laws_holds : Int32) (laws_lengths : Nat → Int32) (laws_c0 : Nat → Int32) (laws_c1 : Nat → Int32) (laws_c2 : Nat → Int32) (laws_c3 : Nat → Int32) (sg_size : Int32) (sg_ones : Nat → Int32) (sg_others : Nat → Int32) (sg_bounds : Nat → Int32) (sg_reached : Nat → Int32) (k2 : (Nat → Int32) → (Nat → Int32) → Int32 → Int32 → Int32 → Option (Int32 × (Nat → Int32) × (Nat → Int32))) (laws_letters : Nat → Int32) (laws_stack : Nat → Int32) (v1 : Int32) (v2 : Int32) (v3 : Int32) : Option (Int32 × (Nat → Int32) × (Nat → Int32)) :=
  if sg_size ≤ v3 then
    some ((1 : Int32), laws_letters, laws_stack)
  else
    gd (inB v3 10) <|
    if (sg_ones v3.toNatClampNeg) = v1 then
      b_X8_allow_30 told_pride told_free told_stuffed told_after laws_holds laws_lengths laws_c0 laws_c1 laws_c2 laws_c3 sg_size sg_ones sg_others sg_bounds sg_reached k2 laws_letters laws_stack v1 v2 v3
    else
      gd (inB v3 10) <|
      if (sg_others v3.toNatClampNeg) = v1 then
        b_X8_allow_30 told_pride told_free told_stuffed told_after laws_holds laws_lengths laws_c0 laws_c1 laws_c2 laws_c3 sg_size sg_ones sg_others sg_bounds sg_reached k2 laws_letters laws_stack v1 v2 v3
      else
        b_X8_allow_82 told_pride told_free told_stuffed told_after laws_holds laws_lengths laws_c0 laws_c1 laws_c2 laws_c3 sg_size sg_ones sg_others sg_bounds sg_reached k2 laws_letters laws_stack v1 v2 v3
noncomputable def f_X8_allow_2 (told_pride : Int32) (told_free : Nat → Int32) (told_stuffed : Nat → Int32) (told_after : Nat → Int32) (laws_holds : Int32) (laws_lengths : Nat → Int32) (laws_c0 : Nat → Int32) (laws_c1 : Nat → Int32) (laws_c2 : Nat → Int32) (laws_c3 : Nat → Int32) (sg_size : Int32) (sg_ones : Nat → Int32) (sg_others : Nat → Int32) (sg_bounds : Nat → Int32) (sg_reached : Nat → Int32) : Nat → (Nat → Int32) → (Nat → Int32) → Int32 → Int32 → Int32 → Option (Int32 × (Nat → Int32) × (Nat → Int32))
  | 0, _, _, _, _, _ => none
  | n + 1, laws_letters, laws_stack, v1, v2, v3 => b_X8_allow_2 told_pride told_free told_stuffed told_after laws_holds laws_lengths laws_c0 laws_c1 laws_c2 laws_c3 sg_size sg_ones sg_others sg_bounds sg_reached (f_X8_allow_2 told_pride told_free told_stuffed told_after laws_holds laws_lengths laws_c0 laws_c1 laws_c2 laws_c3 sg_size sg_ones sg_others sg_bounds sg_reached n) laws_letters laws_stack v1 v2 v3
noncomputable def b_X8_allow_0 (told_pride : Int32) (told_free : Nat → Int32) (told_stuffed : Nat → Int32) (told_after : Nat → Int32) (laws_holds : Int32) (laws_lengths : Nat → Int32) (laws_c0 : Nat → Int32) (laws_c1 : Nat → Int32) (laws_c2 : Nat → Int32) (laws_c3 : Nat → Int32) (sg_size : Int32) (sg_ones : Nat → Int32) (sg_others : Nat → Int32) (sg_bounds : Nat → Int32) (sg_reached : Nat → Int32) (laws_letters : Nat → Int32) (laws_stack : Nat → Int32) (v1 : Int32) (v2 : Int32) : Option (Int32 × (Nat → Int32) × (Nat → Int32)) :=
  f_X8_allow_2 told_pride told_free told_stuffed told_after laws_holds laws_lengths laws_c0 laws_c1 laws_c2 laws_c3 sg_size sg_ones sg_others sg_bounds sg_reached fu laws_letters laws_stack v1 v2 (0 : Int32)
noncomputable def f_X8_allow (told_pride : Int32) (told_free : Nat → Int32) (told_stuffed : Nat → Int32) (told_after : Nat → Int32) (laws_holds : Int32) (laws_lengths : Nat → Int32) (laws_c0 : Nat → Int32) (laws_c1 : Nat → Int32) (laws_c2 : Nat → Int32) (laws_c3 : Nat → Int32) (sg_size : Int32) (sg_ones : Nat → Int32) (sg_others : Nat → Int32) (sg_bounds : Nat → Int32) (sg_reached : Nat → Int32) (laws_letters : Nat → Int32) (laws_stack : Nat → Int32) (p1 : Int32) (p2 : Int32) : Option (Int32 × (Nat → Int32) × (Nat → Int32)) := b_X8_allow_0 told_pride told_free told_stuffed told_after laws_holds laws_lengths laws_c0 laws_c1 laws_c2 laws_c3 sg_size sg_ones sg_others sg_bounds sg_reached laws_letters laws_stack p1 p2
noncomputable def b_X11_fits_54 (told_gloves : Int32) (told_pride : Int32) (told_free : Nat → Int32) (told_stuffed : Nat → Int32) (told_after : Nat → Int32) (laws_holds : Int32) (laws_lengths : Nat → Int32) (laws_c0 : Nat → Int32) (laws_c1 : Nat → Int32) (laws_c2 : Nat → Int32) (laws_c3 : Nat → Int32) (sg_size : Int32) (sg_ones : Nat → Int32) (sg_others : Nat → Int32) (sg_bounds : Nat → Int32) (sg_reached : Nat → Int32) (k23 : (Nat → Int32) → (Nat → Int32) → Int32 → Int32 → Int32 → Int32 → Option (Int32 × (Nat → Int32) × (Nat → Int32))) (laws_letters : Nat → Int32) (laws_stack : Nat → Int32) (v1 : Int32) (v2 : Int32) (v3 : Int32) (v4 : Int32) : Option (Int32 × (Nat → Int32) × (Nat → Int32)) :=
  bnd (v4 + (1 : Int32)) fun v4_1 =>
  k23 laws_letters laws_stack v1 v2 v3 v4_1
noncomputable def b_X11_fits_23 (told_gloves : Int32) (told_pride : Int32) (told_free : Nat → Int32) (told_stuffed : Nat → Int32) (told_after : Nat → Int32) (laws_holds : Int32) (laws_lengths : Nat → Int32) (laws_c0 : Nat → Int32) (laws_c1 : Nat → Int32) (laws_c2 : Nat → Int32) (laws_c3 : Nat → Int32) (sg_size : Int32) (sg_ones : Nat → Int32) (sg_others : Nat → Int32) (sg_bounds : Nat → Int32) (sg_reached : Nat → Int32) (k23 : (Nat → Int32) → (Nat → Int32) → Int32 → Int32 → Int32 → Int32 → Option (Int32 × (Nat → Int32) × (Nat → Int32))) (laws_letters : Nat → Int32) (laws_stack : Nat → Int32) (v1 : Int32) (v2 : Int32) (v3 : Int32) (v4 : Int32) : Option (Int32 × (Nat → Int32) × (Nat → Int32)) :=
  if (9 : Int32) < v4 then
    if v2 = (-1 : Int32) then
      some (v3, laws_letters, laws_stack)
    else
      some ((-1 : Int32), laws_letters, laws_stack)
  else
    ob3 (f_X8_allow told_pride told_free told_stuffed told_after laws_holds laws_lengths laws_c0 laws_c1 laws_c2 laws_c3 sg_size sg_ones sg_others sg_bounds sg_reached laws_letters laws_stack v1 v4) fun r_1 laws_letters_2 laws_stack_3 =>
    if r_1 = (0 : Int32) then
      b_X11_fits_54 told_gloves told_pride told_free told_stuffed told_after laws_holds laws_lengths laws_c0 laws_c1 laws_c2 laws_c3 sg_size sg_ones sg_others sg_bounds sg_reached k23 laws_letters_2 laws_stack_3 v1 v2 v3 v4
    else
      if v3 = v2 then
        some (v4, laws_letters_2, laws_stack_3)
      else
        bnd (v3 + (1 : Int32)) fun v3_5 =>
        b_X11_fits_54 told_gloves told_pride told_free told_stuffed told_after laws_holds laws_lengths laws_c0 laws_c1 laws_c2 laws_c3 sg_size sg_ones sg_others sg_bounds sg_reached k23 laws_letters_2 laws_stack_3 v1 v2 v3_5 v4
noncomputable def f_X11_fits_23 (told_gloves : Int32) (told_pride : Int32) (told_free : Nat → Int32) (told_stuffed : Nat → Int32) (told_after : Nat → Int32) (laws_holds : Int32) (laws_lengths : Nat → Int32) (laws_c0 : Nat → Int32) (laws_c1 : Nat → Int32) (laws_c2 : Nat → Int32) (laws_c3 : Nat → Int32) (sg_size : Int32) (sg_ones : Nat → Int32) (sg_others : Nat → Int32) (sg_bounds : Nat → Int32) (sg_reached : Nat → Int32) : Nat → (Nat → Int32) → (Nat → Int32) → Int32 → Int32 → Int32 → Int32 → Option (Int32 × (Nat → Int32) × (Nat → Int32))
  | 0, _, _, _, _, _, _ => none
  | n + 1, laws_letters, laws_stack, v1, v2, v3, v4 => b_X11_fits_23 told_gloves told_pride told_free told_stuffed told_after laws_holds laws_lengths laws_c0 laws_c1 laws_c2 laws_c3 sg_size sg_ones sg_others sg_bounds sg_reached (f_X11_fits_23 told_gloves told_pride told_free told_stuffed told_after laws_holds laws_lengths laws_c0 laws_c1 laws_c2 laws_c3 sg_size sg_ones sg_others sg_bounds sg_reached n) laws_letters laws_stack v1 v2 v3 v4
noncomputable def b_X11_fits_0 (told_gloves : Int32) (told_pride : Int32) (told_free : Nat → Int32) (told_stuffed : Nat → Int32) (told_after : Nat → Int32) (laws_holds : Int32) (laws_lengths : Nat → Int32) (laws_c0 : Nat → Int32) (laws_c1 : Nat → Int32) (laws_c2 : Nat → Int32) (laws_c3 : Nat → Int32) (sg_size : Int32) (sg_ones : Nat → Int32) (sg_others : Nat → Int32) (sg_bounds : Nat → Int32) (sg_reached : Nat → Int32) (laws_letters : Nat → Int32) (laws_stack : Nat → Int32) (v1 : Int32) (v2 : Int32) : Option (Int32 × (Nat → Int32) × (Nat → Int32)) :=
  ob1 (f_X5_hasGlove told_gloves v1) fun r_1 =>
  if r_1 = (0 : Int32) then
    some ((-1 : Int32), laws_letters, laws_stack)
  else
    if (-1 : Int32) ≤ v2 then
      f_X11_fits_23 told_gloves told_pride told_free told_stuffed told_after laws_holds laws_lengths laws_c0 laws_c1 laws_c2 laws_c3 sg_size sg_ones sg_others sg_bounds sg_reached fu laws_letters laws_stack v1 v2 (0 : Int32) (0 : Int32)
    else
      some ((-1 : Int32), laws_letters, laws_stack)
noncomputable def f_X11_fits (told_gloves : Int32) (told_pride : Int32) (told_free : Nat → Int32) (told_stuffed : Nat → Int32) (told_after : Nat → Int32) (laws_holds : Int32) (laws_lengths : Nat → Int32) (laws_c0 : Nat → Int32) (laws_c1 : Nat → Int32) (laws_c2 : Nat → Int32) (laws_c3 : Nat → Int32) (sg_size : Int32) (sg_ones : Nat → Int32) (sg_others : Nat → Int32) (sg_bounds : Nat → Int32) (sg_reached : Nat → Int32) (laws_letters : Nat → Int32) (laws_stack : Nat → Int32) (p1 : Int32) (p2 : Int32) : Option (Int32 × (Nat → Int32) × (Nat → Int32)) := b_X11_fits_0 told_gloves told_pride told_free told_stuffed told_after laws_holds laws_lengths laws_c0 laws_c1 laws_c2 laws_c3 sg_size sg_ones sg_others sg_bounds sg_reached laws_letters laws_stack p1 p2
noncomputable def b_X8_fitting_25 (told_pride : Int32) (told_free : Nat → Int32) (told_stuffed : Nat → Int32) (told_after : Nat → Int32) (laws_holds : Int32) (laws_lengths : Nat → Int32) (laws_c0 : Nat → Int32) (laws_c1 : Nat → Int32) (laws_c2 : Nat → Int32) (laws_c3 : Nat → Int32) (sg_size : Int32) (sg_ones : Nat → Int32) (sg_others : Nat → Int32) (sg_bounds : Nat → Int32) (sg_reached : Nat → Int32) (k4 : (Nat → Int32) → (Nat → Int32) → Int32 → Int32 → Int32 → Option (Int32 × (Nat → Int32) × (Nat → Int32))) (laws_letters : Nat → Int32) (laws_stack : Nat → Int32) (v1 : Int32) (v2 : Int32) (v3 : Int32) : Option (Int32 × (Nat → Int32) × (Nat → Int32)) :=
  bnd (v3 + (1 : Int32)) fun v3_1 =>
  k4 laws_letters laws_stack v1 v2 v3_1
noncomputable def b_X8_fitting_4 (told_pride : Int32) (told_free : Nat → Int32) (told_stuffed : Nat → Int32) (told_after : Nat → Int32) (laws_holds : Int32) (laws_lengths : Nat → Int32) (laws_c0 : Nat → Int32) (laws_c1 : Nat → Int32) (laws_c2 : Nat → Int32) (laws_c3 : Nat → Int32) (sg_size : Int32) (sg_ones : Nat → Int32) (sg_others : Nat → Int32) (sg_bounds : Nat → Int32) (sg_reached : Nat → Int32) (k4 : (Nat → Int32) → (Nat → Int32) → Int32 → Int32 → Int32 → Option (Int32 × (Nat → Int32) × (Nat → Int32))) (laws_letters : Nat → Int32) (laws_stack : Nat → Int32) (v1 : Int32) (v2 : Int32) (v3 : Int32) : Option (Int32 × (Nat → Int32) × (Nat → Int32)) :=
  if (9 : Int32) < v3 then
    some (v2, laws_letters, laws_stack)
  else
    ob3 (f_X8_allow told_pride told_free told_stuffed told_after laws_holds laws_lengths laws_c0 laws_c1 laws_c2 laws_c3 sg_size sg_ones sg_others sg_bounds sg_reached laws_letters laws_stack v1 v3) fun r_1 laws_letters_2 laws_stack_3 =>
    if r_1 = (0 : Int32) then
      b_X8_fitting_25 told_pride told_free told_stuffed told_after laws_holds laws_lengths laws_c0 laws_c1 laws_c2 laws_c3 sg_size sg_ones sg_others sg_bounds sg_reached k4 laws_letters_2 laws_stack_3 v1 v2 v3
    else
      bnd (v2 ||| ((1 : Int32) <<< (v3 &&& (31 : Int32)))) fun v2_5 =>
      b_X8_fitting_25 told_pride told_free told_stuffed told_after laws_holds laws_lengths laws_c0 laws_c1 laws_c2 laws_c3 sg_size sg_ones sg_others sg_bounds sg_reached k4 laws_letters_2 laws_stack_3 v1 v2_5 v3
noncomputable def f_X8_fitting_4 (told_pride : Int32) (told_free : Nat → Int32) (told_stuffed : Nat → Int32) (told_after : Nat → Int32) (laws_holds : Int32) (laws_lengths : Nat → Int32) (laws_c0 : Nat → Int32) (laws_c1 : Nat → Int32) (laws_c2 : Nat → Int32) (laws_c3 : Nat → Int32) (sg_size : Int32) (sg_ones : Nat → Int32) (sg_others : Nat → Int32) (sg_bounds : Nat → Int32) (sg_reached : Nat → Int32) : Nat → (Nat → Int32) → (Nat → Int32) → Int32 → Int32 → Int32 → Option (Int32 × (Nat → Int32) × (Nat → Int32))
  | 0, _, _, _, _, _ => none
  | n + 1, laws_letters, laws_stack, v1, v2, v3 => b_X8_fitting_4 told_pride told_free told_stuffed told_after laws_holds laws_lengths laws_c0 laws_c1 laws_c2 laws_c3 sg_size sg_ones sg_others sg_bounds sg_reached (f_X8_fitting_4 told_pride told_free told_stuffed told_after laws_holds laws_lengths laws_c0 laws_c1 laws_c2 laws_c3 sg_size sg_ones sg_others sg_bounds sg_reached n) laws_letters laws_stack v1 v2 v3
noncomputable def b_X8_fitting_0 (told_pride : Int32) (told_free : Nat → Int32) (told_stuffed : Nat → Int32) (told_after : Nat → Int32) (laws_holds : Int32) (laws_lengths : Nat → Int32) (laws_c0 : Nat → Int32) (laws_c1 : Nat → Int32) (laws_c2 : Nat → Int32) (laws_c3 : Nat → Int32) (sg_size : Int32) (sg_ones : Nat → Int32) (sg_others : Nat → Int32) (sg_bounds : Nat → Int32) (sg_reached : Nat → Int32) (laws_letters : Nat → Int32) (laws_stack : Nat → Int32) (v1 : Int32) : Option (Int32 × (Nat → Int32) × (Nat → Int32)) :=
  f_X8_fitting_4 told_pride told_free told_stuffed told_after laws_holds laws_lengths laws_c0 laws_c1 laws_c2 laws_c3 sg_size sg_ones sg_others sg_bounds sg_reached fu laws_letters laws_stack v1 (0 : Int32) (0 : Int32)
noncomputable def f_X8_fitting (told_pride : Int32) (told_free : Nat → Int32) (told_stuffed : Nat → Int32) (told_after : Nat → Int32) (laws_holds : Int32) (laws_lengths : Nat → Int32) (laws_c0 : Nat → Int32) (laws_c1 : Nat → Int32) (laws_c2 : Nat → Int32) (laws_c3 : Nat → Int32) (sg_size : Int32) (sg_ones : Nat → Int32) (sg_others : Nat → Int32) (sg_bounds : Nat → Int32) (sg_reached : Nat → Int32) (laws_letters : Nat → Int32) (laws_stack : Nat → Int32) (p1 : Int32) : Option (Int32 × (Nat → Int32) × (Nat → Int32)) := b_X8_fitting_0 told_pride told_free told_stuffed told_after laws_holds laws_lengths laws_c0 laws_c1 laws_c2 laws_c3 sg_size sg_ones sg_others sg_bounds sg_reached laws_letters laws_stack p1
noncomputable def b_X8_gap_46 (told_pride : Int32) (told_free : Nat → Int32) (told_stuffed : Nat → Int32) (told_after : Nat → Int32) (laws_holds : Int32) (laws_lengths : Nat → Int32) (laws_c0 : Nat → Int32) (laws_c1 : Nat → Int32) (laws_c2 : Nat → Int32) (laws_c3 : Nat → Int32) (k6 : (Nat → Int32) → (Nat → Int32) → Int32 → Int32 → Int32 → Int32 → Int32 → Int32 → Option (Int32 × (Nat → Int32) × (Nat → Int32))) (laws_letters : Nat → Int32) (laws_stack : Nat → Int32) (v1 : Int32) (v2 : Int32) (v3 : Int32) (v4 : Int32) (v5 : Int32) (v6 : Int32) : Option (Int32 × (Nat → Int32) × (Nat → Int32)) :=
  bnd (v6 + (1 : Int32)) fun v6_1 =>
  k6 laws_letters laws_stack v1 v2 v3 v4 v5 v6_1
noncomputable def b_X8_gap_43 (told_pride : Int32) (told_free : Nat → Int32) (told_stuffed : Nat → Int32) (told_after : Nat → Int32) (laws_holds : Int32) (laws_lengths : Nat → Int32) (laws_c0 : Nat → Int32) (laws_c1 : Nat → Int32) (laws_c2 : Nat → Int32) (laws_c3 : Nat → Int32) (k6 : (Nat → Int32) → (Nat → Int32) → Int32 → Int32 → Int32 → Int32 → Int32 → Int32 → Option (Int32 × (Nat → Int32) × (Nat → Int32))) (laws_letters : Nat → Int32) (laws_stack : Nat → Int32) (v1 : Int32) (v2 : Int32) (v3 : Int32) (v4 : Int32) (v6 : Int32) (t0 : Int32) (t1 : Int32) : Option (Int32 × (Nat → Int32) × (Nat → Int32)) :=
  bnd (t0 + t1) fun v5_1 =>
  b_X8_gap_46 told_pride told_free told_stuffed told_after laws_holds laws_lengths laws_c0 laws_c1 laws_c2 laws_c3 k6 laws_letters laws_stack v1 v2 v3 v4 v5_1 v6
noncomputable def b_X8_gap_6 (told_pride : Int32) (told_free : Nat → Int32) (told_stuffed : Nat → Int32) (told_after : Nat → Int32) (laws_holds : Int32) (laws_lengths : Nat → Int32) (laws_c0 : Nat → Int32) (laws_c1 : Nat → Int32) (laws_c2 : Nat → Int32) (laws_c3 : Nat → Int32) (k6 : (Nat → Int32) → (Nat → Int32) → Int32 → Int32 → Int32 → Int32 → Int32 → Int32 → Option (Int32 × (Nat → Int32) × (Nat → Int32))) (laws_letters : Nat → Int32) (laws_stack : Nat → Int32) (v1 : Int32) (v2 : Int32) (v3 : Int32) (v4 : Int32) (v5 : Int32) (v6 : Int32) : Option (Int32 × (Nat → Int32) × (Nat → Int32)) :=
  if (9 : Int32) < v6 then
    bnd (ab v5) fun n_1 =>
    some (n_1, laws_letters, laws_stack)
  else
    if ((v4 >>> (v6 &&& (31 : Int32))) &&& (1 : Int32)) = (1 : Int32) then
      ob3 (f_X8_reaches told_pride told_free told_stuffed told_after laws_holds laws_lengths laws_c0 laws_c1 laws_c2 laws_c3 laws_letters laws_stack v1 v6 v2 v3) fun r_2 laws_letters_3 laws_stack_4 =>
      if r_2 = (0 : Int32) then
        b_X8_gap_43 told_pride told_free told_stuffed told_after laws_holds laws_lengths laws_c0 laws_c1 laws_c2 laws_c3 k6 laws_letters_3 laws_stack_4 v1 v2 v3 v4 v6 v5 (-1 : Int32)
      else
        b_X8_gap_43 told_pride told_free told_stuffed told_after laws_holds laws_lengths laws_c0 laws_c1 laws_c2 laws_c3 k6 laws_letters_3 laws_stack_4 v1 v2 v3 v4 v6 v5 (1 : Int32)
    else
      b_X8_gap_46 told_pride told_free told_stuffed told_after laws_holds laws_lengths laws_c0 laws_c1 laws_c2 laws_c3 k6 laws_letters laws_stack v1 v2 v3 v4 v5 v6
noncomputable def f_X8_gap_6 (told_pride : Int32) (told_free : Nat → Int32) (told_stuffed : Nat → Int32) (told_after : Nat → Int32) (laws_holds : Int32) (laws_lengths : Nat → Int32) (laws_c0 : Nat → Int32) (laws_c1 : Nat → Int32) (laws_c2 : Nat → Int32) (laws_c3 : Nat → Int32) : Nat → (Nat → Int32) → (Nat → Int32) → Int32 → Int32 → Int32 → Int32 → Int32 → Int32 → Option (Int32 × (Nat → Int32) × (Nat → Int32))
  | 0, _, _, _, _, _, _, _, _ => none
  | n + 1, laws_letters, laws_stack, v1, v2, v3, v4, v5, v6 => b_X8_gap_6 told_pride told_free told_stuffed told_after laws_holds laws_lengths laws_c0 laws_c1 laws_c2 laws_c3 (f_X8_gap_6 told_pride told_free told_stuffed told_after laws_holds laws_lengths laws_c0 laws_c1 laws_c2 laws_c3 n) laws_letters laws_stack v1 v2 v3 v4 v5 v6
noncomputable def b_X8_gap_0 (told_pride : Int32) (told_free : Nat → Int32) (told_stuffed : Nat → Int32) (told_after : Nat → Int32) (laws_holds : Int32) (laws_lengths : Nat → Int32) (laws_c0 : Nat → Int32) (laws_c1 : Nat → Int32) (laws_c2 : Nat → Int32) (laws_c3 : Nat → Int32) (laws_letters : Nat → Int32) (laws_stack : Nat → Int32) (v1 : Int32) (v2 : Int32) (v3 : Int32) (v4 : Int32) : Option (Int32 × (Nat → Int32) × (Nat → Int32)) :=
  f_X8_gap_6 told_pride told_free told_stuffed told_after laws_holds laws_lengths laws_c0 laws_c1 laws_c2 laws_c3 fu laws_letters laws_stack v1 v2 v3 v4 (0 : Int32) (0 : Int32)
noncomputable def f_X8_gap (told_pride : Int32) (told_free : Nat → Int32) (told_stuffed : Nat → Int32) (told_after : Nat → Int32) (laws_holds : Int32) (laws_lengths : Nat → Int32) (laws_c0 : Nat → Int32) (laws_c1 : Nat → Int32) (laws_c2 : Nat → Int32) (laws_c3 : Nat → Int32) (laws_letters : Nat → Int32) (laws_stack : Nat → Int32) (p1 : Int32) (p2 : Int32) (p3 : Int32) (p4 : Int32) : Option (Int32 × (Nat → Int32) × (Nat → Int32)) := b_X8_gap_0 told_pride told_free told_stuffed told_after laws_holds laws_lengths laws_c0 laws_c1 laws_c2 laws_c3 laws_letters laws_stack p1 p2 p3 p4
noncomputable def b_X11_ask_104 (told_gloves : Int32) (told_pride : Int32) (told_house : Nat → Int32) (told_free : Nat → Int32) (told_stuffed : Nat → Int32) (told_after : Nat → Int32) (laws_holds : Int32) (laws_lengths : Nat → Int32) (laws_c0 : Nat → Int32) (laws_c1 : Nat → Int32) (laws_c2 : Nat → Int32) (laws_c3 : Nat → Int32) (sg_size : Int32) (sg_ones : Nat → Int32) (sg_others : Nat → Int32) (sg_bounds : Nat → Int32) (sg_reached : Nat → Int32) (k45 : (Nat → Int32) → (Nat → Int32) → Int32 → Int32 → Int32 → Int32 → Int32 → Int32 → Option (Int32 × (Nat → Int32) × (Nat → Int32))) (laws_letters : Nat → Int32) (laws_stack : Nat → Int32) (v1 : Int32) (v2 : Int32) (v3 : Int32) (v4 : Int32) (v5 : Int32) (v6 : Int32) : Option (Int32 × (Nat → Int32) × (Nat → Int32)) :=
  bnd (v6 + (1 : Int32)) fun v6_1 =>
  k45 laws_letters laws_stack v1 v2 v3 v4 v5 v6_1
noncomputable def b_X11_ask_87 (told_gloves : Int32) (told_pride : Int32) (told_house : Nat → Int32) (told_free : Nat → Int32) (told_stuffed : Nat → Int32) (told_after : Nat → Int32) (laws_holds : Int32) (laws_lengths : Nat → Int32) (laws_c0 : Nat → Int32) (laws_c1 : Nat → Int32) (laws_c2 : Nat → Int32) (laws_c3 : Nat → Int32) (sg_size : Int32) (sg_ones : Nat → Int32) (sg_others : Nat → Int32) (sg_bounds : Nat → Int32) (sg_reached : Nat → Int32) (k45 : (Nat → Int32) → (Nat → Int32) → Int32 → Int32 → Int32 → Int32 → Int32 → Int32 → Option (Int32 × (Nat → Int32) × (Nat → Int32))) (laws_letters : Nat → Int32) (laws_stack : Nat → Int32) (v1 : Int32) (v2 : Int32) (v3 : Int32) (v4 : Int32) (v5 : Int32) (v6 : Int32) (t0 : Int32) : Option (Int32 × (Nat → Int32) × (Nat → Int32)) :=
  if v5 ≤ t0 then
    b_X11_ask_104 told_gloves told_pride told_house told_free told_stuffed told_after laws_holds laws_lengths laws_c0 laws_c1 laws_c2 laws_c3 sg_size sg_ones sg_others sg_bounds sg_reached k45 laws_letters laws_stack v1 v2 v3 v4 v5 v6
  else
    b_X11_ask_104 told_gloves told_pride told_house told_free told_stuffed told_after laws_holds laws_lengths laws_c0 laws_c1 laws_c2 laws_c3 sg_size sg_ones sg_others sg_bounds sg_reached k45 laws_letters laws_stack v1 v2 v3 v6 t0 v6
noncomputable def b_X11_ask_45 (told_gloves : Int32) (told_pride : Int32) (told_house : Nat → Int32) (told_free : Nat → Int32) (told_stuffed : Nat → Int32) (told_after : Nat → Int32) (laws_holds : Int32) (laws_lengths : Nat → Int32) (laws_c0 : Nat → Int32) (laws_c1 : Nat → Int32) (laws_c2 : Nat → Int32) (laws_c3 : Nat → Int32) (sg_size : Int32) (sg_ones : Nat → Int32) (sg_others : Nat → Int32) (sg_bounds : Nat → Int32) (sg_reached : Nat → Int32) (k45 : (Nat → Int32) → (Nat → Int32) → Int32 → Int32 → Int32 → Int32 → Int32 → Int32 → Option (Int32 × (Nat → Int32) × (Nat → Int32))) (laws_letters : Nat → Int32) (laws_stack : Nat → Int32) (v1 : Int32) (v2 : Int32) (v3 : Int32) (v4 : Int32) (v5 : Int32) (v6 : Int32) : Option (Int32 × (Nat → Int32) × (Nat → Int32)) :=
  if told_gloves ≤ v6 then
    some (v4, laws_letters, laws_stack)
  else
    ob1 (f_X5_unlike told_gloves told_house v1 v6) fun r_1 =>
    if r_1 = (0 : Int32) then
      b_X11_ask_87 told_gloves told_pride told_house told_free told_stuffed told_after laws_holds laws_lengths laws_c0 laws_c1 laws_c2 laws_c3 sg_size sg_ones sg_others sg_bounds sg_reached k45 laws_letters laws_stack v1 v2 v3 v4 v5 v6 v5
    else
      ob3 (f_X8_gap told_pride told_free told_stuffed told_after laws_holds laws_lengths laws_c0 laws_c1 laws_c2 laws_c3 laws_letters laws_stack v1 v6 v2 v3) fun r_3 laws_letters_4 laws_stack_5 =>
      b_X11_ask_87 told_gloves told_pride told_house told_free told_stuffed told_after laws_holds laws_lengths laws_c0 laws_c1 laws_c2 laws_c3 sg_size sg_ones sg_others sg_bounds sg_reached k45 laws_letters_4 laws_stack_5 v1 v2 v3 v4 v5 v6 r_3
noncomputable def f_X11_ask_45 (told_gloves : Int32) (told_pride : Int32) (told_house : Nat → Int32) (told_free : Nat → Int32) (told_stuffed : Nat → Int32) (told_after : Nat → Int32) (laws_holds : Int32) (laws_lengths : Nat → Int32) (laws_c0 : Nat → Int32) (laws_c1 : Nat → Int32) (laws_c2 : Nat → Int32) (laws_c3 : Nat → Int32) (sg_size : Int32) (sg_ones : Nat → Int32) (sg_others : Nat → Int32) (sg_bounds : Nat → Int32) (sg_reached : Nat → Int32) : Nat → (Nat → Int32) → (Nat → Int32) → Int32 → Int32 → Int32 → Int32 → Int32 → Int32 → Option (Int32 × (Nat → Int32) × (Nat → Int32))
  | 0, _, _, _, _, _, _, _, _ => none
  | n + 1, laws_letters, laws_stack, v1, v2, v3, v4, v5, v6 => b_X11_ask_45 told_gloves told_pride told_house told_free told_stuffed told_after laws_holds laws_lengths laws_c0 laws_c1 laws_c2 laws_c3 sg_size sg_ones sg_others sg_bounds sg_reached (f_X11_ask_45 told_gloves told_pride told_house told_free told_stuffed told_after laws_holds laws_lengths laws_c0 laws_c1 laws_c2 laws_c3 sg_size sg_ones sg_others sg_bounds sg_reached n) laws_letters laws_stack v1 v2 v3 v4 v5 v6
noncomputable def b_X11_ask_0 (told_gloves : Int32) (told_pride : Int32) (told_house : Nat → Int32) (told_free : Nat → Int32) (told_stuffed : Nat → Int32) (told_after : Nat → Int32) (laws_holds : Int32) (laws_lengths : Nat → Int32) (laws_c0 : Nat → Int32) (laws_c1 : Nat → Int32) (laws_c2 : Nat → Int32) (laws_c3 : Nat → Int32) (sg_size : Int32) (sg_ones : Nat → Int32) (sg_others : Nat → Int32) (sg_bounds : Nat → Int32) (sg_reached : Nat → Int32) (laws_letters : Nat → Int32) (laws_stack : Nat → Int32) (v1 : Int32) (v2 : Int32) : Option (Int32 × (Nat → Int32) × (Nat → Int32)) :=
  ob1 (f_X5_hasGlove told_gloves v1) fun r_1 =>
  if r_1 = (0 : Int32) then
    some ((-1 : Int32), laws_letters, laws_stack)
  else
    ob1 (f_X11_isNoRise v2) fun r_3 =>
    if r_3 = (0 : Int32) then
      ob3 (f_X8_fitting told_pride told_free told_stuffed told_after laws_holds laws_lengths laws_c0 laws_c1 laws_c2 laws_c3 sg_size sg_ones sg_others sg_bounds sg_reached laws_letters laws_stack v1) fun r_5 laws_letters_6 laws_stack_7 =>
      if r_5 = (0 : Int32) then
        some ((-1 : Int32), laws_letters_6, laws_stack_7)
      else
        f_X11_ask_45 told_gloves told_pride told_house told_free told_stuffed told_after laws_holds laws_lengths laws_c0 laws_c1 laws_c2 laws_c3 sg_size sg_ones sg_others sg_bounds sg_reached fu laws_letters_6 laws_stack_7 v1 v2 r_5 (-1 : Int32) (11 : Int32) (0 : Int32)
    else
      some ((-1 : Int32), laws_letters, laws_stack)
noncomputable def f_X11_ask (told_gloves : Int32) (told_pride : Int32) (told_house : Nat → Int32) (told_free : Nat → Int32) (told_stuffed : Nat → Int32) (told_after : Nat → Int32) (laws_holds : Int32) (laws_lengths : Nat → Int32) (laws_c0 : Nat → Int32) (laws_c1 : Nat → Int32) (laws_c2 : Nat → Int32) (laws_c3 : Nat → Int32) (sg_size : Int32) (sg_ones : Nat → Int32) (sg_others : Nat → Int32) (sg_bounds : Nat → Int32) (sg_reached : Nat → Int32) (laws_letters : Nat → Int32) (laws_stack : Nat → Int32) (p1 : Int32) (p2 : Int32) : Option (Int32 × (Nat → Int32) × (Nat → Int32)) := b_X11_ask_0 told_gloves told_pride told_house told_free told_stuffed told_after laws_holds laws_lengths laws_c0 laws_c1 laws_c2 laws_c3 sg_size sg_ones sg_others sg_bounds sg_reached laws_letters laws_stack p1 p2
noncomputable def b_X5_nth_36 (P_gloves : Int32) (P_house : Nat → Int32) (k5 : Int32 → Int32 → Int32 → Int32 → Option (Int32)) (v1 : Int32) (v2 : Int32) (v3 : Int32) (v4 : Int32) : Option (Int32) :=
  bnd (v4 + (1 : Int32)) fun v4_1 =>
  k5 v1 v2 v3 v4_1
noncomputable def b_X5_nth_5 (P_gloves : Int32) (P_house : Nat → Int32) (k5 : Int32 → Int32 → Int32 → Int32 → Option (Int32)) (v1 : Int32) (v2 : Int32) (v3 : Int32) (v4 : Int32) : Option (Int32) :=
  if P_gloves ≤ v4 then
    some (-1 : Int32)
  else
    gd (inB v4 6) <|
    if (P_house v4.toNatClampNeg) = v1 then
      if v3 = v2 then
        some v4
      else
        bnd (v3 + (1 : Int32)) fun v3_2 =>
        b_X5_nth_36 P_gloves P_house k5 v1 v2 v3_2 v4
    else
      b_X5_nth_36 P_gloves P_house k5 v1 v2 v3 v4
noncomputable def f_X5_nth_5 (P_gloves : Int32) (P_house : Nat → Int32) : Nat → Int32 → Int32 → Int32 → Int32 → Option (Int32)
  | 0, _, _, _, _ => none
  | n + 1, v1, v2, v3, v4 => b_X5_nth_5 P_gloves P_house (f_X5_nth_5 P_gloves P_house n) v1 v2 v3 v4
noncomputable def b_X5_nth_0 (P_gloves : Int32) (P_house : Nat → Int32) (v1 : Int32) (v2 : Int32) : Option (Int32) :=
  f_X5_nth_5 P_gloves P_house fu v1 v2 (0 : Int32) (0 : Int32)
noncomputable def f_X5_nth (P_gloves : Int32) (P_house : Nat → Int32) (p1 : Int32) (p2 : Int32) : Option (Int32) := b_X5_nth_0 P_gloves P_house p1 p2
noncomputable def b_X9_gains_0 (told_gloves : Int32) (told_after : Nat → Int32) (laws_holds : Int32) (laws_lengths : Nat → Int32) (laws_c0 : Nat → Int32) (laws_c1 : Nat → Int32) (laws_c2 : Nat → Int32) (laws_c3 : Nat → Int32) (S_cells : Nat → Int32) (laws_letters : Nat → Int32) (laws_stack : Nat → Int32) (v1 : Int32) (v2 : Int32) : Option (Int32 × (Nat → Int32) × (Nat → Int32)) :=
  ob1 (f_X5_hasGlove told_gloves v1) fun r_1 =>
  if r_1 = (0 : Int32) then
    some ((-20 : Int32), laws_letters, laws_stack)
  else
    ob1 (f_X5_hasGlove told_gloves v2) fun r_3 =>
    if r_3 = (0 : Int32) then
      some ((0 : Int32), laws_letters, laws_stack)
    else
      ob3 (f_X9_riseOf told_after laws_holds laws_lengths laws_c0 laws_c1 laws_c2 laws_c3 S_cells laws_letters laws_stack v1 v2) fun r_5 laws_letters_6 laws_stack_7 =>
      ob1 (f_X9_free S_cells v1) fun r_9 =>
      some ((r_5 - (r_9 / (3 : Int32))), laws_letters_6, laws_stack_7)
noncomputable def f_X9_gains (told_gloves : Int32) (told_after : Nat → Int32) (laws_holds : Int32) (laws_lengths : Nat → Int32) (laws_c0 : Nat → Int32) (laws_c1 : Nat → Int32) (laws_c2 : Nat → Int32) (laws_c3 : Nat → Int32) (S_cells : Nat → Int32) (laws_letters : Nat → Int32) (laws_stack : Nat → Int32) (p1 : Int32) (p2 : Int32) : Option (Int32 × (Nat → Int32) × (Nat → Int32)) := b_X9_gains_0 told_gloves told_after laws_holds laws_lengths laws_c0 laws_c1 laws_c2 laws_c3 S_cells laws_letters laws_stack p1 p2
noncomputable def b_X11_game_34 (told_gloves : Int32) (told_house : Nat → Int32) (told_after : Nat → Int32) (laws_holds : Int32) (laws_lengths : Nat → Int32) (laws_c0 : Nat → Int32) (laws_c1 : Nat → Int32) (laws_c2 : Nat → Int32) (laws_c3 : Nat → Int32) (now_cells : Nat → Int32) (laws_letters : Nat → Int32) (laws_stack : Nat → Int32) : Option (Int32 × (Nat → Int32) × (Nat → Int32)) :=
  some ((-1000000 : Int32), laws_letters, laws_stack)
noncomputable def b_X11_game_0 (told_gloves : Int32) (told_house : Nat → Int32) (told_after : Nat → Int32) (laws_holds : Int32) (laws_lengths : Nat → Int32) (laws_c0 : Nat → Int32) (laws_c1 : Nat → Int32) (laws_c2 : Nat → Int32) (laws_c3 : Nat → Int32) (now_cells : Nat → Int32) (laws_letters : Nat → Int32) (laws_stack : Nat → Int32) (v1 : Int32) (v2 : Int32) (v3 : Int32) : Option (Int32 × (Nat → Int32) × (Nat → Int32)) :=
  ob1 (f_X11_noPeace told_gloves) fun r_1 =>
  if r_1 = (0 : Int32) then
    if v1 < (0 : Int32) then
      b_X11_game_34 told_gloves told_house told_after laws_holds laws_lengths laws_c0 laws_c1 laws_c2 laws_c3 now_cells laws_letters laws_stack
    else
      if (4 : Int32) < v1 then
        b_X11_game_34 told_gloves told_house told_after laws_holds laws_lengths laws_c0 laws_c1 laws_c2 laws_c3 now_cells laws_letters laws_stack
      else
        if v2 < (0 : Int32) then
          b_X11_game_34 told_gloves told_house told_after laws_holds laws_lengths laws_c0 laws_c1 laws_c2 laws_c3 now_cells laws_letters laws_stack
        else
          if (4 : Int32) < v2 then
            b_X11_game_34 told_gloves told_house told_after laws_holds laws_lengths laws_c0 laws_c1 laws_c2 laws_c3 now_cells laws_letters laws_stack
          else
            if v3 < (0 : Int32) then
              b_X11_game_34 told_gloves told_house told_after laws_holds laws_lengths laws_c0 laws_c1 laws_c2 laws_c3 now_cells laws_letters laws_stack
            else
              if v3 ≤ (1 : Int32) then
                ob1 (f_X5_nth told_gloves told_house (0 : Int32) v1) fun r_3 =>
                ob1 (f_X5_nth told_gloves told_house (1 : Int32) v2) fun r_5 =>
                if v3 = (0 : Int32) then
                  ob3 (f_X9_gains told_gloves told_after laws_holds laws_lengths laws_c0 laws_c1 laws_c2 laws_c3 now_cells laws_letters laws_stack r_3 r_5) fun r_11 laws_letters_12 laws_stack_13 =>
                  some (r_11, laws_letters_12, laws_stack_13)
                else
                  ob3 (f_X9_gains told_gloves told_after laws_holds laws_lengths laws_c0 laws_c1 laws_c2 laws_c3 now_cells laws_letters laws_stack r_5 r_3) fun r_7 laws_letters_8 laws_stack_9 =>
                  some (r_7, laws_letters_8, laws_stack_9)
              else
                b_X11_game_34 told_gloves told_house told_after laws_holds laws_lengths laws_c0 laws_c1 laws_c2 laws_c3 now_cells laws_letters laws_stack
  else
    b_X11_game_34 told_gloves told_house told_after laws_holds laws_lengths laws_c0 laws_c1 laws_c2 laws_c3 now_cells laws_letters laws_stack
noncomputable def f_X11_game (told_gloves : Int32) (told_house : Nat → Int32) (told_after : Nat → Int32) (laws_holds : Int32) (laws_lengths : Nat → Int32) (laws_c0 : Nat → Int32) (laws_c1 : Nat → Int32) (laws_c2 : Nat → Int32) (laws_c3 : Nat → Int32) (now_cells : Nat → Int32) (laws_letters : Nat → Int32) (laws_stack : Nat → Int32) (p1 : Int32) (p2 : Int32) (p3 : Int32) : Option (Int32 × (Nat → Int32) × (Nat → Int32)) := b_X11_game_0 told_gloves told_house told_after laws_holds laws_lengths laws_c0 laws_c1 laws_c2 laws_c3 now_cells laws_letters laws_stack p1 p2 p3
noncomputable def b_X11_leastGain_42 (told_gloves : Int32) (told_house : Nat → Int32) (told_after : Nat → Int32) (laws_holds : Int32) (laws_lengths : Nat → Int32) (laws_c0 : Nat → Int32) (laws_c1 : Nat → Int32) (laws_c2 : Nat → Int32) (laws_c3 : Nat → Int32) (now_cells : Nat → Int32) (k5 : (Nat → Int32) → (Nat → Int32) → Int32 → Int32 → Int32 → Option (Int32 × (Nat → Int32) × (Nat → Int32))) (laws_letters : Nat → Int32) (laws_stack : Nat → Int32) (v1 : Int32) (v2 : Int32) (v3 : Int32) : Option (Int32 × (Nat → Int32) × (Nat → Int32)) :=
  bnd (v3 + (1 : Int32)) fun v3_1 =>
  k5 laws_letters laws_stack v1 v2 v3_1
noncomputable def b_X11_leastGain_5 (told_gloves : Int32) (told_house : Nat → Int32) (told_after : Nat → Int32) (laws_holds : Int32) (laws_lengths : Nat → Int32) (laws_c0 : Nat → Int32) (laws_c1 : Nat → Int32) (laws_c2 : Nat → Int32) (laws_c3 : Nat → Int32) (now_cells : Nat → Int32) (k5 : (Nat → Int32) → (Nat → Int32) → Int32 → Int32 → Int32 → Option (Int32 × (Nat → Int32) × (Nat → Int32))) (laws_letters : Nat → Int32) (laws_stack : Nat → Int32) (v1 : Int32) (v2 : Int32) (v3 : Int32) : Option (Int32 × (Nat → Int32) × (Nat → Int32)) :=
  if told_gloves ≤ v3 then
    some (v2, laws_letters, laws_stack)
  else
    ob1 (f_X5_unlike told_gloves told_house v1 v3) fun r_1 =>
    if r_1 = (0 : Int32) then
      b_X11_leastGain_42 told_gloves told_house told_after laws_holds laws_lengths laws_c0 laws_c1 laws_c2 laws_c3 now_cells k5 laws_letters laws_stack v1 v2 v3
    else
      ob3 (f_X9_gains told_gloves told_after laws_holds laws_lengths laws_c0 laws_c1 laws_c2 laws_c3 now_cells laws_letters laws_stack v1 v3) fun r_3 laws_letters_4 laws_stack_5 =>
      bnd (mn v2 r_3) fun n_7 =>
      b_X11_leastGain_42 told_gloves told_house told_after laws_holds laws_lengths laws_c0 laws_c1 laws_c2 laws_c3 now_cells k5 laws_letters_4 laws_stack_5 v1 n_7 v3
noncomputable def f_X11_leastGain_5 (told_gloves : Int32) (told_house : Nat → Int32) (told_after : Nat → Int32) (laws_holds : Int32) (laws_lengths : Nat → Int32) (laws_c0 : Nat → Int32) (laws_c1 : Nat → Int32) (laws_c2 : Nat → Int32) (laws_c3 : Nat → Int32) (now_cells : Nat → Int32) : Nat → (Nat → Int32) → (Nat → Int32) → Int32 → Int32 → Int32 → Option (Int32 × (Nat → Int32) × (Nat → Int32))
  | 0, _, _, _, _, _ => none
  | n + 1, laws_letters, laws_stack, v1, v2, v3 => b_X11_leastGain_5 told_gloves told_house told_after laws_holds laws_lengths laws_c0 laws_c1 laws_c2 laws_c3 now_cells (f_X11_leastGain_5 told_gloves told_house told_after laws_holds laws_lengths laws_c0 laws_c1 laws_c2 laws_c3 now_cells n) laws_letters laws_stack v1 v2 v3
noncomputable def b_X11_leastGain_0 (told_gloves : Int32) (told_house : Nat → Int32) (told_after : Nat → Int32) (laws_holds : Int32) (laws_lengths : Nat → Int32) (laws_c0 : Nat → Int32) (laws_c1 : Nat → Int32) (laws_c2 : Nat → Int32) (laws_c3 : Nat → Int32) (now_cells : Nat → Int32) (laws_letters : Nat → Int32) (laws_stack : Nat → Int32) (v1 : Int32) : Option (Int32 × (Nat → Int32) × (Nat → Int32)) :=
  f_X11_leastGain_5 told_gloves told_house told_after laws_holds laws_lengths laws_c0 laws_c1 laws_c2 laws_c3 now_cells fu laws_letters laws_stack v1 (9 : Int32) (0 : Int32)
noncomputable def f_X11_leastGain (told_gloves : Int32) (told_house : Nat → Int32) (told_after : Nat → Int32) (laws_holds : Int32) (laws_lengths : Nat → Int32) (laws_c0 : Nat → Int32) (laws_c1 : Nat → Int32) (laws_c2 : Nat → Int32) (laws_c3 : Nat → Int32) (now_cells : Nat → Int32) (laws_letters : Nat → Int32) (laws_stack : Nat → Int32) (p1 : Int32) : Option (Int32 × (Nat → Int32) × (Nat → Int32)) := b_X11_leastGain_0 told_gloves told_house told_after laws_holds laws_lengths laws_c0 laws_c1 laws_c2 laws_c3 now_cells laws_letters laws_stack p1
noncomputable def b_X11_sure_16 (told_gloves : Int32) (told_house : Nat → Int32) (told_after : Nat → Int32) (laws_holds : Int32) (laws_lengths : Nat → Int32) (laws_c0 : Nat → Int32) (laws_c1 : Nat → Int32) (laws_c2 : Nat → Int32) (laws_c3 : Nat → Int32) (now_cells : Nat → Int32) (laws_letters : Nat → Int32) (laws_stack : Nat → Int32) : Option (Int32 × (Nat → Int32) × (Nat → Int32)) :=
  some ((-1000000 : Int32), laws_letters, laws_stack)
noncomputable def b_X11_sure_59 (told_gloves : Int32) (told_house : Nat → Int32) (told_after : Nat → Int32) (laws_holds : Int32) (laws_lengths : Nat → Int32) (laws_c0 : Nat → Int32) (laws_c1 : Nat → Int32) (laws_c2 : Nat → Int32) (laws_c3 : Nat → Int32) (now_cells : Nat → Int32) (k25 : (Nat → Int32) → (Nat → Int32) → Int32 → Int32 → Int32 → Option (Int32 × (Nat → Int32) × (Nat → Int32))) (laws_letters : Nat → Int32) (laws_stack : Nat → Int32) (v1 : Int32) (v2 : Int32) (v3 : Int32) : Option (Int32 × (Nat → Int32) × (Nat → Int32)) :=
  bnd (v3 + (1 : Int32)) fun v3_1 =>
  k25 laws_letters laws_stack v1 v2 v3_1
noncomputable def b_X11_sure_25 (told_gloves : Int32) (told_house : Nat → Int32) (told_after : Nat → Int32) (laws_holds : Int32) (laws_lengths : Nat → Int32) (laws_c0 : Nat → Int32) (laws_c1 : Nat → Int32) (laws_c2 : Nat → Int32) (laws_c3 : Nat → Int32) (now_cells : Nat → Int32) (k25 : (Nat → Int32) → (Nat → Int32) → Int32 → Int32 → Int32 → Option (Int32 × (Nat → Int32) × (Nat → Int32))) (laws_letters : Nat → Int32) (laws_stack : Nat → Int32) (v1 : Int32) (v2 : Int32) (v3 : Int32) : Option (Int32 × (Nat → Int32) × (Nat → Int32)) :=
  if told_gloves ≤ v3 then
    some (v2, laws_letters, laws_stack)
  else
    gd (inB v3 6) <|
    if (told_house v3.toNatClampNeg) = v1 then
      ob3 (f_X11_leastGain told_gloves told_house told_after laws_holds laws_lengths laws_c0 laws_c1 laws_c2 laws_c3 now_cells laws_letters laws_stack v3) fun r_2 laws_letters_3 laws_stack_4 =>
      bnd (mx v2 r_2) fun n_6 =>
      b_X11_sure_59 told_gloves told_house told_after laws_holds laws_lengths laws_c0 laws_c1 laws_c2 laws_c3 now_cells k25 laws_letters_3 laws_stack_4 v1 n_6 v3
    else
      b_X11_sure_59 told_gloves told_house told_after laws_holds laws_lengths laws_c0 laws_c1 laws_c2 laws_c3 now_cells k25 laws_letters laws_stack v1 v2 v3
noncomputable def f_X11_sure_25 (told_gloves : Int32) (told_house : Nat → Int32) (told_after : Nat → Int32) (laws_holds : Int32) (laws_lengths : Nat → Int32) (laws_c0 : Nat → Int32) (laws_c1 : Nat → Int32) (laws_c2 : Nat → Int32) (laws_c3 : Nat → Int32) (now_cells : Nat → Int32) : Nat → (Nat → Int32) → (Nat → Int32) → Int32 → Int32 → Int32 → Option (Int32 × (Nat → Int32) × (Nat → Int32))
  | 0, _, _, _, _, _ => none
  | n + 1, laws_letters, laws_stack, v1, v2, v3 => b_X11_sure_25 told_gloves told_house told_after laws_holds laws_lengths laws_c0 laws_c1 laws_c2 laws_c3 now_cells (f_X11_sure_25 told_gloves told_house told_after laws_holds laws_lengths laws_c0 laws_c1 laws_c2 laws_c3 now_cells n) laws_letters laws_stack v1 v2 v3
noncomputable def b_X11_sure_0 (told_gloves : Int32) (told_house : Nat → Int32) (told_after : Nat → Int32) (laws_holds : Int32) (laws_lengths : Nat → Int32) (laws_c0 : Nat → Int32) (laws_c1 : Nat → Int32) (laws_c2 : Nat → Int32) (laws_c3 : Nat → Int32) (now_cells : Nat → Int32) (laws_letters : Nat → Int32) (laws_stack : Nat → Int32) (v1 : Int32) : Option (Int32 × (Nat → Int32) × (Nat → Int32)) :=
  ob1 (f_X11_noPeace told_gloves) fun r_1 =>
  if r_1 = (0 : Int32) then
    if v1 < (0 : Int32) then
      b_X11_sure_16 told_gloves told_house told_after laws_holds laws_lengths laws_c0 laws_c1 laws_c2 laws_c3 now_cells laws_letters laws_stack
    else
      if v1 ≤ (1 : Int32) then
        f_X11_sure_25 told_gloves told_house told_after laws_holds laws_lengths laws_c0 laws_c1 laws_c2 laws_c3 now_cells fu laws_letters laws_stack v1 (-20 : Int32) (0 : Int32)
      else
        b_X11_sure_16 told_gloves told_house told_after laws_holds laws_lengths laws_c0 laws_c1 laws_c2 laws_c3 now_cells laws_letters laws_stack
  else
    b_X11_sure_16 told_gloves told_house told_after laws_holds laws_lengths laws_c0 laws_c1 laws_c2 laws_c3 now_cells laws_letters laws_stack
noncomputable def f_X11_sure (told_gloves : Int32) (told_house : Nat → Int32) (told_after : Nat → Int32) (laws_holds : Int32) (laws_lengths : Nat → Int32) (laws_c0 : Nat → Int32) (laws_c1 : Nat → Int32) (laws_c2 : Nat → Int32) (laws_c3 : Nat → Int32) (now_cells : Nat → Int32) (laws_letters : Nat → Int32) (laws_stack : Nat → Int32) (p1 : Int32) : Option (Int32 × (Nat → Int32) × (Nat → Int32)) := b_X11_sure_0 told_gloves told_house told_after laws_holds laws_lengths laws_c0 laws_c1 laws_c2 laws_c3 now_cells laws_letters laws_stack p1
noncomputable def b_X11_isRest_91 (told_gloves : Int32) (told_house : Nat → Int32) (told_after : Nat → Int32) (laws_holds : Int32) (laws_lengths : Nat → Int32) (laws_c0 : Nat → Int32) (laws_c1 : Nat → Int32) (laws_c2 : Nat → Int32) (laws_c3 : Nat → Int32) (now_cells : Nat → Int32) (k24 : (Nat → Int32) → (Nat → Int32) → Int32 → Int32 → Int32 → Int32 → Int32 → Option (Int32 × (Nat → Int32) × (Nat → Int32))) (laws_letters : Nat → Int32) (laws_stack : Nat → Int32) (v1 : Int32) (v2 : Int32) (v3 : Int32) (v4 : Int32) (v5 : Int32) (t0 : Int32) : Option (Int32 × (Nat → Int32) × (Nat → Int32)) :=
  if t0 = (0 : Int32) then
    bnd (v5 + (1 : Int32)) fun v5_1 =>
    k24 laws_letters laws_stack v1 v2 v3 v4 v5_1
  else
    some ((0 : Int32), laws_letters, laws_stack)
noncomputable def b_X11_isRest_24 (told_gloves : Int32) (told_house : Nat → Int32) (told_after : Nat → Int32) (laws_holds : Int32) (laws_lengths : Nat → Int32) (laws_c0 : Nat → Int32) (laws_c1 : Nat → Int32) (laws_c2 : Nat → Int32) (laws_c3 : Nat → Int32) (now_cells : Nat → Int32) (k24 : (Nat → Int32) → (Nat → Int32) → Int32 → Int32 → Int32 → Int32 → Int32 → Option (Int32 × (Nat → Int32) × (Nat → Int32))) (laws_letters : Nat → Int32) (laws_stack : Nat → Int32) (v1 : Int32) (v2 : Int32) (v3 : Int32) (v4 : Int32) (v5 : Int32) : Option (Int32 × (Nat → Int32) × (Nat → Int32)) :=
  if told_gloves ≤ v5 then
    some ((1 : Int32), laws_letters, laws_stack)
  else
    gd (inB v5 6) <|
    if (told_house v5.toNatClampNeg) = (0 : Int32) then
      ob3 (f_X9_gains told_gloves told_after laws_holds laws_lengths laws_c0 laws_c1 laws_c2 laws_c3 now_cells laws_letters laws_stack v5 v2) fun r_6 laws_letters_7 laws_stack_8 =>
      if r_6 ≤ v3 then
        b_X11_isRest_91 told_gloves told_house told_after laws_holds laws_lengths laws_c0 laws_c1 laws_c2 laws_c3 now_cells k24 laws_letters_7 laws_stack_8 v1 v2 v3 v4 v5 (0 : Int32)
      else
        b_X11_isRest_91 told_gloves told_house told_after laws_holds laws_lengths laws_c0 laws_c1 laws_c2 laws_c3 now_cells k24 laws_letters_7 laws_stack_8 v1 v2 v3 v4 v5 (1 : Int32)
    else
      ob3 (f_X9_gains told_gloves told_after laws_holds laws_lengths laws_c0 laws_c1 laws_c2 laws_c3 now_cells laws_letters laws_stack v5 v1) fun r_2 laws_letters_3 laws_stack_4 =>
      if r_2 ≤ v4 then
        b_X11_isRest_91 told_gloves told_house told_after laws_holds laws_lengths laws_c0 laws_c1 laws_c2 laws_c3 now_cells k24 laws_letters_3 laws_stack_4 v1 v2 v3 v4 v5 (0 : Int32)
      else
        b_X11_isRest_91 told_gloves told_house told_after laws_holds laws_lengths laws_c0 laws_c1 laws_c2 laws_c3 now_cells k24 laws_letters_3 laws_stack_4 v1 v2 v3 v4 v5 (1 : Int32)
noncomputable def f_X11_isRest_24 (told_gloves : Int32) (told_house : Nat → Int32) (told_after : Nat → Int32) (laws_holds : Int32) (laws_lengths : Nat → Int32) (laws_c0 : Nat → Int32) (laws_c1 : Nat → Int32) (laws_c2 : Nat → Int32) (laws_c3 : Nat → Int32) (now_cells : Nat → Int32) : Nat → (Nat → Int32) → (Nat → Int32) → Int32 → Int32 → Int32 → Int32 → Int32 → Option (Int32 × (Nat → Int32) × (Nat → Int32))
  | 0, _, _, _, _, _, _, _ => none
  | n + 1, laws_letters, laws_stack, v1, v2, v3, v4, v5 => b_X11_isRest_24 told_gloves told_house told_after laws_holds laws_lengths laws_c0 laws_c1 laws_c2 laws_c3 now_cells (f_X11_isRest_24 told_gloves told_house told_after laws_holds laws_lengths laws_c0 laws_c1 laws_c2 laws_c3 now_cells n) laws_letters laws_stack v1 v2 v3 v4 v5
noncomputable def b_X11_isRest_0 (told_gloves : Int32) (told_house : Nat → Int32) (told_after : Nat → Int32) (laws_holds : Int32) (laws_lengths : Nat → Int32) (laws_c0 : Nat → Int32) (laws_c1 : Nat → Int32) (laws_c2 : Nat → Int32) (laws_c3 : Nat → Int32) (now_cells : Nat → Int32) (laws_letters : Nat → Int32) (laws_stack : Nat → Int32) (v1 : Int32) (v2 : Int32) : Option (Int32 × (Nat → Int32) × (Nat → Int32)) :=
  ob3 (f_X9_gains told_gloves told_after laws_holds laws_lengths laws_c0 laws_c1 laws_c2 laws_c3 now_cells laws_letters laws_stack v1 v2) fun r_1 laws_letters_2 laws_stack_3 =>
  ob3 (f_X9_gains told_gloves told_after laws_holds laws_lengths laws_c0 laws_c1 laws_c2 laws_c3 now_cells laws_letters_2 laws_stack_3 v2 v1) fun r_5 laws_letters_6 laws_stack_7 =>
  f_X11_isRest_24 told_gloves told_house told_after laws_holds laws_lengths laws_c0 laws_c1 laws_c2 laws_c3 now_cells fu laws_letters_6 laws_stack_7 v1 v2 r_1 r_5 (0 : Int32)
noncomputable def f_X11_isRest (told_gloves : Int32) (told_house : Nat → Int32) (told_after : Nat → Int32) (laws_holds : Int32) (laws_lengths : Nat → Int32) (laws_c0 : Nat → Int32) (laws_c1 : Nat → Int32) (laws_c2 : Nat → Int32) (laws_c3 : Nat → Int32) (now_cells : Nat → Int32) (laws_letters : Nat → Int32) (laws_stack : Nat → Int32) (p1 : Int32) (p2 : Int32) : Option (Int32 × (Nat → Int32) × (Nat → Int32)) := b_X11_isRest_0 told_gloves told_house told_after laws_holds laws_lengths laws_c0 laws_c1 laws_c2 laws_c3 now_cells laws_letters laws_stack p1 p2
noncomputable def b_X11_rests_88 (told_gloves : Int32) (told_house : Nat → Int32) (told_after : Nat → Int32) (laws_holds : Int32) (laws_lengths : Nat → Int32) (laws_c0 : Nat → Int32) (laws_c1 : Nat → Int32) (laws_c2 : Nat → Int32) (laws_c3 : Nat → Int32) (now_cells : Nat → Int32) (k18 : (Nat → Int32) → (Nat → Int32) → Int32 → Int32 → Int32 → Option (Int32 × (Nat → Int32) × (Nat → Int32))) (k33 : (Nat → Int32) → (Nat → Int32) → Int32 → Int32 → Int32 → Int32 → Option (Int32 × (Nat → Int32) × (Nat → Int32))) (laws_letters : Nat → Int32) (laws_stack : Nat → Int32) (v1 : Int32) (v2 : Int32) (v3 : Int32) (v4 : Int32) : Option (Int32 × (Nat → Int32) × (Nat → Int32)) :=
  bnd (v4 + (1 : Int32)) fun v4_1 =>
  k33 laws_letters laws_stack v1 v2 v3 v4_1
noncomputable def b_X11_rests_33 (told_gloves : Int32) (told_house : Nat → Int32) (told_after : Nat → Int32) (laws_holds : Int32) (laws_lengths : Nat → Int32) (laws_c0 : Nat → Int32) (laws_c1 : Nat → Int32) (laws_c2 : Nat → Int32) (laws_c3 : Nat → Int32) (now_cells : Nat → Int32) (k18 : (Nat → Int32) → (Nat → Int32) → Int32 → Int32 → Int32 → Option (Int32 × (Nat → Int32) × (Nat → Int32))) (k33 : (Nat → Int32) → (Nat → Int32) → Int32 → Int32 → Int32 → Int32 → Option (Int32 × (Nat → Int32) × (Nat → Int32))) (laws_letters : Nat → Int32) (laws_stack : Nat → Int32) (v1 : Int32) (v2 : Int32) (v3 : Int32) (v4 : Int32) : Option (Int32 × (Nat → Int32) × (Nat → Int32)) :=
  ob1 (f_X5_sizeOf told_gloves told_house (1 : Int32)) fun r_1 =>
  if r_1 ≤ v4 then
    bnd (v3 + (1 : Int32)) fun v3_3 =>
    k18 laws_letters laws_stack v1 v2 v3_3
  else
    ob1 (f_X5_nth told_gloves told_house (0 : Int32) v3) fun r_4 =>
    ob1 (f_X5_nth told_gloves told_house (1 : Int32) v4) fun r_6 =>
    ob3 (f_X11_isRest told_gloves told_house told_after laws_holds laws_lengths laws_c0 laws_c1 laws_c2 laws_c3 now_cells laws_letters laws_stack r_4 r_6) fun r_8 laws_letters_9 laws_stack_10 =>
    if r_8 = (0 : Int32) then
      b_X11_rests_88 told_gloves told_house told_after laws_holds laws_lengths laws_c0 laws_c1 laws_c2 laws_c3 now_cells k18 k33 laws_letters_9 laws_stack_10 v1 v2 v3 v4
    else
      if v2 = v1 then
        some ((((10 : Int32) * v3) + v4), laws_letters_9, laws_stack_10)
      else
        bnd (v2 + (1 : Int32)) fun v2_12 =>
        b_X11_rests_88 told_gloves told_house told_after laws_holds laws_lengths laws_c0 laws_c1 laws_c2 laws_c3 now_cells k18 k33 laws_letters_9 laws_stack_10 v1 v2_12 v3 v4
noncomputable def f_X11_rests_33 (told_gloves : Int32) (told_house : Nat → Int32) (told_after : Nat → Int32) (laws_holds : Int32) (laws_lengths : Nat → Int32) (laws_c0 : Nat → Int32) (laws_c1 : Nat → Int32) (laws_c2 : Nat → Int32) (laws_c3 : Nat → Int32) (now_cells : Nat → Int32) (k18 : (Nat → Int32) → (Nat → Int32) → Int32 → Int32 → Int32 → Option (Int32 × (Nat → Int32) × (Nat → Int32))) : Nat → (Nat → Int32) → (Nat → Int32) → Int32 → Int32 → Int32 → Int32 → Option (Int32 × (Nat → Int32) × (Nat → Int32))
  | 0, _, _, _, _, _, _ => none
  | n + 1, laws_letters, laws_stack, v1, v2, v3, v4 => b_X11_rests_33 told_gloves told_house told_after laws_holds laws_lengths laws_c0 laws_c1 laws_c2 laws_c3 now_cells k18 (f_X11_rests_33 told_gloves told_house told_after laws_holds laws_lengths laws_c0 laws_c1 laws_c2 laws_c3 now_cells k18 n) laws_letters laws_stack v1 v2 v3 v4
noncomputable def b_X11_rests_18 (told_gloves : Int32) (told_house : Nat → Int32) (told_after : Nat → Int32) (laws_holds : Int32) (laws_lengths : Nat → Int32) (laws_c0 : Nat → Int32) (laws_c1 : Nat → Int32) (laws_c2 : Nat → Int32) (laws_c3 : Nat → Int32) (now_cells : Nat → Int32) (k18 : (Nat → Int32) → (Nat → Int32) → Int32 → Int32 → Int32 → Option (Int32 × (Nat → Int32) × (Nat → Int32))) (laws_letters : Nat → Int32) (laws_stack : Nat → Int32) (v1 : Int32) (v2 : Int32) (v3 : Int32) : Option (Int32 × (Nat → Int32) × (Nat → Int32)) :=
  ob1 (f_X5_sizeOf told_gloves told_house (0 : Int32)) fun r_1 =>
  if r_1 ≤ v3 then
    if v1 = (-1 : Int32) then
      some (v2, laws_letters, laws_stack)
    else
      some ((-1 : Int32), laws_letters, laws_stack)
  else
    f_X11_rests_33 told_gloves told_house told_after laws_holds laws_lengths laws_c0 laws_c1 laws_c2 laws_c3 now_cells k18 fu laws_letters laws_stack v1 v2 v3 (0 : Int32)
noncomputable def f_X11_rests_18 (told_gloves : Int32) (told_house : Nat → Int32) (told_after : Nat → Int32) (laws_holds : Int32) (laws_lengths : Nat → Int32) (laws_c0 : Nat → Int32) (laws_c1 : Nat → Int32) (laws_c2 : Nat → Int32) (laws_c3 : Nat → Int32) (now_cells : Nat → Int32) : Nat → (Nat → Int32) → (Nat → Int32) → Int32 → Int32 → Int32 → Option (Int32 × (Nat → Int32) × (Nat → Int32))
  | 0, _, _, _, _, _ => none
  | n + 1, laws_letters, laws_stack, v1, v2, v3 => b_X11_rests_18 told_gloves told_house told_after laws_holds laws_lengths laws_c0 laws_c1 laws_c2 laws_c3 now_cells (f_X11_rests_18 told_gloves told_house told_after laws_holds laws_lengths laws_c0 laws_c1 laws_c2 laws_c3 now_cells n) laws_letters laws_stack v1 v2 v3
noncomputable def b_X11_rests_0 (told_gloves : Int32) (told_house : Nat → Int32) (told_after : Nat → Int32) (laws_holds : Int32) (laws_lengths : Nat → Int32) (laws_c0 : Nat → Int32) (laws_c1 : Nat → Int32) (laws_c2 : Nat → Int32) (laws_c3 : Nat → Int32) (now_cells : Nat → Int32) (laws_letters : Nat → Int32) (laws_stack : Nat → Int32) (v1 : Int32) : Option (Int32 × (Nat → Int32) × (Nat → Int32)) :=
  ob1 (f_X11_noPeace told_gloves) fun r_1 =>
  if r_1 = (0 : Int32) then
    if (-1 : Int32) ≤ v1 then
      f_X11_rests_18 told_gloves told_house told_after laws_holds laws_lengths laws_c0 laws_c1 laws_c2 laws_c3 now_cells fu laws_letters laws_stack v1 (0 : Int32) (0 : Int32)
    else
      some ((-1 : Int32), laws_letters, laws_stack)
  else
    some ((-1 : Int32), laws_letters, laws_stack)
noncomputable def f_X11_rests (told_gloves : Int32) (told_house : Nat → Int32) (told_after : Nat → Int32) (laws_holds : Int32) (laws_lengths : Nat → Int32) (laws_c0 : Nat → Int32) (laws_c1 : Nat → Int32) (laws_c2 : Nat → Int32) (laws_c3 : Nat → Int32) (now_cells : Nat → Int32) (laws_letters : Nat → Int32) (laws_stack : Nat → Int32) (p1 : Int32) : Option (Int32 × (Nat → Int32) × (Nat → Int32)) := b_X11_rests_0 told_gloves told_house told_after laws_holds laws_lengths laws_c0 laws_c1 laws_c2 laws_c3 now_cells laws_letters laws_stack p1
noncomputable def b_X7_behind_0 (F_X7_behind : (Nat → Int32) → Int32 → (Nat → Int32) → (Nat → Int32) → (Nat → Int32) → (Nat → Int32) → (Nat → Int32) → (Nat → Int32) → Int32 → Int32 → Int32 → Int32 → (Nat → Int32) → (Nat → Int32) → Int32 → Int32 → Int32 → Option (Int32 × (Nat → Int32) × (Nat → Int32))) (F_X7_split : (Nat → Int32) → Int32 → (Nat → Int32) → (Nat → Int32) → (Nat → Int32) → (Nat → Int32) → (Nat → Int32) → (Nat → Int32) → Int32 → Int32 → Int32 → Int32 → (Nat → Int32) → (Nat → Int32) → Int32 → Int32 → Int32 → Option (Int32 × (Nat → Int32) × (Nat → Int32))) (told_after : Nat → Int32) (laws_holds : Int32) (laws_lengths : Nat → Int32) (laws_c0 : Nat → Int32) (laws_c1 : Nat → Int32) (laws_c2 : Nat → Int32) (laws_c3 : Nat → Int32) (S_cells : Nat → Int32) (qu_pair : Int32) (qu_need : Int32) (qu_meetings : Int32) (qu_chance : Int32) (laws_letters : Nat → Int32) (laws_stack : Nat → Int32) (v1 : Int32) (v2 : Int32) (v3 : Int32) : Option (Int32 × (Nat → Int32) × (Nat → Int32)) :=
  if v2 < qu_need then
    ob3 (F_X7_split told_after laws_holds laws_lengths laws_c0 laws_c1 laws_c2 laws_c3 S_cells qu_pair qu_need qu_meetings qu_chance laws_letters laws_stack v1 v2 v3) fun r_1 laws_letters_2 laws_stack_3 =>
    some (r_1, laws_letters_2, laws_stack_3)
  else
    some (v1, laws_letters, laws_stack)
noncomputable def g_X7_behind (F_X7_behind : (Nat → Int32) → Int32 → (Nat → Int32) → (Nat → Int32) → (Nat → Int32) → (Nat → Int32) → (Nat → Int32) → (Nat → Int32) → Int32 → Int32 → Int32 → Int32 → (Nat → Int32) → (Nat → Int32) → Int32 → Int32 → Int32 → Option (Int32 × (Nat → Int32) × (Nat → Int32))) (F_X7_split : (Nat → Int32) → Int32 → (Nat → Int32) → (Nat → Int32) → (Nat → Int32) → (Nat → Int32) → (Nat → Int32) → (Nat → Int32) → Int32 → Int32 → Int32 → Int32 → (Nat → Int32) → (Nat → Int32) → Int32 → Int32 → Int32 → Option (Int32 × (Nat → Int32) × (Nat → Int32))) (told_after : Nat → Int32) (laws_holds : Int32) (laws_lengths : Nat → Int32) (laws_c0 : Nat → Int32) (laws_c1 : Nat → Int32) (laws_c2 : Nat → Int32) (laws_c3 : Nat → Int32) (S_cells : Nat → Int32) (qu_pair : Int32) (qu_need : Int32) (qu_meetings : Int32) (qu_chance : Int32) (laws_letters : Nat → Int32) (laws_stack : Nat → Int32) (p1 : Int32) (p2 : Int32) (p3 : Int32) : Option (Int32 × (Nat → Int32) × (Nat → Int32)) := b_X7_behind_0 F_X7_behind F_X7_split told_after laws_holds laws_lengths laws_c0 laws_c1 laws_c2 laws_c3 S_cells qu_pair qu_need qu_meetings qu_chance laws_letters laws_stack p1 p2 p3
noncomputable def b_X7_split_0 (F_X7_behind : (Nat → Int32) → Int32 → (Nat → Int32) → (Nat → Int32) → (Nat → Int32) → (Nat → Int32) → (Nat → Int32) → (Nat → Int32) → Int32 → Int32 → Int32 → Int32 → (Nat → Int32) → (Nat → Int32) → Int32 → Int32 → Int32 → Option (Int32 × (Nat → Int32) × (Nat → Int32))) (F_X7_split : (Nat → Int32) → Int32 → (Nat → Int32) → (Nat → Int32) → (Nat → Int32) → (Nat → Int32) → (Nat → Int32) → (Nat → Int32) → Int32 → Int32 → Int32 → Int32 → (Nat → Int32) → (Nat → Int32) → Int32 → Int32 → Int32 → Option (Int32 × (Nat → Int32) × (Nat → Int32))) (told_after : Nat → Int32) (laws_holds : Int32) (laws_lengths : Nat → Int32) (laws_c0 : Nat → Int32) (laws_c1 : Nat → Int32) (laws_c2 : Nat → Int32) (laws_c3 : Nat → Int32) (S_cells : Nat → Int32) (qu_pair : Int32) (qu_need : Int32) (qu_meetings : Int32) (qu_chance : Int32) (laws_letters : Nat → Int32) (laws_stack : Nat → Int32) (v1 : Int32) (v2 : Int32) (v3 : Int32) : Option (Int32 × (Nat → Int32) × (Nat → Int32)) :=
  if qu_meetings ≤ v3 then
    some ((0 : Int32), laws_letters, laws_stack)
  else
    if (8 : Int32) ≤ v3 then
      some ((0 : Int32), laws_letters, laws_stack)
    else
      if v1 = (0 : Int32) then
        some ((0 : Int32), laws_letters, laws_stack)
      else
        bnd ((((v1.toInt64) * (qu_chance.toInt64)) / (100 : Int64)).toInt32) fun v4_1 =>
        bnd (rem qu_pair (10 : Int32)) fun n_2 =>
        ob3 (f_X9_warmer told_after laws_holds laws_lengths laws_c0 laws_c1 laws_c2 laws_c3 S_cells laws_letters laws_stack (qu_pair / (10 : Int32)) n_2 v2 v3) fun r_3 laws_letters_4 laws_stack_5 =>
        ob3 (F_X7_behind told_after laws_holds laws_lengths laws_c0 laws_c1 laws_c2 laws_c3 S_cells qu_pair qu_need qu_meetings qu_chance laws_letters_4 laws_stack_5 v4_1 (v2 / (2 : Int32)) (v3 + (1 : Int32))) fun r_7 laws_letters_8 laws_stack_9 =>
        ob3 (F_X7_behind told_after laws_holds laws_lengths laws_c0 laws_c1 laws_c2 laws_c3 S_cells qu_pair qu_need qu_meetings qu_chance laws_letters_8 laws_stack_9 (v1 - v4_1) r_3 (v3 + (1 : Int32))) fun r_11 laws_letters_12 laws_stack_13 =>
        some ((r_7 + r_11), laws_letters_12, laws_stack_13)
noncomputable def g_X7_split (F_X7_behind : (Nat → Int32) → Int32 → (Nat → Int32) → (Nat → Int32) → (Nat → Int32) → (Nat → Int32) → (Nat → Int32) → (Nat → Int32) → Int32 → Int32 → Int32 → Int32 → (Nat → Int32) → (Nat → Int32) → Int32 → Int32 → Int32 → Option (Int32 × (Nat → Int32) × (Nat → Int32))) (F_X7_split : (Nat → Int32) → Int32 → (Nat → Int32) → (Nat → Int32) → (Nat → Int32) → (Nat → Int32) → (Nat → Int32) → (Nat → Int32) → Int32 → Int32 → Int32 → Int32 → (Nat → Int32) → (Nat → Int32) → Int32 → Int32 → Int32 → Option (Int32 × (Nat → Int32) × (Nat → Int32))) (told_after : Nat → Int32) (laws_holds : Int32) (laws_lengths : Nat → Int32) (laws_c0 : Nat → Int32) (laws_c1 : Nat → Int32) (laws_c2 : Nat → Int32) (laws_c3 : Nat → Int32) (S_cells : Nat → Int32) (qu_pair : Int32) (qu_need : Int32) (qu_meetings : Int32) (qu_chance : Int32) (laws_letters : Nat → Int32) (laws_stack : Nat → Int32) (p1 : Int32) (p2 : Int32) (p3 : Int32) : Option (Int32 × (Nat → Int32) × (Nat → Int32)) := b_X7_split_0 F_X7_behind F_X7_split told_after laws_holds laws_lengths laws_c0 laws_c1 laws_c2 laws_c3 S_cells qu_pair qu_need qu_meetings qu_chance laws_letters laws_stack p1 p2 p3
noncomputable def rc_X7_behind : Nat → ((Nat → Int32) → Int32 → (Nat → Int32) → (Nat → Int32) → (Nat → Int32) → (Nat → Int32) → (Nat → Int32) → (Nat → Int32) → Int32 → Int32 → Int32 → Int32 → (Nat → Int32) → (Nat → Int32) → Int32 → Int32 → Int32 → Option (Int32 × (Nat → Int32) × (Nat → Int32))) × ((Nat → Int32) → Int32 → (Nat → Int32) → (Nat → Int32) → (Nat → Int32) → (Nat → Int32) → (Nat → Int32) → (Nat → Int32) → Int32 → Int32 → Int32 → Int32 → (Nat → Int32) → (Nat → Int32) → Int32 → Int32 → Int32 → Option (Int32 × (Nat → Int32) × (Nat → Int32)))
  | 0 => (fun _ _ _ _ _ _ _ _ _ _ _ _ _ _ _ _ _ => none, fun _ _ _ _ _ _ _ _ _ _ _ _ _ _ _ _ _ => none)
  | d + 1 => (g_X7_behind (rc_X7_behind d).1 (rc_X7_behind d).2, g_X7_split (rc_X7_behind d).1 (rc_X7_behind d).2)
noncomputable def f_X7_behind (d : Nat) : (Nat → Int32) → Int32 → (Nat → Int32) → (Nat → Int32) → (Nat → Int32) → (Nat → Int32) → (Nat → Int32) → (Nat → Int32) → Int32 → Int32 → Int32 → Int32 → (Nat → Int32) → (Nat → Int32) → Int32 → Int32 → Int32 → Option (Int32 × (Nat → Int32) × (Nat → Int32)) := (rc_X7_behind d).1
noncomputable def f_X7_split (d : Nat) : (Nat → Int32) → Int32 → (Nat → Int32) → (Nat → Int32) → (Nat → Int32) → (Nat → Int32) → (Nat → Int32) → (Nat → Int32) → Int32 → Int32 → Int32 → Int32 → (Nat → Int32) → (Nat → Int32) → Int32 → Int32 → Int32 → Option (Int32 × (Nat → Int32) × (Nat → Int32)) := (rc_X7_behind d).2
noncomputable def b_X7_partsWarm_0 (told_after : Nat → Int32) (laws_holds : Int32) (laws_lengths : Nat → Int32) (laws_c0 : Nat → Int32) (laws_c1 : Nat → Int32) (laws_c2 : Nat → Int32) (laws_c3 : Nat → Int32) (S_cells : Nat → Int32) (a_S : Nat) (laws_letters : Nat → Int32) (laws_stack : Nat → Int32) (qu_state : Value) (qu_pair : Int32) (qu_need : Int32) (qu_meetings : Int32) (qu_chance : Int32) (v2 : Int32) (v3 : Int32) (v4 : Int32) (v5 : Int32) : Option (Int32 × (Nat → Int32) × (Nat → Int32) × Value × Int32 × Int32 × Int32 × Int32) :=
  bnd (rem v2 (10 : Int32)) fun n_1 =>
  ob1 (f_X9_warmthOf S_cells (v2 / (10 : Int32)) n_1) fun r_2 =>
  ob3 (f_X7_split 60 told_after laws_holds laws_lengths laws_c0 laws_c1 laws_c2 laws_c3 S_cells v2 v3 v4 v5 laws_letters laws_stack (1000000000 : Int32) r_2 (0 : Int32)) fun r_4 laws_letters_5 laws_stack_6 =>
  some (r_4, laws_letters_5, laws_stack_6, (.ref a_S), v2, v3, v4, v5)
noncomputable def f_X7_partsWarm (told_after : Nat → Int32) (laws_holds : Int32) (laws_lengths : Nat → Int32) (laws_c0 : Nat → Int32) (laws_c1 : Nat → Int32) (laws_c2 : Nat → Int32) (laws_c3 : Nat → Int32) (S_cells : Nat → Int32) (a_S : Nat) (laws_letters : Nat → Int32) (laws_stack : Nat → Int32) (qu_state : Value) (qu_pair : Int32) (qu_need : Int32) (qu_meetings : Int32) (qu_chance : Int32) (p2 : Int32) (p3 : Int32) (p4 : Int32) (p5 : Int32) : Option (Int32 × (Nat → Int32) × (Nat → Int32) × Value × Int32 × Int32 × Int32 × Int32) := b_X7_partsWarm_0 told_after laws_holds laws_lengths laws_c0 laws_c1 laws_c2 laws_c3 S_cells a_S laws_letters laws_stack qu_state qu_pair qu_need qu_meetings qu_chance p2 p3 p4 p5
noncomputable def b_X11_odds_0 (told_gloves : Int32) (told_matters : Int32) (told_house : Nat → Int32) (told_after : Nat → Int32) (told_need : Nat → Int32) (laws_holds : Int32) (laws_lengths : Nat → Int32) (laws_c0 : Nat → Int32) (laws_c1 : Nat → Int32) (laws_c2 : Nat → Int32) (laws_c3 : Nat → Int32) (now_cells : Nat → Int32) (a_now : Nat) (laws_letters : Nat → Int32) (laws_stack : Nat → Int32) (qu_state : Value) (qu_pair : Int32) (qu_need : Int32) (qu_meetings : Int32) (qu_chance : Int32) (v1 : Int32) (v2 : Int32) (v3 : Int32) (v4 : Int32) (v5 : Int32) : Option (Int32 × (Nat → Int32) × (Nat → Int32) × Value × Int32 × Int32 × Int32 × Int32) :=
  ob1 (f_X5_hasMatter told_matters v1) fun r_1 =>
  if r_1 = (0 : Int32) then
    some ((-1 : Int32), laws_letters, laws_stack, qu_state, qu_pair, qu_need, qu_meetings, qu_chance)
  else
    ob1 (f_X5_unlike told_gloves told_house v2 v3) fun r_3 =>
    if r_3 = (0 : Int32) then
      some ((-1 : Int32), laws_letters, laws_stack, qu_state, qu_pair, qu_need, qu_meetings, qu_chance)
    else
      if v4 < (0 : Int32) then
        some ((-1 : Int32), laws_letters, laws_stack, qu_state, qu_pair, qu_need, qu_meetings, qu_chance)
      else
        if (8 : Int32) < v4 then
          some ((-1 : Int32), laws_letters, laws_stack, qu_state, qu_pair, qu_need, qu_meetings, qu_chance)
        else
          if v5 < (0 : Int32) then
            some ((-1 : Int32), laws_letters, laws_stack, qu_state, qu_pair, qu_need, qu_meetings, qu_chance)
          else
            if v5 ≤ (100 : Int32) then
              gd (inB v1 5) <|
              ob8 (f_X7_partsWarm told_after laws_holds laws_lengths laws_c0 laws_c1 laws_c2 laws_c3 now_cells a_now laws_letters laws_stack qu_state qu_pair qu_need qu_meetings qu_chance (((10 : Int32) * v2) + v3) (told_need v1.toNatClampNeg) v4 v5) fun r_6 laws_letters_7 laws_stack_8 qu_state_9 qu_pair_10 qu_need_11 qu_meetings_12 qu_chance_13 =>
              some (r_6, laws_letters_7, laws_stack_8, qu_state_9, qu_pair_10, qu_need_11, qu_meetings_12, qu_chance_13)
            else
              some ((-1 : Int32), laws_letters, laws_stack, qu_state, qu_pair, qu_need, qu_meetings, qu_chance)
noncomputable def f_X11_odds (told_gloves : Int32) (told_matters : Int32) (told_house : Nat → Int32) (told_after : Nat → Int32) (told_need : Nat → Int32) (laws_holds : Int32) (laws_lengths : Nat → Int32) (laws_c0 : Nat → Int32) (laws_c1 : Nat → Int32) (laws_c2 : Nat → Int32) (laws_c3 : Nat → Int32) (now_cells : Nat → Int32) (a_now : Nat) (laws_letters : Nat → Int32) (laws_stack : Nat → Int32) (qu_state : Value) (qu_pair : Int32) (qu_need : Int32) (qu_meetings : Int32) (qu_chance : Int32) (p1 : Int32) (p2 : Int32) (p3 : Int32) (p4 : Int32) (p5 : Int32) : Option (Int32 × (Nat → Int32) × (Nat → Int32) × Value × Int32 × Int32 × Int32 × Int32) := b_X11_odds_0 told_gloves told_matters told_house told_after told_need laws_holds laws_lengths laws_c0 laws_c1 laws_c2 laws_c3 now_cells a_now laws_letters laws_stack qu_state qu_pair qu_need qu_meetings qu_chance p1 p2 p3 p4 p5
noncomputable def b_X9_freeOf_36 (told_gloves : Int32) (told_house : Nat → Int32) (S_cells : Nat → Int32) (k4 : Int32 → Int32 → Int32 → Option (Int32)) (v1 : Int32) (v2 : Int32) (v3 : Int32) : Option (Int32) :=
  bnd (v3 + (1 : Int32)) fun v3_1 =>
  k4 v1 v2 v3_1
noncomputable def b_X9_freeOf_4 (told_gloves : Int32) (told_house : Nat → Int32) (S_cells : Nat → Int32) (k4 : Int32 → Int32 → Int32 → Option (Int32)) (v1 : Int32) (v2 : Int32) (v3 : Int32) : Option (Int32) :=
  if told_gloves ≤ v3 then
    some v2
  else
    gd (inB v3 6) <|
    if (told_house v3.toNatClampNeg) = v1 then
      ob1 (f_X9_free S_cells v3) fun r_2 =>
      bnd (v2 + r_2) fun v2_4 =>
      b_X9_freeOf_36 told_gloves told_house S_cells k4 v1 v2_4 v3
    else
      b_X9_freeOf_36 told_gloves told_house S_cells k4 v1 v2 v3
noncomputable def f_X9_freeOf_4 (told_gloves : Int32) (told_house : Nat → Int32) (S_cells : Nat → Int32) : Nat → Int32 → Int32 → Int32 → Option (Int32)
  | 0, _, _, _ => none
  | n + 1, v1, v2, v3 => b_X9_freeOf_4 told_gloves told_house S_cells (f_X9_freeOf_4 told_gloves told_house S_cells n) v1 v2 v3
noncomputable def b_X9_freeOf_0 (told_gloves : Int32) (told_house : Nat → Int32) (S_cells : Nat → Int32) (v1 : Int32) : Option (Int32) :=
  f_X9_freeOf_4 told_gloves told_house S_cells fu v1 (0 : Int32) (0 : Int32)
noncomputable def f_X9_freeOf (told_gloves : Int32) (told_house : Nat → Int32) (S_cells : Nat → Int32) (p1 : Int32) : Option (Int32) := b_X9_freeOf_0 told_gloves told_house S_cells p1
noncomputable def b_X11_shares_0 (told_gloves : Int32) (told_house : Nat → Int32) (now_cells : Nat → Int32) (v1 : Int32) (v2 : Int32) : Option (Int32) :=
  ob1 (f_X11_noPeace told_gloves) fun r_1 =>
  if r_1 = (0 : Int32) then
    if v1 < (0 : Int32) then
      some (-1 : Int32)
    else
      if (1 : Int32) < v1 then
        some (-1 : Int32)
      else
        if v2 < (0 : Int32) then
          some (-1 : Int32)
        else
          if v2 ≤ (999 : Int32) then
            ob1 (f_X9_freeOf told_gloves told_house now_cells (0 : Int32)) fun r_3 =>
            ob1 (f_X9_freeOf told_gloves told_house now_cells (1 : Int32)) fun r_5 =>
            bnd (r_3 + r_5) fun v3_7 =>
            if v3_7 = (0 : Int32) then
              some (0 : Int32)
            else
              ob1 (f_X9_freeOf told_gloves told_house now_cells v1) fun r_8 =>
              gd (nzB v3_7) <|
              some ((v2 * r_8) / v3_7)
          else
            some (-1 : Int32)
  else
    some (-1 : Int32)
noncomputable def f_X11_shares (told_gloves : Int32) (told_house : Nat → Int32) (now_cells : Nat → Int32) (p1 : Int32) (p2 : Int32) : Option (Int32) := b_X11_shares_0 told_gloves told_house now_cells p1 p2
noncomputable def b_X9_signedBits_30 (told_matters : Int32) (S_cells : Nat → Int32) (k4 : Int32 → Int32 → Option (Int32)) (v1 : Int32) (v2 : Int32) : Option (Int32) :=
  bnd (v2 + (1 : Int32)) fun v2_1 =>
  k4 v1 v2_1
noncomputable def b_X9_signedBits_4 (told_matters : Int32) (S_cells : Nat → Int32) (k4 : Int32 → Int32 → Option (Int32)) (v1 : Int32) (v2 : Int32) : Option (Int32) :=
  if told_matters ≤ v2 then
    some v1
  else
    ob1 (f_X9_signers S_cells v2) fun r_1 =>
    if r_1 = (-1 : Int32) then
      b_X9_signedBits_30 told_matters S_cells k4 v1 v2
    else
      bnd (v1 ||| ((1 : Int32) <<< (v2 &&& (31 : Int32)))) fun v1_3 =>
      b_X9_signedBits_30 told_matters S_cells k4 v1_3 v2
noncomputable def f_X9_signedBits_4 (told_matters : Int32) (S_cells : Nat → Int32) : Nat → Int32 → Int32 → Option (Int32)
  | 0, _, _ => none
  | n + 1, v1, v2 => b_X9_signedBits_4 told_matters S_cells (f_X9_signedBits_4 told_matters S_cells n) v1 v2
noncomputable def b_X9_signedBits_0 (told_matters : Int32) (S_cells : Nat → Int32) : Option (Int32) :=
  f_X9_signedBits_4 told_matters S_cells fu (0 : Int32) (0 : Int32)
noncomputable def f_X9_signedBits (told_matters : Int32) (S_cells : Nat → Int32) : Option (Int32) := b_X9_signedBits_0 told_matters S_cells 
noncomputable def b_X9_pairMost_83 (told_gloves : Int32) (told_house : Nat → Int32) (S_cells : Nat → Int32) (k4 : Int32 → Int32 → Int32 → Option (Int32)) (k20 : Int32 → Int32 → Int32 → Int32 → Option (Int32)) (v1 : Int32) (v2 : Int32) (v3 : Int32) (v4 : Int32) : Option (Int32) :=
  bnd (v4 + (1 : Int32)) fun v4_1 =>
  k20 v1 v2 v3 v4_1
noncomputable def b_X9_pairMost_75 (told_gloves : Int32) (told_house : Nat → Int32) (S_cells : Nat → Int32) (k4 : Int32 → Int32 → Int32 → Option (Int32)) (k20 : Int32 → Int32 → Int32 → Int32 → Option (Int32)) (v1 : Int32) (v3 : Int32) (v4 : Int32) : Option (Int32) :=
  bnd (((10 : Int32) * v3) + v4) fun v2_1 =>
  b_X9_pairMost_83 told_gloves told_house S_cells k4 k20 v1 v2_1 v3 v4
noncomputable def b_X9_pairMost_20 (told_gloves : Int32) (told_house : Nat → Int32) (S_cells : Nat → Int32) (k4 : Int32 → Int32 → Int32 → Option (Int32)) (k20 : Int32 → Int32 → Int32 → Int32 → Option (Int32)) (v1 : Int32) (v2 : Int32) (v3 : Int32) (v4 : Int32) : Option (Int32) :=
  if told_gloves ≤ v4 then
    bnd (v3 + (1 : Int32)) fun v3_1 =>
    k4 v1 v2 v3_1
  else
    ob1 (f_X5_unlike told_gloves told_house v3 v4) fun r_2 =>
    if r_2 = (0 : Int32) then
      b_X9_pairMost_83 told_gloves told_house S_cells k4 k20 v1 v2 v3 v4
    else
      if v2 = (-1 : Int32) then
        b_X9_pairMost_75 told_gloves told_house S_cells k4 k20 v1 v3 v4
      else
        ob1 (f_X9_warmthOf S_cells v3 v4) fun r_4 =>
        bnd (rem v2 (10 : Int32)) fun n_6 =>
        ob1 (f_X9_warmthOf S_cells (v2 / (10 : Int32)) n_6) fun r_7 =>
        if (v1 * (r_4 - r_7)) ≤ (0 : Int32) then
          b_X9_pairMost_83 told_gloves told_house S_cells k4 k20 v1 v2 v3 v4
        else
          b_X9_pairMost_75 told_gloves told_house S_cells k4 k20 v1 v3 v4
noncomputable def f_X9_pairMost_20 (told_gloves : Int32) (told_house : Nat → Int32) (S_cells : Nat → Int32) (k4 : Int32 → Int32 → Int32 → Option (Int32)) : Nat → Int32 → Int32 → Int32 → Int32 → Option (Int32)
  | 0, _, _, _, _ => none
  | n + 1, v1, v2, v3, v4 => b_X9_pairMost_20 told_gloves told_house S_cells k4 (f_X9_pairMost_20 told_gloves told_house S_cells k4 n) v1 v2 v3 v4
noncomputable def b_X9_pairMost_4 (told_gloves : Int32) (told_house : Nat → Int32) (S_cells : Nat → Int32) (k4 : Int32 → Int32 → Int32 → Option (Int32)) (v1 : Int32) (v2 : Int32) (v3 : Int32) : Option (Int32) :=
  if told_gloves ≤ v3 then
    some v2
  else
    bnd (v3 + (1 : Int32)) fun v4_1 =>
    f_X9_pairMost_20 told_gloves told_house S_cells k4 fu v1 v2 v3 v4_1
noncomputable def f_X9_pairMost_4 (told_gloves : Int32) (told_house : Nat → Int32) (S_cells : Nat → Int32) : Nat → Int32 → Int32 → Int32 → Option (Int32)
  | 0, _, _, _ => none
  | n + 1, v1, v2, v3 => b_X9_pairMost_4 told_gloves told_house S_cells (f_X9_pairMost_4 told_gloves told_house S_cells n) v1 v2 v3
noncomputable def b_X9_pairMost_0 (told_gloves : Int32) (told_house : Nat → Int32) (S_cells : Nat → Int32) (v1 : Int32) : Option (Int32) :=
  f_X9_pairMost_4 told_gloves told_house S_cells fu v1 (-1 : Int32) (0 : Int32)
noncomputable def f_X9_pairMost (told_gloves : Int32) (told_house : Nat → Int32) (S_cells : Nat → Int32) (p1 : Int32) : Option (Int32) := b_X9_pairMost_0 told_gloves told_house S_cells p1
noncomputable def b_X9_warmestPair_0 (told_gloves : Int32) (told_house : Nat → Int32) (S_cells : Nat → Int32) : Option (Int32) :=
  ob1 (f_X9_pairMost told_gloves told_house S_cells (1 : Int32)) fun r_1 =>
  some r_1
noncomputable def f_X9_warmestPair (told_gloves : Int32) (told_house : Nat → Int32) (S_cells : Nat → Int32) : Option (Int32) := b_X9_warmestPair_0 told_gloves told_house S_cells 
noncomputable def b_X9_coldestPair_0 (told_gloves : Int32) (told_house : Nat → Int32) (S_cells : Nat → Int32) : Option (Int32) :=
  ob1 (f_X9_pairMost told_gloves told_house S_cells (-1 : Int32)) fun r_1 =>
  some r_1
noncomputable def f_X9_coldestPair (told_gloves : Int32) (told_house : Nat → Int32) (S_cells : Nat → Int32) : Option (Int32) := b_X9_coldestPair_0 told_gloves told_house S_cells 
noncomputable def b_X9_gloveMost_36 (told_gloves : Int32) (S_cells : Nat → Int32) (k4 : Int32 → Int32 → Int32 → Option (Int32)) (v1 : Int32) (v2 : Int32) (v3 : Int32) : Option (Int32) :=
  bnd (v3 + (1 : Int32)) fun v3_1 =>
  k4 v1 v2 v3_1
noncomputable def b_X9_gloveMost_4 (told_gloves : Int32) (S_cells : Nat → Int32) (k4 : Int32 → Int32 → Int32 → Option (Int32)) (v1 : Int32) (v2 : Int32) (v3 : Int32) : Option (Int32) :=
  if told_gloves ≤ v3 then
    some v2
  else
    gd (inB (v1 + v3) 69) <|
    gd (inB (v1 + v2) 69) <|
    if (S_cells (v1 + v3).toNatClampNeg) ≤ (S_cells (v1 + v2).toNatClampNeg) then
      b_X9_gloveMost_36 told_gloves S_cells k4 v1 v2 v3
    else
      b_X9_gloveMost_36 told_gloves S_cells k4 v1 v3 v3
noncomputable def f_X9_gloveMost_4 (told_gloves : Int32) (S_cells : Nat → Int32) : Nat → Int32 → Int32 → Int32 → Option (Int32)
  | 0, _, _, _ => none
  | n + 1, v1, v2, v3 => b_X9_gloveMost_4 told_gloves S_cells (f_X9_gloveMost_4 told_gloves S_cells n) v1 v2 v3
noncomputable def b_X9_gloveMost_0 (told_gloves : Int32) (S_cells : Nat → Int32) (v1 : Int32) : Option (Int32) :=
  f_X9_gloveMost_4 told_gloves S_cells fu v1 (0 : Int32) (1 : Int32)
noncomputable def f_X9_gloveMost (told_gloves : Int32) (S_cells : Nat → Int32) (p1 : Int32) : Option (Int32) := b_X9_gloveMost_0 told_gloves S_cells p1
noncomputable def b_X9_freest_0 (told_gloves : Int32) (S_cells : Nat → Int32) : Option (Int32) :=
  ob1 (f_X9_gloveMost told_gloves S_cells (36 : Int32)) fun r_1 =>
  some r_1
noncomputable def f_X9_freest (told_gloves : Int32) (S_cells : Nat → Int32) : Option (Int32) := b_X9_freest_0 told_gloves S_cells 
noncomputable def b_X9_stiffest_0 (told_gloves : Int32) (S_cells : Nat → Int32) : Option (Int32) :=
  ob1 (f_X9_gloveMost told_gloves S_cells (42 : Int32)) fun r_1 =>
  some r_1
noncomputable def f_X9_stiffest (told_gloves : Int32) (S_cells : Nat → Int32) : Option (Int32) := b_X9_stiffest_0 told_gloves S_cells 
noncomputable def b_X5_heaviest_33 (P_matters : Int32) (P_weight : Nat → Int32) (k6 : Int32 → Int32 → Int32 → Option (Int32)) (v1 : Int32) (v2 : Int32) (v3 : Int32) : Option (Int32) :=
  bnd (v3 + (1 : Int32)) fun v3_1 =>
  k6 v1 v2 v3_1
noncomputable def b_X5_heaviest_6 (P_matters : Int32) (P_weight : Nat → Int32) (k6 : Int32 → Int32 → Int32 → Option (Int32)) (v1 : Int32) (v2 : Int32) (v3 : Int32) : Option (Int32) :=
  if P_matters ≤ v3 then
    some v1
  else
    gd (inB v3 5) <|
    if (P_weight v3.toNatClampNeg) ≤ v2 then
      b_X5_heaviest_33 P_matters P_weight k6 v1 v2 v3
    else
      gd (inB v3 5) <|
      bnd (P_weight v3.toNatClampNeg) fun v2_3 =>
      b_X5_heaviest_33 P_matters P_weight k6 v3 v2_3 v3
noncomputable def f_X5_heaviest_6 (P_matters : Int32) (P_weight : Nat → Int32) : Nat → Int32 → Int32 → Int32 → Option (Int32)
  | 0, _, _, _ => none
  | n + 1, v1, v2, v3 => b_X5_heaviest_6 P_matters P_weight (f_X5_heaviest_6 P_matters P_weight n) v1 v2 v3
noncomputable def b_X5_heaviest_0 (P_matters : Int32) (P_weight : Nat → Int32) : Option (Int32) :=
  f_X5_heaviest_6 P_matters P_weight fu (-1 : Int32) (-1 : Int32) (0 : Int32)
noncomputable def f_X5_heaviest (P_matters : Int32) (P_weight : Nat → Int32) : Option (Int32) := b_X5_heaviest_0 P_matters P_weight 
noncomputable def b_X9_bound_36 (told_matters : Int32) (told_weight : Nat → Int32) (S_cells : Nat → Int32) (k4 : Int32 → Int32 → Option (Int32)) (v1 : Int32) (v2 : Int32) : Option (Int32) :=
  bnd (v2 + (1 : Int32)) fun v2_1 =>
  k4 v1 v2_1
noncomputable def b_X9_bound_4 (told_matters : Int32) (told_weight : Nat → Int32) (S_cells : Nat → Int32) (k4 : Int32 → Int32 → Option (Int32)) (v1 : Int32) (v2 : Int32) : Option (Int32) :=
  if told_matters ≤ v2 then
    some v1
  else
    ob1 (f_X9_signers S_cells v2) fun r_1 =>
    if r_1 = (-1 : Int32) then
      b_X9_bound_36 told_matters told_weight S_cells k4 v1 v2
    else
      gd (inB v2 5) <|
      bnd (v1 + (told_weight v2.toNatClampNeg)) fun v1_4 =>
      b_X9_bound_36 told_matters told_weight S_cells k4 v1_4 v2
noncomputable def f_X9_bound_4 (told_matters : Int32) (told_weight : Nat → Int32) (S_cells : Nat → Int32) : Nat → Int32 → Int32 → Option (Int32)
  | 0, _, _ => none
  | n + 1, v1, v2 => b_X9_bound_4 told_matters told_weight S_cells (f_X9_bound_4 told_matters told_weight S_cells n) v1 v2
noncomputable def b_X9_bound_0 (told_matters : Int32) (told_weight : Nat → Int32) (S_cells : Nat → Int32) : Option (Int32) :=
  f_X9_bound_4 told_matters told_weight S_cells fu (0 : Int32) (0 : Int32)
noncomputable def f_X9_bound (told_matters : Int32) (told_weight : Nat → Int32) (S_cells : Nat → Int32) : Option (Int32) := b_X9_bound_0 told_matters told_weight S_cells 
noncomputable def b_X9_dueBits_75 (told_gloves : Int32) (told_matters : Int32) (told_house : Nat → Int32) (told_need : Nat → Int32) (S_cells : Nat → Int32) (k32 : Int32 → Int32 → Int32 → Option (Int32)) (v2 : Int32) (v3 : Int32) (v4 : Int32) : Option (Int32) :=
  bnd (v4 + (1 : Int32)) fun v4_1 =>
  k32 v2 v3 v4_1
noncomputable def b_X9_dueBits_32 (told_gloves : Int32) (told_matters : Int32) (told_house : Nat → Int32) (told_need : Nat → Int32) (S_cells : Nat → Int32) (k32 : Int32 → Int32 → Int32 → Option (Int32)) (v2 : Int32) (v3 : Int32) (v4 : Int32) : Option (Int32) :=
  if told_matters ≤ v4 then
    some v3
  else
    ob1 (f_X9_signers S_cells v4) fun r_1 =>
    if r_1 = (-1 : Int32) then
      gd (inB v4 5) <|
      if v2 < (told_need v4.toNatClampNeg) then
        b_X9_dueBits_75 told_gloves told_matters told_house told_need S_cells k32 v2 v3 v4
      else
        bnd (v3 ||| ((1 : Int32) <<< (v4 &&& (31 : Int32)))) fun v3_4 =>
        b_X9_dueBits_75 told_gloves told_matters told_house told_need S_cells k32 v2 v3_4 v4
    else
      b_X9_dueBits_75 told_gloves told_matters told_house told_need S_cells k32 v2 v3 v4
noncomputable def f_X9_dueBits_32 (told_gloves : Int32) (told_matters : Int32) (told_house : Nat → Int32) (told_need : Nat → Int32) (S_cells : Nat → Int32) : Nat → Int32 → Int32 → Int32 → Option (Int32)
  | 0, _, _, _ => none
  | n + 1, v2, v3, v4 => b_X9_dueBits_32 told_gloves told_matters told_house told_need S_cells (f_X9_dueBits_32 told_gloves told_matters told_house told_need S_cells n) v2 v3 v4
noncomputable def b_X9_dueBits_26 (told_gloves : Int32) (told_matters : Int32) (told_house : Nat → Int32) (told_need : Nat → Int32) (S_cells : Nat → Int32) (t0 : Int32) : Option (Int32) :=
  f_X9_dueBits_32 told_gloves told_matters told_house told_need S_cells fu t0 (0 : Int32) (0 : Int32)
noncomputable def b_X9_dueBits_0 (told_gloves : Int32) (told_matters : Int32) (told_house : Nat → Int32) (told_need : Nat → Int32) (S_cells : Nat → Int32) : Option (Int32) :=
  ob1 (f_X9_warmestPair told_gloves told_house S_cells) fun r_1 =>
  if r_1 = (-1 : Int32) then
    b_X9_dueBits_26 told_gloves told_matters told_house told_need S_cells (-1 : Int32)
  else
    bnd (rem r_1 (10 : Int32)) fun n_3 =>
    ob1 (f_X9_warmthOf S_cells (r_1 / (10 : Int32)) n_3) fun r_4 =>
    b_X9_dueBits_26 told_gloves told_matters told_house told_need S_cells r_4
noncomputable def f_X9_dueBits (told_gloves : Int32) (told_matters : Int32) (told_house : Nat → Int32) (told_need : Nat → Int32) (S_cells : Nat → Int32) : Option (Int32) := b_X9_dueBits_0 told_gloves told_matters told_house told_need S_cells 
noncomputable def b_X11_most_0 (told_gloves : Int32) (told_matters : Int32) (told_house : Nat → Int32) (told_weight : Nat → Int32) (told_need : Nat → Int32) (now_cells : Nat → Int32) (v1 : Int32) : Option (Int32) :=
  ob1 (f_X11_noPeace told_gloves) fun r_1 =>
  if r_1 = (0 : Int32) then
    if v1 < (0 : Int32) then
      some (-1 : Int32)
    else
      if v1 ≤ (8 : Int32) then
        if v1 = (0 : Int32) then
          ob1 (f_X9_metBits told_gloves now_cells) fun r_3 =>
          some r_3
        else
        if v1 = (1 : Int32) then
          ob1 (f_X9_signedBits told_matters now_cells) fun r_5 =>
          some r_5
        else
        if v1 = (2 : Int32) then
          ob1 (f_X9_warmestPair told_gloves told_house now_cells) fun r_7 =>
          some r_7
        else
        if v1 = (3 : Int32) then
          ob1 (f_X9_coldestPair told_gloves told_house now_cells) fun r_9 =>
          some r_9
        else
        if v1 = (4 : Int32) then
          ob1 (f_X9_freest told_gloves now_cells) fun r_11 =>
          some r_11
        else
        if v1 = (5 : Int32) then
          ob1 (f_X9_stiffest told_gloves now_cells) fun r_13 =>
          some r_13
        else
        if v1 = (6 : Int32) then
          ob1 (f_X5_heaviest told_matters told_weight) fun r_15 =>
          some r_15
        else
        if v1 = (7 : Int32) then
          ob1 (f_X9_bound told_matters told_weight now_cells) fun r_17 =>
          some r_17
        else
        ob1 (f_X9_dueBits told_gloves told_matters told_house told_need now_cells) fun r_19 =>
        some r_19
      else
        some (-1 : Int32)
  else
    some (-1 : Int32)
noncomputable def f_X11_most (told_gloves : Int32) (told_matters : Int32) (told_house : Nat → Int32) (told_weight : Nat → Int32) (told_need : Nat → Int32) (now_cells : Nat → Int32) (p1 : Int32) : Option (Int32) := b_X11_most_0 told_gloves told_matters told_house told_weight told_need now_cells p1
noncomputable def b_X11_allies_59 (told_gloves : Int32) (told_house : Nat → Int32) (told_after : Nat → Int32) (k17 : Int32 → Int32 → Int32 → Option (Int32)) (v1 : Int32) (v2 : Int32) (v3 : Int32) : Option (Int32) :=
  bnd (v3 + (1 : Int32)) fun v3_1 =>
  k17 v1 v2 v3_1
noncomputable def b_X11_allies_17 (told_gloves : Int32) (told_house : Nat → Int32) (told_after : Nat → Int32) (k17 : Int32 → Int32 → Int32 → Option (Int32)) (v1 : Int32) (v2 : Int32) (v3 : Int32) : Option (Int32) :=
  if told_gloves ≤ v3 then
    some v2
  else
    ob1 (f_X5_unlike told_gloves told_house v1 v3) fun r_1 =>
    if r_1 = (0 : Int32) then
      b_X11_allies_59 told_gloves told_house told_after k17 v1 v2 v3
    else
      ob1 (f_X5_sameAim told_after v1 v3) fun r_3 =>
      if r_3 = (1 : Int32) then
        bnd (v2 ||| ((1 : Int32) <<< (v3 &&& (31 : Int32)))) fun v2_5 =>
        b_X11_allies_59 told_gloves told_house told_after k17 v1 v2_5 v3
      else
        b_X11_allies_59 told_gloves told_house told_after k17 v1 v2 v3
noncomputable def f_X11_allies_17 (told_gloves : Int32) (told_house : Nat → Int32) (told_after : Nat → Int32) : Nat → Int32 → Int32 → Int32 → Option (Int32)
  | 0, _, _, _ => none
  | n + 1, v1, v2, v3 => b_X11_allies_17 told_gloves told_house told_after (f_X11_allies_17 told_gloves told_house told_after n) v1 v2 v3
noncomputable def b_X11_allies_0 (told_gloves : Int32) (told_house : Nat → Int32) (told_after : Nat → Int32) (v1 : Int32) : Option (Int32) :=
  ob1 (f_X5_hasGlove told_gloves v1) fun r_1 =>
  if r_1 = (0 : Int32) then
    some (-1 : Int32)
  else
    f_X11_allies_17 told_gloves told_house told_after fu v1 (0 : Int32) (0 : Int32)
noncomputable def f_X11_allies (told_gloves : Int32) (told_house : Nat → Int32) (told_after : Nat → Int32) (p1 : Int32) : Option (Int32) := b_X11_allies_0 told_gloves told_house told_after p1
noncomputable def b_X3_copyFrom_0 (BO_rows : Nat → Int32) (B_rows : Nat → Int32) : Option ((Nat → Int32)) :=
  gd (spB (0 : Int32) (384 : Int32) 384) <|
  gd (spB (0 : Int32) (384 : Int32) 384) <|
  bnd (va_cpy BO_rows B_rows (0 : Int32).toNatClampNeg (0 : Int32).toNatClampNeg (384 : Int32).toNatClampNeg) fun B_rows_3 =>
  some B_rows_3
noncomputable def f_X3_copyFrom (BO_rows : Nat → Int32) (B_rows : Nat → Int32) : Option ((Nat → Int32)) := b_X3_copyFrom_0 BO_rows B_rows
noncomputable def b_X11_image_0 (told_gloves : Int32) (now_cells : Nat → Int32) (book_rows : Nat → Int32) (x_imaged : Int32) (imS_cells : Nat → Int32) (imB_rows : Nat → Int32) : Option (Int32 × Int32 × (Nat → Int32) × (Nat → Int32)) :=
  ob1 (f_X11_noPeace told_gloves) fun r_1 =>
  if r_1 = (0 : Int32) then
    ob1 (f_X9_copyFrom now_cells imS_cells) fun imS_cells_3 =>
    ob1 (f_X3_copyFrom book_rows imB_rows) fun imB_rows_5 =>
    ob1 (f_X9_day now_cells) fun r_7 =>
    some (r_7, (1 : Int32), imS_cells_3, imB_rows_5)
  else
    some ((-1 : Int32), x_imaged, imS_cells, imB_rows)
noncomputable def f_X11_image (told_gloves : Int32) (now_cells : Nat → Int32) (book_rows : Nat → Int32) (x_imaged : Int32) (imS_cells : Nat → Int32) (imB_rows : Nat → Int32) : Option (Int32 × Int32 × (Nat → Int32) × (Nat → Int32)) := b_X11_image_0 told_gloves now_cells book_rows x_imaged imS_cells imB_rows
noncomputable def b_X11_back_0 (x_imaged : Int32) (imS_cells : Nat → Int32) (imB_rows : Nat → Int32) (now_cells : Nat → Int32) (book_rows : Nat → Int32) (acts_size : Int32) : Option (Int32 × (Nat → Int32) × (Nat → Int32) × Int32) :=
  if x_imaged = (0 : Int32) then
    some ((-1 : Int32), now_cells, book_rows, acts_size)
  else
    ob1 (f_X9_copyFrom imS_cells now_cells) fun now_cells_1 =>
    ob1 (f_X3_copyFrom imB_rows book_rows) fun book_rows_3 =>
    ob1 (f_X0_forget acts_size) fun acts_size_5 =>
    ob1 (f_X9_day now_cells_1) fun r_7 =>
    some (r_7, now_cells_1, book_rows_3, acts_size_5)
noncomputable def f_X11_back (x_imaged : Int32) (imS_cells : Nat → Int32) (imB_rows : Nat → Int32) (now_cells : Nat → Int32) (book_rows : Nat → Int32) (acts_size : Int32) : Option (Int32 × (Nat → Int32) × (Nat → Int32) × Int32) := b_X11_back_0 x_imaged imS_cells imB_rows now_cells book_rows acts_size
noncomputable def b_X11_count_0 (x_spiteNow : Int32) (tape_length : Int32) (told_gloves : Int32) (told_matters : Int32) (laws_size : Int32) (laws_holds : Int32) (now_cells : Nat → Int32) (acts_size : Int32) (sg_size : Int32) (v1 : Int32) : Option (Int32) :=
  if v1 = (0 : Int32) then
    some told_gloves
  else
  if v1 = (1 : Int32) then
    some told_matters
  else
  if v1 = (2 : Int32) then
    some laws_size
  else
  if v1 = (3 : Int32) then
    some tape_length
  else
  if v1 = (4 : Int32) then
    some laws_holds
  else
  if v1 = (5 : Int32) then
    ob1 (f_X9_day now_cells) fun r_1 =>
    some r_1
  else
  if v1 = (6 : Int32) then
    ob1 (f_X9_warmthOfAll now_cells) fun r_3 =>
    some r_3
  else
  if v1 = (7 : Int32) then
    ob1 (f_X9_metBits told_gloves now_cells) fun r_5 =>
    ob1 (f_J6_bitCount_0f7a4 r_5) fun r_7 =>
    some r_7
  else
  if v1 = (8 : Int32) then
    some x_spiteNow
  else
  if v1 = (9 : Int32) then
    some sg_size
  else
  if v1 = (10 : Int32) then
    ob1 (f_X9_day now_cells) fun r_9 =>
    ob1 (f_X3_lengthOn r_9) fun r_11 =>
    some r_11
  else
  if v1 = (11 : Int32) then
    some acts_size
  else
  some (-1000000 : Int32)
noncomputable def f_X11_count (x_spiteNow : Int32) (tape_length : Int32) (told_gloves : Int32) (told_matters : Int32) (laws_size : Int32) (laws_holds : Int32) (now_cells : Nat → Int32) (acts_size : Int32) (sg_size : Int32) (p1 : Int32) : Option (Int32) := b_X11_count_0 x_spiteNow tape_length told_gloves told_matters laws_size laws_holds now_cells acts_size sg_size p1
