noncomputable def b_X12_in_0 (v0 : Int32) (v1 : Int32) (v2 : Int32) : Option (Int32) :=
  if v0 < v1 then
    some (0 : Int32)
  else
    if v2 < v0 then
      some (0 : Int32)
    else
      some (1 : Int32)
noncomputable def f_X12_in (p1 : Int32) (p2 : Int32) (p3 : Int32) : Option (Int32) := b_X12_in_0  p1 p2 p3
noncomputable def b_X12_has_0 (v0 : Int32) (v1 : Int32) : Option (Int32) :=
  if ((v0 >>> (v1 &&& (31 : Int32))) &&& (1 : Int32)) = (1 : Int32) then
    some (1 : Int32)
  else
    some (0 : Int32)
noncomputable def f_X12_has (p1 : Int32) (p2 : Int32) : Option (Int32) := b_X12_has_0  p1 p2
noncomputable def b_X12_byteOf_45 (v5 : Int32) (t0 : Int32) : Option (Int32) :=
  bnd (rem v5 (4 : Int32)) fun n_1 =>
  bnd (t0 >>> (((24 : Int32) - ((8 : Int32) * n_1)) &&& (31 : Int32))) fun n_2 =>
  some (n_2 &&& (255 : Int32))
noncomputable def b_X12_byteOf_0 (v0 : Int32) (v1 : Int32) (v2 : Int32) (v3 : Int32) (v4 : Int32) (v5 : Int32) : Option (Int32) :=
  if (4 : Int32) ≤ v5 then
    if (8 : Int32) ≤ v5 then
      if (12 : Int32) ≤ v5 then
        if (16 : Int32) ≤ v5 then
          b_X12_byteOf_45 v5 v4
        else
          b_X12_byteOf_45 v5 v3
      else
        b_X12_byteOf_45 v5 v2
    else
      b_X12_byteOf_45 v5 v1
  else
    b_X12_byteOf_45 v5 v0
noncomputable def f_X12_byteOf (p1 : Int32) (p2 : Int32) (p3 : Int32) (p4 : Int32) (p5 : Int32) (p6 : Int32) : Option (Int32) := b_X12_byteOf_0  p1 p2 p3 p4 p5 p6
noncomputable def b_X12_feed_35 (k6 : Int32 → (Nat → Int32) → Int32 → Int32 → Int32 → Int32 → Int32 → Int32 → Int32 → Option (Int32 × Int32 × (Nat → Int32))) (m_size : Int32) (m_tape : Nat → Int32) (v1 : Int32) (v2 : Int32) (v3 : Int32) (v4 : Int32) (v5 : Int32) (v7 : Int32) (t0 : Int32) (t1 : Int32) : Option (Int32 × Int32 × (Nat → Int32)) :=
  bnd (t0 + t1) fun v6_1 =>
  bnd (v7 + (1 : Int32)) fun v7_2 =>
  k6 m_size m_tape v1 v2 v3 v4 v5 v6_1 v7_2
noncomputable def b_X12_feed_109 (k62 : Int32 → (Nat → Int32) → Int32 → Int32 → Int32 → Int32 → Int32 → Int32 → Option (Int32 × Int32 × (Nat → Int32))) (m_size : Int32) (m_tape : Nat → Int32) (v1 : Int32) (v2 : Int32) (v3 : Int32) (v4 : Int32) (v5 : Int32) (v7 : Int32) : Option (Int32 × Int32 × (Nat → Int32)) :=
  bnd (v7 + (1 : Int32)) fun v7_1 =>
  k62 m_size m_tape v1 v2 v3 v4 v5 v7_1
noncomputable def b_X12_feed_62 (k62 : Int32 → (Nat → Int32) → Int32 → Int32 → Int32 → Int32 → Int32 → Int32 → Option (Int32 × Int32 × (Nat → Int32))) (m_size : Int32) (m_tape : Nat → Int32) (v1 : Int32) (v2 : Int32) (v3 : Int32) (v4 : Int32) (v5 : Int32) (v7 : Int32) : Option (Int32 × Int32 × (Nat → Int32)) :=
  if (20 : Int32) ≤ v7 then
    some (m_size, m_size, m_tape)
  else
    ob1 (f_X12_byteOf v1 v2 v3 v4 v5 v7) fun r_1 =>
    if r_1 = (0 : Int32) then
      b_X12_feed_109 k62 m_size m_tape v1 v2 v3 v4 v5 v7
    else
      gd (inB m_size 240) <|
      bnd (upd m_tape m_size.toNatClampNeg r_1) fun m_tape_4 =>
      bnd (m_size + (1 : Int32)) fun size_5 =>
      b_X12_feed_109 k62 size_5 m_tape_4 v1 v2 v3 v4 v5 v7
noncomputable def f_X12_feed_62  : Nat → Int32 → (Nat → Int32) → Int32 → Int32 → Int32 → Int32 → Int32 → Int32 → Option (Int32 × Int32 × (Nat → Int32))
  | 0, _, _, _, _, _, _, _, _ => none
  | n + 1, m_size, m_tape, v1, v2, v3, v4, v5, v7 => b_X12_feed_62  (f_X12_feed_62  n) m_size m_tape v1 v2 v3 v4 v5 v7
noncomputable def b_X12_feed_6 (k6 : Int32 → (Nat → Int32) → Int32 → Int32 → Int32 → Int32 → Int32 → Int32 → Int32 → Option (Int32 × Int32 × (Nat → Int32))) (m_size : Int32) (m_tape : Nat → Int32) (v1 : Int32) (v2 : Int32) (v3 : Int32) (v4 : Int32) (v5 : Int32) (v6 : Int32) (v7 : Int32) : Option (Int32 × Int32 × (Nat → Int32)) :=
  if (20 : Int32) ≤ v7 then
    if (m_size + v6) ≤ (240 : Int32) then
      f_X12_feed_62 fu m_size m_tape v1 v2 v3 v4 v5 (0 : Int32)
    else
      some ((-1 : Int32), m_size, m_tape)
  else
    ob1 (f_X12_byteOf v1 v2 v3 v4 v5 v7) fun r_1 =>
    if r_1 = (0 : Int32) then
      b_X12_feed_35 k6 m_size m_tape v1 v2 v3 v4 v5 v7 v6 (0 : Int32)
    else
      b_X12_feed_35 k6 m_size m_tape v1 v2 v3 v4 v5 v7 v6 (1 : Int32)
noncomputable def f_X12_feed_6  : Nat → Int32 → (Nat → Int32) → Int32 → Int32 → Int32 → Int32 → Int32 → Int32 → Int32 → Option (Int32 × Int32 × (Nat → Int32))
  | 0, _, _, _, _, _, _, _, _, _ => none
  | n + 1, m_size, m_tape, v1, v2, v3, v4, v5, v6, v7 => b_X12_feed_6  (f_X12_feed_6  n) m_size m_tape v1 v2 v3 v4 v5 v6 v7
noncomputable def b_X12_feed_0 (m_size : Int32) (m_tape : Nat → Int32) (v1 : Int32) (v2 : Int32) (v3 : Int32) (v4 : Int32) (v5 : Int32) : Option (Int32 × Int32 × (Nat → Int32)) :=
  f_X12_feed_6 fu m_size m_tape v1 v2 v3 v4 v5 (0 : Int32) (0 : Int32)
noncomputable def f_X12_feed (m_size : Int32) (m_tape : Nat → Int32) (p1 : Int32) (p2 : Int32) (p3 : Int32) (p4 : Int32) (p5 : Int32) : Option (Int32 × Int32 × (Nat → Int32)) := b_X12_feed_0  m_size m_tape p1 p2 p3 p4 p5
noncomputable def b_X12_end_0 (m_size : Int32) (v1 : Int32) : Option (Int32 × Int32) :=
  if v1 < (0 : Int32) then
    some ((0 : Int32), m_size)
  else
    if v1 ≤ m_size then
      some ((1 : Int32), v1)
    else
      some ((0 : Int32), m_size)
noncomputable def f_X12_end (m_size : Int32) (p1 : Int32) : Option (Int32 × Int32) := b_X12_end_0  m_size p1
noncomputable def b_X12_here_0 (m_size : Int32) (m_at : Int32) (m_tape : Nat → Int32) : Option (Int32) :=
  if m_size ≤ m_at then
    some (-1 : Int32)
  else
    gd (inB m_at 240) <|
    some (m_tape m_at.toNatClampNeg)
noncomputable def f_X12_here (m_size : Int32) (m_at : Int32) (m_tape : Nat → Int32) : Option (Int32) := b_X12_here_0 m_size m_at m_tape 
noncomputable def b_X12_look_0 (m_size : Int32) (m_tape : Nat → Int32) (k0 : Int32 → Option (Int32 × Int32)) (m_at : Int32) : Option (Int32 × Int32) :=
  ob1 (f_X12_here m_size m_at m_tape) fun r_1 =>
  if r_1 = (32 : Int32) then
    bnd (m_at + (1 : Int32)) fun at_5 =>
    k0 at_5
  else
    ob1 (f_X12_here m_size m_at m_tape) fun r_3 =>
    some (r_3, m_at)
noncomputable def f_X12_look_0 (m_size : Int32) (m_tape : Nat → Int32) : Nat → Int32 → Option (Int32 × Int32)
  | 0, _ => none
  | n + 1, m_at => b_X12_look_0 m_size m_tape (f_X12_look_0 m_size m_tape n) m_at
noncomputable def f_X12_look (m_size : Int32) (m_tape : Nat → Int32) (m_at : Int32) : Option (Int32 × Int32) := f_X12_look_0 m_size m_tape fu m_at
noncomputable def b_X12_bad_20 (m_at : Int32) (m_wrong : Int32) (t1 : Int32) : Option (Int32) :=
  some t1
noncomputable def b_X12_bad_0 (m_at : Int32) (m_wrong : Int32) : Option (Int32) :=
  if m_wrong = (-1 : Int32) then
    b_X12_bad_20 m_at m_wrong m_at
  else
    b_X12_bad_20 m_at m_wrong m_wrong
noncomputable def f_X12_bad (m_at : Int32) (m_wrong : Int32) : Option (Int32) := b_X12_bad_0 m_at m_wrong
noncomputable def b_X12_isDigit_0 (v0 : Int32) : Option (Int32) :=
  if v0 < (48 : Int32) then
    some (0 : Int32)
  else
    if (57 : Int32) < v0 then
      some (0 : Int32)
    else
      some (1 : Int32)
noncomputable def f_X12_isDigit (p1 : Int32) : Option (Int32) := b_X12_isDigit_0  p1
noncomputable def b_X12_put_0 (m_text : Int32) (m_code : Nat → Int32) (m_value : Nat → Int32) (m_codes : Nat → Int32) (v1 : Int32) (v2 : Int32) : Option ((Nat → Int32) × (Nat → Int32) × (Nat → Int32)) :=
  gd (inB m_text 5) <|
  gd (inB (((520 : Int32) * m_text) + (m_codes m_text.toNatClampNeg)) 2600) <|
  bnd (upd m_code (((520 : Int32) * m_text) + (m_codes m_text.toNatClampNeg)).toNatClampNeg v1) fun m_code_3 =>
  gd (inB m_text 5) <|
  gd (inB (((520 : Int32) * m_text) + (m_codes m_text.toNatClampNeg)) 2600) <|
  bnd (upd m_value (((520 : Int32) * m_text) + (m_codes m_text.toNatClampNeg)).toNatClampNeg v2) fun m_value_6 =>
  gd (inB m_text 5) <|
  gd (inB m_text 5) <|
  bnd (upd m_codes m_text.toNatClampNeg ((m_codes m_text.toNatClampNeg) + (1 : Int32))) fun m_codes_9 =>
  some (m_code_3, m_value_6, m_codes_9)
noncomputable def f_X12_put (m_text : Int32) (m_code : Nat → Int32) (m_value : Nat → Int32) (m_codes : Nat → Int32) (p1 : Int32) (p2 : Int32) : Option ((Nat → Int32) × (Nat → Int32) × (Nat → Int32)) := b_X12_put_0 m_text m_code m_value m_codes p1 p2
noncomputable def b_X12_letterOf_0 (v0 : Int32) : Option (Int32) :=
  if v0 = (102 : Int32) then
    some (0 : Int32)
  else
    if v0 = (115 : Int32) then
      some (1 : Int32)
    else
      if v0 = (119 : Int32) then
        some (2 : Int32)
      else
        if v0 = (97 : Int32) then
          some (3 : Int32)
        else
          if v0 = (112 : Int32) then
            some (4 : Int32)
          else
            if v0 = (100 : Int32) then
              some (5 : Int32)
            else
              some (-1 : Int32)
noncomputable def f_X12_letterOf (p1 : Int32) : Option (Int32) := b_X12_letterOf_0  p1
noncomputable def b_X12_opens_13 (m_at : Int32) (m_wrong : Int32) (m_deep : Int32) : Option (Int32 × Int32 × Int32) :=
  bnd (m_deep + (1 : Int32)) fun deep_1 =>
  bnd (m_at + (1 : Int32)) fun at_2 =>
  some (at_2, m_wrong, deep_1)
noncomputable def b_X12_opens_0 (m_at : Int32) (m_wrong : Int32) (m_deep : Int32) : Option (Int32 × Int32 × Int32) :=
  if m_deep = (6 : Int32) then
    ob1 (f_X12_bad m_at m_wrong) fun m_wrong_1 =>
    b_X12_opens_13 m_at m_wrong_1 m_deep
  else
    b_X12_opens_13 m_at m_wrong m_deep
noncomputable def f_X12_opens (m_at : Int32) (m_wrong : Int32) (m_deep : Int32) : Option (Int32 × Int32 × Int32) := b_X12_opens_0  m_at m_wrong m_deep
noncomputable def b_X12_closes_20 (m_size : Int32) (m_tape : Nat → Int32) (m_at : Int32) (m_wrong : Int32) (m_deep : Int32) : Option (Int32 × Int32 × Int32) :=
  bnd (m_at + (1 : Int32)) fun at_1 =>
  bnd (m_deep - (1 : Int32)) fun deep_2 =>
  some (at_1, m_wrong, deep_2)
noncomputable def b_X12_closes_0 (m_size : Int32) (m_tape : Nat → Int32) (m_at : Int32) (m_wrong : Int32) (m_deep : Int32) (v1 : Int32) : Option (Int32 × Int32 × Int32) :=
  if m_wrong = (-1 : Int32) then
    ob2 (f_X12_look m_size m_tape m_at) fun r_1 m_at_2 =>
    if r_1 = v1 then
      b_X12_closes_20 m_size m_tape m_at_2 m_wrong m_deep
    else
      ob1 (f_X12_bad m_at_2 m_wrong) fun m_wrong_4 =>
      b_X12_closes_20 m_size m_tape m_at_2 m_wrong_4 m_deep
  else
    b_X12_closes_20 m_size m_tape m_at m_wrong m_deep
noncomputable def f_X12_closes (m_size : Int32) (m_tape : Nat → Int32) (m_at : Int32) (m_wrong : Int32) (m_deep : Int32) (p1 : Int32) : Option (Int32 × Int32 × Int32) := b_X12_closes_0 m_size m_tape m_at m_wrong m_deep p1
noncomputable def b_X12_plainNumber_48 (m_size : Int32) (m_tape : Nat → Int32) (m_at : Int32) (m_wrong : Int32) (v1 : Int32) : Option (Int32 × Int32 × Int32) :=
  ob1 (f_X12_here m_size m_at m_tape) fun r_1 =>
  ob1 (f_X12_isDigit r_1) fun r_3 =>
  if r_3 = (0 : Int32) then
    some (v1, m_at, m_wrong)
  else
    ob1 (f_X12_bad m_at m_wrong) fun m_wrong_5 =>
    some (v1, m_at, m_wrong_5)
noncomputable def b_X12_plainNumber_4 (m_size : Int32) (m_tape : Nat → Int32) (k4 : Int32 → Int32 → Int32 → Int32 → Option (Int32 × Int32 × Int32)) (m_at : Int32) (m_wrong : Int32) (v1 : Int32) (v2 : Int32) : Option (Int32 × Int32 × Int32) :=
  if (4 : Int32) ≤ v2 then
    b_X12_plainNumber_48 m_size m_tape m_at m_wrong v1
  else
    ob1 (f_X12_here m_size m_at m_tape) fun r_1 =>
    ob1 (f_X12_isDigit r_1) fun r_3 =>
    if r_3 = (0 : Int32) then
      b_X12_plainNumber_48 m_size m_tape m_at m_wrong v1
    else
      ob1 (f_X12_here m_size m_at m_tape) fun r_5 =>
      bnd ((((10 : Int32) * v1) + r_5) - (48 : Int32)) fun v1_7 =>
      bnd (m_at + (1 : Int32)) fun at_8 =>
      bnd (v2 + (1 : Int32)) fun v2_9 =>
      k4 at_8 m_wrong v1_7 v2_9
noncomputable def f_X12_plainNumber_4 (m_size : Int32) (m_tape : Nat → Int32) : Nat → Int32 → Int32 → Int32 → Int32 → Option (Int32 × Int32 × Int32)
  | 0, _, _, _, _ => none
  | n + 1, m_at, m_wrong, v1, v2 => b_X12_plainNumber_4 m_size m_tape (f_X12_plainNumber_4 m_size m_tape n) m_at m_wrong v1 v2
noncomputable def b_X12_plainNumber_0 (m_size : Int32) (m_tape : Nat → Int32) (m_at : Int32) (m_wrong : Int32) : Option (Int32 × Int32 × Int32) :=
  f_X12_plainNumber_4 m_size m_tape fu m_at m_wrong (0 : Int32) (0 : Int32)
noncomputable def f_X12_plainNumber (m_size : Int32) (m_tape : Nat → Int32) (m_at : Int32) (m_wrong : Int32) : Option (Int32 × Int32 × Int32) := b_X12_plainNumber_0 m_size m_tape m_at m_wrong
noncomputable def b_X12_atom_0 (F_X12_atom : Int32 → Int32 → (Nat → Int32) → Int32 → Int32 → Int32 → (Nat → Int32) → (Nat → Int32) → (Nat → Int32) → Option (Int32 × Int32 × Int32 × (Nat → Int32) × (Nat → Int32) × (Nat → Int32))) (F_X12_sum : Int32 → Int32 → (Nat → Int32) → Int32 → Int32 → Int32 → (Nat → Int32) → (Nat → Int32) → (Nat → Int32) → Option (Int32 × Int32 × Int32 × (Nat → Int32) × (Nat → Int32) × (Nat → Int32))) (F_X12_term : Int32 → Int32 → (Nat → Int32) → Int32 → Int32 → Int32 → (Nat → Int32) → (Nat → Int32) → (Nat → Int32) → Option (Int32 × Int32 × Int32 × (Nat → Int32) × (Nat → Int32) × (Nat → Int32))) (m_size : Int32) (m_text : Int32) (m_tape : Nat → Int32) (m_at : Int32) (m_wrong : Int32) (m_deep : Int32) (m_code : Nat → Int32) (m_value : Nat → Int32) (m_codes : Nat → Int32) : Option (Int32 × Int32 × Int32 × (Nat → Int32) × (Nat → Int32) × (Nat → Int32)) :=
  ob2 (f_X12_look m_size m_tape m_at) fun r_1 m_at_2 =>
  ob1 (f_X12_isDigit r_1) fun r_4 =>
  if r_4 = (0 : Int32) then
    ob1 (f_X12_letterOf r_1) fun r_6 =>
    if r_6 = (-1 : Int32) then
      if r_1 = (91 : Int32) then
        ob3 (f_X12_opens m_at_2 m_wrong m_deep) fun m_at_10 m_wrong_11 m_deep_12 =>
        if m_wrong_11 = (-1 : Int32) then
          ob6 (F_X12_sum m_size m_text m_tape m_at_10 m_wrong_11 m_deep_12 m_code m_value m_codes) fun m_at_14 m_wrong_15 m_deep_16 m_code_17 m_value_18 m_codes_19 =>
          ob3 (f_X12_closes m_size m_tape m_at_14 m_wrong_15 m_deep_16 (93 : Int32)) fun m_at_21 m_wrong_22 m_deep_23 =>
          some (m_at_21, m_wrong_22, m_deep_23, m_code_17, m_value_18, m_codes_19)
        else
          some (m_at_10, m_wrong_11, m_deep_12, m_code, m_value, m_codes)
      else
        ob1 (f_X12_bad m_at_2 m_wrong) fun m_wrong_8 =>
        some (m_at_2, m_wrong_8, m_deep, m_code, m_value, m_codes)
    else
      bnd (m_at_2 + (1 : Int32)) fun at_25 =>
      ob1 (f_X12_letterOf r_1) fun r_26 =>
      ob3 (f_X12_put m_text m_code m_value m_codes (1 : Int32) r_26) fun m_code_28 m_value_29 m_codes_30 =>
      some (at_25, m_wrong, m_deep, m_code_28, m_value_29, m_codes_30)
  else
    ob3 (f_X12_plainNumber m_size m_tape m_at_2 m_wrong) fun r_32 m_at_33 m_wrong_34 =>
    ob3 (f_X12_put m_text m_code m_value m_codes (0 : Int32) r_32) fun m_code_36 m_value_37 m_codes_38 =>
    some (m_at_33, m_wrong_34, m_deep, m_code_36, m_value_37, m_codes_38)
noncomputable def g_X12_atom (F_X12_atom : Int32 → Int32 → (Nat → Int32) → Int32 → Int32 → Int32 → (Nat → Int32) → (Nat → Int32) → (Nat → Int32) → Option (Int32 × Int32 × Int32 × (Nat → Int32) × (Nat → Int32) × (Nat → Int32))) (F_X12_sum : Int32 → Int32 → (Nat → Int32) → Int32 → Int32 → Int32 → (Nat → Int32) → (Nat → Int32) → (Nat → Int32) → Option (Int32 × Int32 × Int32 × (Nat → Int32) × (Nat → Int32) × (Nat → Int32))) (F_X12_term : Int32 → Int32 → (Nat → Int32) → Int32 → Int32 → Int32 → (Nat → Int32) → (Nat → Int32) → (Nat → Int32) → Option (Int32 × Int32 × Int32 × (Nat → Int32) × (Nat → Int32) × (Nat → Int32))) (m_size : Int32) (m_text : Int32) (m_tape : Nat → Int32) (m_at : Int32) (m_wrong : Int32) (m_deep : Int32) (m_code : Nat → Int32) (m_value : Nat → Int32) (m_codes : Nat → Int32) : Option (Int32 × Int32 × Int32 × (Nat → Int32) × (Nat → Int32) × (Nat → Int32)) := b_X12_atom_0 F_X12_atom F_X12_sum F_X12_term m_size m_text m_tape m_at m_wrong m_deep m_code m_value m_codes
noncomputable def b_X12_sum_79 (F_X12_atom : Int32 → Int32 → (Nat → Int32) → Int32 → Int32 → Int32 → (Nat → Int32) → (Nat → Int32) → (Nat → Int32) → Option (Int32 × Int32 × Int32 × (Nat → Int32) × (Nat → Int32) × (Nat → Int32))) (F_X12_sum : Int32 → Int32 → (Nat → Int32) → Int32 → Int32 → Int32 → (Nat → Int32) → (Nat → Int32) → (Nat → Int32) → Option (Int32 × Int32 × Int32 × (Nat → Int32) × (Nat → Int32) × (Nat → Int32))) (F_X12_term : Int32 → Int32 → (Nat → Int32) → Int32 → Int32 → Int32 → (Nat → Int32) → (Nat → Int32) → (Nat → Int32) → Option (Int32 × Int32 × Int32 × (Nat → Int32) × (Nat → Int32) × (Nat → Int32))) (m_size : Int32) (m_text : Int32) (m_tape : Nat → Int32) (k21 : Int32 → Int32 → Int32 → (Nat → Int32) → (Nat → Int32) → (Nat → Int32) → Int32 → Option (Int32 × Int32 × Int32 × (Nat → Int32) × (Nat → Int32) × (Nat → Int32))) (m_at : Int32) (m_wrong : Int32) (m_deep : Int32) (m_code : Nat → Int32) (m_value : Nat → Int32) (m_codes : Nat → Int32) (t0 : Int32) : Option (Int32 × Int32 × Int32 × (Nat → Int32) × (Nat → Int32) × (Nat → Int32)) :=
  k21 m_at m_wrong m_deep m_code m_value m_codes t0
noncomputable def b_X12_sum_59 (F_X12_atom : Int32 → Int32 → (Nat → Int32) → Int32 → Int32 → Int32 → (Nat → Int32) → (Nat → Int32) → (Nat → Int32) → Option (Int32 × Int32 × Int32 × (Nat → Int32) × (Nat → Int32) × (Nat → Int32))) (F_X12_sum : Int32 → Int32 → (Nat → Int32) → Int32 → Int32 → Int32 → (Nat → Int32) → (Nat → Int32) → (Nat → Int32) → Option (Int32 × Int32 × Int32 × (Nat → Int32) × (Nat → Int32) × (Nat → Int32))) (F_X12_term : Int32 → Int32 → (Nat → Int32) → Int32 → Int32 → Int32 → (Nat → Int32) → (Nat → Int32) → (Nat → Int32) → Option (Int32 × Int32 × Int32 × (Nat → Int32) × (Nat → Int32) × (Nat → Int32))) (m_size : Int32) (m_text : Int32) (m_tape : Nat → Int32) (k21 : Int32 → Int32 → Int32 → (Nat → Int32) → (Nat → Int32) → (Nat → Int32) → Int32 → Option (Int32 × Int32 × Int32 × (Nat → Int32) × (Nat → Int32) × (Nat → Int32))) (m_at : Int32) (m_wrong : Int32) (m_deep : Int32) (m_code : Nat → Int32) (m_value : Nat → Int32) (m_codes : Nat → Int32) (t1 : Int32) : Option (Int32 × Int32 × Int32 × (Nat → Int32) × (Nat → Int32) × (Nat → Int32)) :=
  ob3 (f_X12_put m_text m_code m_value m_codes t1 (0 : Int32)) fun m_code_1 m_value_2 m_codes_3 =>
  if m_wrong = (-1 : Int32) then
    ob2 (f_X12_look m_size m_tape m_at) fun r_5 m_at_6 =>
    b_X12_sum_79 F_X12_atom F_X12_sum F_X12_term m_size m_text m_tape k21 m_at_6 m_wrong m_deep m_code_1 m_value_2 m_codes_3 r_5
  else
    b_X12_sum_79 F_X12_atom F_X12_sum F_X12_term m_size m_text m_tape k21 m_at m_wrong m_deep m_code_1 m_value_2 m_codes_3 (-1 : Int32)
noncomputable def b_X12_sum_33 (F_X12_atom : Int32 → Int32 → (Nat → Int32) → Int32 → Int32 → Int32 → (Nat → Int32) → (Nat → Int32) → (Nat → Int32) → Option (Int32 × Int32 × Int32 × (Nat → Int32) × (Nat → Int32) × (Nat → Int32))) (F_X12_sum : Int32 → Int32 → (Nat → Int32) → Int32 → Int32 → Int32 → (Nat → Int32) → (Nat → Int32) → (Nat → Int32) → Option (Int32 × Int32 × Int32 × (Nat → Int32) × (Nat → Int32) × (Nat → Int32))) (F_X12_term : Int32 → Int32 → (Nat → Int32) → Int32 → Int32 → Int32 → (Nat → Int32) → (Nat → Int32) → (Nat → Int32) → Option (Int32 × Int32 × Int32 × (Nat → Int32) × (Nat → Int32) × (Nat → Int32))) (m_size : Int32) (m_text : Int32) (m_tape : Nat → Int32) (k21 : Int32 → Int32 → Int32 → (Nat → Int32) → (Nat → Int32) → (Nat → Int32) → Int32 → Option (Int32 × Int32 × Int32 × (Nat → Int32) × (Nat → Int32) × (Nat → Int32))) (m_at : Int32) (m_wrong : Int32) (m_deep : Int32) (m_code : Nat → Int32) (m_value : Nat → Int32) (m_codes : Nat → Int32) (v1 : Int32) : Option (Int32 × Int32 × Int32 × (Nat → Int32) × (Nat → Int32) × (Nat → Int32)) :=
  bnd (m_at + (1 : Int32)) fun at_1 =>
  ob6 (F_X12_term m_size m_text m_tape at_1 m_wrong m_deep m_code m_value m_codes) fun m_at_2 m_wrong_3 m_deep_4 m_code_5 m_value_6 m_codes_7 =>
  if v1 = (43 : Int32) then
    b_X12_sum_59 F_X12_atom F_X12_sum F_X12_term m_size m_text m_tape k21 m_at_2 m_wrong_3 m_deep_4 m_code_5 m_value_6 m_codes_7 (2 : Int32)
  else
    b_X12_sum_59 F_X12_atom F_X12_sum F_X12_term m_size m_text m_tape k21 m_at_2 m_wrong_3 m_deep_4 m_code_5 m_value_6 m_codes_7 (3 : Int32)
noncomputable def b_X12_sum_21 (F_X12_atom : Int32 → Int32 → (Nat → Int32) → Int32 → Int32 → Int32 → (Nat → Int32) → (Nat → Int32) → (Nat → Int32) → Option (Int32 × Int32 × Int32 × (Nat → Int32) × (Nat → Int32) × (Nat → Int32))) (F_X12_sum : Int32 → Int32 → (Nat → Int32) → Int32 → Int32 → Int32 → (Nat → Int32) → (Nat → Int32) → (Nat → Int32) → Option (Int32 × Int32 × Int32 × (Nat → Int32) × (Nat → Int32) × (Nat → Int32))) (F_X12_term : Int32 → Int32 → (Nat → Int32) → Int32 → Int32 → Int32 → (Nat → Int32) → (Nat → Int32) → (Nat → Int32) → Option (Int32 × Int32 × Int32 × (Nat → Int32) × (Nat → Int32) × (Nat → Int32))) (m_size : Int32) (m_text : Int32) (m_tape : Nat → Int32) (k21 : Int32 → Int32 → Int32 → (Nat → Int32) → (Nat → Int32) → (Nat → Int32) → Int32 → Option (Int32 × Int32 × Int32 × (Nat → Int32) × (Nat → Int32) × (Nat → Int32))) (m_at : Int32) (m_wrong : Int32) (m_deep : Int32) (m_code : Nat → Int32) (m_value : Nat → Int32) (m_codes : Nat → Int32) (v1 : Int32) : Option (Int32 × Int32 × Int32 × (Nat → Int32) × (Nat → Int32) × (Nat → Int32)) :=
  if v1 = (43 : Int32) then
    b_X12_sum_33 F_X12_atom F_X12_sum F_X12_term m_size m_text m_tape k21 m_at m_wrong m_deep m_code m_value m_codes v1
  else
    if v1 = (45 : Int32) then
      b_X12_sum_33 F_X12_atom F_X12_sum F_X12_term m_size m_text m_tape k21 m_at m_wrong m_deep m_code m_value m_codes v1
    else
      some (m_at, m_wrong, m_deep, m_code, m_value, m_codes)
noncomputable def f_X12_sum_21 (F_X12_atom : Int32 → Int32 → (Nat → Int32) → Int32 → Int32 → Int32 → (Nat → Int32) → (Nat → Int32) → (Nat → Int32) → Option (Int32 × Int32 × Int32 × (Nat → Int32) × (Nat → Int32) × (Nat → Int32))) (F_X12_sum : Int32 → Int32 → (Nat → Int32) → Int32 → Int32 → Int32 → (Nat → Int32) → (Nat → Int32) → (Nat → Int32) → Option (Int32 × Int32 × Int32 × (Nat → Int32) × (Nat → Int32) × (Nat → Int32))) (F_X12_term : Int32 → Int32 → (Nat → Int32) → Int32 → Int32 → Int32 → (Nat → Int32) → (Nat → Int32) → (Nat → Int32) → Option (Int32 × Int32 × Int32 × (Nat → Int32) × (Nat → Int32) × (Nat → Int32))) (m_size : Int32) (m_text : Int32) (m_tape : Nat → Int32) : Nat → Int32 → Int32 → Int32 → (Nat → Int32) → (Nat → Int32) → (Nat → Int32) → Int32 → Option (Int32 × Int32 × Int32 × (Nat → Int32) × (Nat → Int32) × (Nat → Int32))
  | 0, _, _, _, _, _, _, _ => none
  | n + 1, m_at, m_wrong, m_deep, m_code, m_value, m_codes, v1 => b_X12_sum_21 F_X12_atom F_X12_sum F_X12_term m_size m_text m_tape (f_X12_sum_21 F_X12_atom F_X12_sum F_X12_term m_size m_text m_tape n) m_at m_wrong m_deep m_code m_value m_codes v1
noncomputable def b_X12_sum_20 (F_X12_atom : Int32 → Int32 → (Nat → Int32) → Int32 → Int32 → Int32 → (Nat → Int32) → (Nat → Int32) → (Nat → Int32) → Option (Int32 × Int32 × Int32 × (Nat → Int32) × (Nat → Int32) × (Nat → Int32))) (F_X12_sum : Int32 → Int32 → (Nat → Int32) → Int32 → Int32 → Int32 → (Nat → Int32) → (Nat → Int32) → (Nat → Int32) → Option (Int32 × Int32 × Int32 × (Nat → Int32) × (Nat → Int32) × (Nat → Int32))) (F_X12_term : Int32 → Int32 → (Nat → Int32) → Int32 → Int32 → Int32 → (Nat → Int32) → (Nat → Int32) → (Nat → Int32) → Option (Int32 × Int32 × Int32 × (Nat → Int32) × (Nat → Int32) × (Nat → Int32))) (m_size : Int32) (m_text : Int32) (m_tape : Nat → Int32) (m_at : Int32) (m_wrong : Int32) (m_deep : Int32) (m_code : Nat → Int32) (m_value : Nat → Int32) (m_codes : Nat → Int32) (t0 : Int32) : Option (Int32 × Int32 × Int32 × (Nat → Int32) × (Nat → Int32) × (Nat → Int32)) :=
  f_X12_sum_21 F_X12_atom F_X12_sum F_X12_term m_size m_text m_tape fu m_at m_wrong m_deep m_code m_value m_codes t0
noncomputable def b_X12_sum_0 (F_X12_atom : Int32 → Int32 → (Nat → Int32) → Int32 → Int32 → Int32 → (Nat → Int32) → (Nat → Int32) → (Nat → Int32) → Option (Int32 × Int32 × Int32 × (Nat → Int32) × (Nat → Int32) × (Nat → Int32))) (F_X12_sum : Int32 → Int32 → (Nat → Int32) → Int32 → Int32 → Int32 → (Nat → Int32) → (Nat → Int32) → (Nat → Int32) → Option (Int32 × Int32 × Int32 × (Nat → Int32) × (Nat → Int32) × (Nat → Int32))) (F_X12_term : Int32 → Int32 → (Nat → Int32) → Int32 → Int32 → Int32 → (Nat → Int32) → (Nat → Int32) → (Nat → Int32) → Option (Int32 × Int32 × Int32 × (Nat → Int32) × (Nat → Int32) × (Nat → Int32))) (m_size : Int32) (m_text : Int32) (m_tape : Nat → Int32) (m_at : Int32) (m_wrong : Int32) (m_deep : Int32) (m_code : Nat → Int32) (m_value : Nat → Int32) (m_codes : Nat → Int32) : Option (Int32 × Int32 × Int32 × (Nat → Int32) × (Nat → Int32) × (Nat → Int32)) :=
  ob6 (F_X12_term m_size m_text m_tape m_at m_wrong m_deep m_code m_value m_codes) fun m_at_1 m_wrong_2 m_deep_3 m_code_4 m_value_5 m_codes_6 =>
  if m_wrong_2 = (-1 : Int32) then
    ob2 (f_X12_look m_size m_tape m_at_1) fun r_8 m_at_9 =>
    b_X12_sum_20 F_X12_atom F_X12_sum F_X12_term m_size m_text m_tape m_at_9 m_wrong_2 m_deep_3 m_code_4 m_value_5 m_codes_6 r_8
  else
    b_X12_sum_20 F_X12_atom F_X12_sum F_X12_term m_size m_text m_tape m_at_1 m_wrong_2 m_deep_3 m_code_4 m_value_5 m_codes_6 (-1 : Int32)
noncomputable def g_X12_sum (F_X12_atom : Int32 → Int32 → (Nat → Int32) → Int32 → Int32 → Int32 → (Nat → Int32) → (Nat → Int32) → (Nat → Int32) → Option (Int32 × Int32 × Int32 × (Nat → Int32) × (Nat → Int32) × (Nat → Int32))) (F_X12_sum : Int32 → Int32 → (Nat → Int32) → Int32 → Int32 → Int32 → (Nat → Int32) → (Nat → Int32) → (Nat → Int32) → Option (Int32 × Int32 × Int32 × (Nat → Int32) × (Nat → Int32) × (Nat → Int32))) (F_X12_term : Int32 → Int32 → (Nat → Int32) → Int32 → Int32 → Int32 → (Nat → Int32) → (Nat → Int32) → (Nat → Int32) → Option (Int32 × Int32 × Int32 × (Nat → Int32) × (Nat → Int32) × (Nat → Int32))) (m_size : Int32) (m_text : Int32) (m_tape : Nat → Int32) (m_at : Int32) (m_wrong : Int32) (m_deep : Int32) (m_code : Nat → Int32) (m_value : Nat → Int32) (m_codes : Nat → Int32) : Option (Int32 × Int32 × Int32 × (Nat → Int32) × (Nat → Int32) × (Nat → Int32)) := b_X12_sum_0 F_X12_atom F_X12_sum F_X12_term m_size m_text m_tape m_at m_wrong m_deep m_code m_value m_codes
noncomputable def b_X12_term_79 (F_X12_atom : Int32 → Int32 → (Nat → Int32) → Int32 → Int32 → Int32 → (Nat → Int32) → (Nat → Int32) → (Nat → Int32) → Option (Int32 × Int32 × Int32 × (Nat → Int32) × (Nat → Int32) × (Nat → Int32))) (F_X12_sum : Int32 → Int32 → (Nat → Int32) → Int32 → Int32 → Int32 → (Nat → Int32) → (Nat → Int32) → (Nat → Int32) → Option (Int32 × Int32 × Int32 × (Nat → Int32) × (Nat → Int32) × (Nat → Int32))) (F_X12_term : Int32 → Int32 → (Nat → Int32) → Int32 → Int32 → Int32 → (Nat → Int32) → (Nat → Int32) → (Nat → Int32) → Option (Int32 × Int32 × Int32 × (Nat → Int32) × (Nat → Int32) × (Nat → Int32))) (m_size : Int32) (m_text : Int32) (m_tape : Nat → Int32) (k21 : Int32 → Int32 → Int32 → (Nat → Int32) → (Nat → Int32) → (Nat → Int32) → Int32 → Option (Int32 × Int32 × Int32 × (Nat → Int32) × (Nat → Int32) × (Nat → Int32))) (m_at : Int32) (m_wrong : Int32) (m_deep : Int32) (m_code : Nat → Int32) (m_value : Nat → Int32) (m_codes : Nat → Int32) (t0 : Int32) : Option (Int32 × Int32 × Int32 × (Nat → Int32) × (Nat → Int32) × (Nat → Int32)) :=
  k21 m_at m_wrong m_deep m_code m_value m_codes t0
noncomputable def b_X12_term_59 (F_X12_atom : Int32 → Int32 → (Nat → Int32) → Int32 → Int32 → Int32 → (Nat → Int32) → (Nat → Int32) → (Nat → Int32) → Option (Int32 × Int32 × Int32 × (Nat → Int32) × (Nat → Int32) × (Nat → Int32))) (F_X12_sum : Int32 → Int32 → (Nat → Int32) → Int32 → Int32 → Int32 → (Nat → Int32) → (Nat → Int32) → (Nat → Int32) → Option (Int32 × Int32 × Int32 × (Nat → Int32) × (Nat → Int32) × (Nat → Int32))) (F_X12_term : Int32 → Int32 → (Nat → Int32) → Int32 → Int32 → Int32 → (Nat → Int32) → (Nat → Int32) → (Nat → Int32) → Option (Int32 × Int32 × Int32 × (Nat → Int32) × (Nat → Int32) × (Nat → Int32))) (m_size : Int32) (m_text : Int32) (m_tape : Nat → Int32) (k21 : Int32 → Int32 → Int32 → (Nat → Int32) → (Nat → Int32) → (Nat → Int32) → Int32 → Option (Int32 × Int32 × Int32 × (Nat → Int32) × (Nat → Int32) × (Nat → Int32))) (m_at : Int32) (m_wrong : Int32) (m_deep : Int32) (m_code : Nat → Int32) (m_value : Nat → Int32) (m_codes : Nat → Int32) (t1 : Int32) : Option (Int32 × Int32 × Int32 × (Nat → Int32) × (Nat → Int32) × (Nat → Int32)) :=
  ob3 (f_X12_put m_text m_code m_value m_codes t1 (0 : Int32)) fun m_code_1 m_value_2 m_codes_3 =>
  if m_wrong = (-1 : Int32) then
    ob2 (f_X12_look m_size m_tape m_at) fun r_5 m_at_6 =>
    b_X12_term_79 F_X12_atom F_X12_sum F_X12_term m_size m_text m_tape k21 m_at_6 m_wrong m_deep m_code_1 m_value_2 m_codes_3 r_5
  else
    b_X12_term_79 F_X12_atom F_X12_sum F_X12_term m_size m_text m_tape k21 m_at m_wrong m_deep m_code_1 m_value_2 m_codes_3 (-1 : Int32)
noncomputable def b_X12_term_33 (F_X12_atom : Int32 → Int32 → (Nat → Int32) → Int32 → Int32 → Int32 → (Nat → Int32) → (Nat → Int32) → (Nat → Int32) → Option (Int32 × Int32 × Int32 × (Nat → Int32) × (Nat → Int32) × (Nat → Int32))) (F_X12_sum : Int32 → Int32 → (Nat → Int32) → Int32 → Int32 → Int32 → (Nat → Int32) → (Nat → Int32) → (Nat → Int32) → Option (Int32 × Int32 × Int32 × (Nat → Int32) × (Nat → Int32) × (Nat → Int32))) (F_X12_term : Int32 → Int32 → (Nat → Int32) → Int32 → Int32 → Int32 → (Nat → Int32) → (Nat → Int32) → (Nat → Int32) → Option (Int32 × Int32 × Int32 × (Nat → Int32) × (Nat → Int32) × (Nat → Int32))) (m_size : Int32) (m_text : Int32) (m_tape : Nat → Int32) (k21 : Int32 → Int32 → Int32 → (Nat → Int32) → (Nat → Int32) → (Nat → Int32) → Int32 → Option (Int32 × Int32 × Int32 × (Nat → Int32) × (Nat → Int32) × (Nat → Int32))) (m_at : Int32) (m_wrong : Int32) (m_deep : Int32) (m_code : Nat → Int32) (m_value : Nat → Int32) (m_codes : Nat → Int32) (v1 : Int32) : Option (Int32 × Int32 × Int32 × (Nat → Int32) × (Nat → Int32) × (Nat → Int32)) :=
  bnd (m_at + (1 : Int32)) fun at_1 =>
  ob6 (F_X12_atom m_size m_text m_tape at_1 m_wrong m_deep m_code m_value m_codes) fun m_at_2 m_wrong_3 m_deep_4 m_code_5 m_value_6 m_codes_7 =>
  if v1 = (42 : Int32) then
    b_X12_term_59 F_X12_atom F_X12_sum F_X12_term m_size m_text m_tape k21 m_at_2 m_wrong_3 m_deep_4 m_code_5 m_value_6 m_codes_7 (4 : Int32)
  else
    b_X12_term_59 F_X12_atom F_X12_sum F_X12_term m_size m_text m_tape k21 m_at_2 m_wrong_3 m_deep_4 m_code_5 m_value_6 m_codes_7 (5 : Int32)
noncomputable def b_X12_term_21 (F_X12_atom : Int32 → Int32 → (Nat → Int32) → Int32 → Int32 → Int32 → (Nat → Int32) → (Nat → Int32) → (Nat → Int32) → Option (Int32 × Int32 × Int32 × (Nat → Int32) × (Nat → Int32) × (Nat → Int32))) (F_X12_sum : Int32 → Int32 → (Nat → Int32) → Int32 → Int32 → Int32 → (Nat → Int32) → (Nat → Int32) → (Nat → Int32) → Option (Int32 × Int32 × Int32 × (Nat → Int32) × (Nat → Int32) × (Nat → Int32))) (F_X12_term : Int32 → Int32 → (Nat → Int32) → Int32 → Int32 → Int32 → (Nat → Int32) → (Nat → Int32) → (Nat → Int32) → Option (Int32 × Int32 × Int32 × (Nat → Int32) × (Nat → Int32) × (Nat → Int32))) (m_size : Int32) (m_text : Int32) (m_tape : Nat → Int32) (k21 : Int32 → Int32 → Int32 → (Nat → Int32) → (Nat → Int32) → (Nat → Int32) → Int32 → Option (Int32 × Int32 × Int32 × (Nat → Int32) × (Nat → Int32) × (Nat → Int32))) (m_at : Int32) (m_wrong : Int32) (m_deep : Int32) (m_code : Nat → Int32) (m_value : Nat → Int32) (m_codes : Nat → Int32) (v1 : Int32) : Option (Int32 × Int32 × Int32 × (Nat → Int32) × (Nat → Int32) × (Nat → Int32)) :=
  if v1 = (42 : Int32) then
    b_X12_term_33 F_X12_atom F_X12_sum F_X12_term m_size m_text m_tape k21 m_at m_wrong m_deep m_code m_value m_codes v1
  else
    if v1 = (47 : Int32) then
      b_X12_term_33 F_X12_atom F_X12_sum F_X12_term m_size m_text m_tape k21 m_at m_wrong m_deep m_code m_value m_codes v1
    else
      some (m_at, m_wrong, m_deep, m_code, m_value, m_codes)
noncomputable def f_X12_term_21 (F_X12_atom : Int32 → Int32 → (Nat → Int32) → Int32 → Int32 → Int32 → (Nat → Int32) → (Nat → Int32) → (Nat → Int32) → Option (Int32 × Int32 × Int32 × (Nat → Int32) × (Nat → Int32) × (Nat → Int32))) (F_X12_sum : Int32 → Int32 → (Nat → Int32) → Int32 → Int32 → Int32 → (Nat → Int32) → (Nat → Int32) → (Nat → Int32) → Option (Int32 × Int32 × Int32 × (Nat → Int32) × (Nat → Int32) × (Nat → Int32))) (F_X12_term : Int32 → Int32 → (Nat → Int32) → Int32 → Int32 → Int32 → (Nat → Int32) → (Nat → Int32) → (Nat → Int32) → Option (Int32 × Int32 × Int32 × (Nat → Int32) × (Nat → Int32) × (Nat → Int32))) (m_size : Int32) (m_text : Int32) (m_tape : Nat → Int32) : Nat → Int32 → Int32 → Int32 → (Nat → Int32) → (Nat → Int32) → (Nat → Int32) → Int32 → Option (Int32 × Int32 × Int32 × (Nat → Int32) × (Nat → Int32) × (Nat → Int32))
  | 0, _, _, _, _, _, _, _ => none
  | n + 1, m_at, m_wrong, m_deep, m_code, m_value, m_codes, v1 => b_X12_term_21 F_X12_atom F_X12_sum F_X12_term m_size m_text m_tape (f_X12_term_21 F_X12_atom F_X12_sum F_X12_term m_size m_text m_tape n) m_at m_wrong m_deep m_code m_value m_codes v1
noncomputable def b_X12_term_20 (F_X12_atom : Int32 → Int32 → (Nat → Int32) → Int32 → Int32 → Int32 → (Nat → Int32) → (Nat → Int32) → (Nat → Int32) → Option (Int32 × Int32 × Int32 × (Nat → Int32) × (Nat → Int32) × (Nat → Int32))) (F_X12_sum : Int32 → Int32 → (Nat → Int32) → Int32 → Int32 → Int32 → (Nat → Int32) → (Nat → Int32) → (Nat → Int32) → Option (Int32 × Int32 × Int32 × (Nat → Int32) × (Nat → Int32) × (Nat → Int32))) (F_X12_term : Int32 → Int32 → (Nat → Int32) → Int32 → Int32 → Int32 → (Nat → Int32) → (Nat → Int32) → (Nat → Int32) → Option (Int32 × Int32 × Int32 × (Nat → Int32) × (Nat → Int32) × (Nat → Int32))) (m_size : Int32) (m_text : Int32) (m_tape : Nat → Int32) (m_at : Int32) (m_wrong : Int32) (m_deep : Int32) (m_code : Nat → Int32) (m_value : Nat → Int32) (m_codes : Nat → Int32) (t0 : Int32) : Option (Int32 × Int32 × Int32 × (Nat → Int32) × (Nat → Int32) × (Nat → Int32)) :=
  f_X12_term_21 F_X12_atom F_X12_sum F_X12_term m_size m_text m_tape fu m_at m_wrong m_deep m_code m_value m_codes t0
noncomputable def b_X12_term_0 (F_X12_atom : Int32 → Int32 → (Nat → Int32) → Int32 → Int32 → Int32 → (Nat → Int32) → (Nat → Int32) → (Nat → Int32) → Option (Int32 × Int32 × Int32 × (Nat → Int32) × (Nat → Int32) × (Nat → Int32))) (F_X12_sum : Int32 → Int32 → (Nat → Int32) → Int32 → Int32 → Int32 → (Nat → Int32) → (Nat → Int32) → (Nat → Int32) → Option (Int32 × Int32 × Int32 × (Nat → Int32) × (Nat → Int32) × (Nat → Int32))) (F_X12_term : Int32 → Int32 → (Nat → Int32) → Int32 → Int32 → Int32 → (Nat → Int32) → (Nat → Int32) → (Nat → Int32) → Option (Int32 × Int32 × Int32 × (Nat → Int32) × (Nat → Int32) × (Nat → Int32))) (m_size : Int32) (m_text : Int32) (m_tape : Nat → Int32) (m_at : Int32) (m_wrong : Int32) (m_deep : Int32) (m_code : Nat → Int32) (m_value : Nat → Int32) (m_codes : Nat → Int32) : Option (Int32 × Int32 × Int32 × (Nat → Int32) × (Nat → Int32) × (Nat → Int32)) :=
  ob6 (F_X12_atom m_size m_text m_tape m_at m_wrong m_deep m_code m_value m_codes) fun m_at_1 m_wrong_2 m_deep_3 m_code_4 m_value_5 m_codes_6 =>
  if m_wrong_2 = (-1 : Int32) then
    ob2 (f_X12_look m_size m_tape m_at_1) fun r_8 m_at_9 =>
    b_X12_term_20 F_X12_atom F_X12_sum F_X12_term m_size m_text m_tape m_at_9 m_wrong_2 m_deep_3 m_code_4 m_value_5 m_codes_6 r_8
  else
    b_X12_term_20 F_X12_atom F_X12_sum F_X12_term m_size m_text m_tape m_at_1 m_wrong_2 m_deep_3 m_code_4 m_value_5 m_codes_6 (-1 : Int32)
noncomputable def g_X12_term (F_X12_atom : Int32 → Int32 → (Nat → Int32) → Int32 → Int32 → Int32 → (Nat → Int32) → (Nat → Int32) → (Nat → Int32) → Option (Int32 × Int32 × Int32 × (Nat → Int32) × (Nat → Int32) × (Nat → Int32))) (F_X12_sum : Int32 → Int32 → (Nat → Int32) → Int32 → Int32 → Int32 → (Nat → Int32) → (Nat → Int32) → (Nat → Int32) → Option (Int32 × Int32 × Int32 × (Nat → Int32) × (Nat → Int32) × (Nat → Int32))) (F_X12_term : Int32 → Int32 → (Nat → Int32) → Int32 → Int32 → Int32 → (Nat → Int32) → (Nat → Int32) → (Nat → Int32) → Option (Int32 × Int32 × Int32 × (Nat → Int32) × (Nat → Int32) × (Nat → Int32))) (m_size : Int32) (m_text : Int32) (m_tape : Nat → Int32) (m_at : Int32) (m_wrong : Int32) (m_deep : Int32) (m_code : Nat → Int32) (m_value : Nat → Int32) (m_codes : Nat → Int32) : Option (Int32 × Int32 × Int32 × (Nat → Int32) × (Nat → Int32) × (Nat → Int32)) := b_X12_term_0 F_X12_atom F_X12_sum F_X12_term m_size m_text m_tape m_at m_wrong m_deep m_code m_value m_codes
noncomputable def rc_X12_atom : Nat → (Int32 → Int32 → (Nat → Int32) → Int32 → Int32 → Int32 → (Nat → Int32) → (Nat → Int32) → (Nat → Int32) → Option (Int32 × Int32 × Int32 × (Nat → Int32) × (Nat → Int32) × (Nat → Int32))) × (Int32 → Int32 → (Nat → Int32) → Int32 → Int32 → Int32 → (Nat → Int32) → (Nat → Int32) → (Nat → Int32) → Option (Int32 × Int32 × Int32 × (Nat → Int32) × (Nat → Int32) × (Nat → Int32))) × (Int32 → Int32 → (Nat → Int32) → Int32 → Int32 → Int32 → (Nat → Int32) → (Nat → Int32) → (Nat → Int32) → Option (Int32 × Int32 × Int32 × (Nat → Int32) × (Nat → Int32) × (Nat → Int32)))
  | 0 => (fun _ _ _ _ _ _ _ _ _ => none, fun _ _ _ _ _ _ _ _ _ => none, fun _ _ _ _ _ _ _ _ _ => none)
  | d + 1 => (g_X12_atom (rc_X12_atom d).1 (rc_X12_atom d).2.1 (rc_X12_atom d).2.2, g_X12_sum (rc_X12_atom d).1 (rc_X12_atom d).2.1 (rc_X12_atom d).2.2, g_X12_term (rc_X12_atom d).1 (rc_X12_atom d).2.1 (rc_X12_atom d).2.2)
noncomputable def f_X12_atom (d : Nat) : Int32 → Int32 → (Nat → Int32) → Int32 → Int32 → Int32 → (Nat → Int32) → (Nat → Int32) → (Nat → Int32) → Option (Int32 × Int32 × Int32 × (Nat → Int32) × (Nat → Int32) × (Nat → Int32)) := (rc_X12_atom d).1
noncomputable def f_X12_sum (d : Nat) : Int32 → Int32 → (Nat → Int32) → Int32 → Int32 → Int32 → (Nat → Int32) → (Nat → Int32) → (Nat → Int32) → Option (Int32 × Int32 × Int32 × (Nat → Int32) × (Nat → Int32) × (Nat → Int32)) := (rc_X12_atom d).2.1
noncomputable def f_X12_term (d : Nat) : Int32 → Int32 → (Nat → Int32) → Int32 → Int32 → Int32 → (Nat → Int32) → (Nat → Int32) → (Nat → Int32) → Option (Int32 × Int32 × Int32 × (Nat → Int32) × (Nat → Int32) × (Nat → Int32)) := (rc_X12_atom d).2.2
noncomputable def b_X12_isSign_18  : Option (Int32) :=
  some (1 : Int32)
noncomputable def b_X12_isSign_0 (v0 : Int32) : Option (Int32) :=
  if v0 = (61 : Int32) then
    b_X12_isSign_18 
  else
    if v0 = (60 : Int32) then
      b_X12_isSign_18 
    else
      if v0 = (62 : Int32) then
        b_X12_isSign_18 
      else
        some (0 : Int32)
noncomputable def f_X12_isSign (p1 : Int32) : Option (Int32) := b_X12_isSign_0  p1
noncomputable def b_X12_compare_68 (m_size : Int32) (m_text : Int32) (m_tape : Nat → Int32) (m_at : Int32) (m_wrong : Int32) (m_deep : Int32) (m_code : Nat → Int32) (m_value : Nat → Int32) (m_codes : Nat → Int32) (t1 : Int32) : Option (Int32 × Int32 × Int32 × (Nat → Int32) × (Nat → Int32) × (Nat → Int32)) :=
  ob3 (f_X12_put m_text m_code m_value m_codes t1 (0 : Int32)) fun m_code_1 m_value_2 m_codes_3 =>
  some (m_at, m_wrong, m_deep, m_code_1, m_value_2, m_codes_3)
noncomputable def b_X12_compare_16 (m_size : Int32) (m_text : Int32) (m_tape : Nat → Int32) (m_at : Int32) (m_wrong : Int32) (m_deep : Int32) (m_code : Nat → Int32) (m_value : Nat → Int32) (m_codes : Nat → Int32) (t0 : Int32) : Option (Int32 × Int32 × Int32 × (Nat → Int32) × (Nat → Int32) × (Nat → Int32)) :=
  ob1 (f_X12_isSign t0) fun r_1 =>
  if r_1 = (0 : Int32) then
    ob1 (f_X12_bad m_at m_wrong) fun m_wrong_11 =>
    some (m_at, m_wrong_11, m_deep, m_code, m_value, m_codes)
  else
    bnd (m_at + (1 : Int32)) fun at_3 =>
    ob6 (f_X12_sum 60 m_size m_text m_tape at_3 m_wrong m_deep m_code m_value m_codes) fun m_at_4 m_wrong_5 m_deep_6 m_code_7 m_value_8 m_codes_9 =>
    if t0 = (61 : Int32) then
      b_X12_compare_68 m_size m_text m_tape m_at_4 m_wrong_5 m_deep_6 m_code_7 m_value_8 m_codes_9 (6 : Int32)
    else
      if t0 = (60 : Int32) then
        b_X12_compare_68 m_size m_text m_tape m_at_4 m_wrong_5 m_deep_6 m_code_7 m_value_8 m_codes_9 (7 : Int32)
      else
        b_X12_compare_68 m_size m_text m_tape m_at_4 m_wrong_5 m_deep_6 m_code_7 m_value_8 m_codes_9 (8 : Int32)
noncomputable def b_X12_compare_0 (m_size : Int32) (m_text : Int32) (m_tape : Nat → Int32) (m_at : Int32) (m_wrong : Int32) (m_deep : Int32) (m_code : Nat → Int32) (m_value : Nat → Int32) (m_codes : Nat → Int32) : Option (Int32 × Int32 × Int32 × (Nat → Int32) × (Nat → Int32) × (Nat → Int32)) :=
  if m_wrong = (-1 : Int32) then
    ob2 (f_X12_look m_size m_tape m_at) fun r_1 m_at_2 =>
    b_X12_compare_16 m_size m_text m_tape m_at_2 m_wrong m_deep m_code m_value m_codes r_1
  else
    b_X12_compare_16 m_size m_text m_tape m_at m_wrong m_deep m_code m_value m_codes (-1 : Int32)
noncomputable def f_X12_compare (m_size : Int32) (m_text : Int32) (m_tape : Nat → Int32) (m_at : Int32) (m_wrong : Int32) (m_deep : Int32) (m_code : Nat → Int32) (m_value : Nat → Int32) (m_codes : Nat → Int32) : Option (Int32 × Int32 × Int32 × (Nat → Int32) × (Nat → Int32) × (Nat → Int32)) := b_X12_compare_0 m_size m_text m_tape m_at m_wrong m_deep m_code m_value m_codes
noncomputable def b_X12_condition_0 (F_X12_condition : Int32 → Int32 → (Nat → Int32) → Int32 → Int32 → Int32 → (Nat → Int32) → (Nat → Int32) → (Nat → Int32) → Option (Int32 × Int32 × Int32 × (Nat → Int32) × (Nat → Int32) × (Nat → Int32))) (F_X12_goOnAnd : Int32 → Int32 → (Nat → Int32) → Int32 → Int32 → Int32 → (Nat → Int32) → (Nat → Int32) → (Nat → Int32) → Option (Int32 × Int32 × Int32 × (Nat → Int32) × (Nat → Int32) × (Nat → Int32))) (F_X12_goOnOr : Int32 → Int32 → (Nat → Int32) → Int32 → Int32 → Int32 → (Nat → Int32) → (Nat → Int32) → (Nat → Int32) → Option (Int32 × Int32 × Int32 × (Nat → Int32) × (Nat → Int32) × (Nat → Int32))) (F_X12_unit : Int32 → Int32 → (Nat → Int32) → Int32 → Int32 → Int32 → (Nat → Int32) → (Nat → Int32) → (Nat → Int32) → Option (Int32 × Int32 × Int32 × (Nat → Int32) × (Nat → Int32) × (Nat → Int32))) (m_size : Int32) (m_text : Int32) (m_tape : Nat → Int32) (m_at : Int32) (m_wrong : Int32) (m_deep : Int32) (m_code : Nat → Int32) (m_value : Nat → Int32) (m_codes : Nat → Int32) : Option (Int32 × Int32 × Int32 × (Nat → Int32) × (Nat → Int32) × (Nat → Int32)) :=
  ob6 (F_X12_unit m_size m_text m_tape m_at m_wrong m_deep m_code m_value m_codes) fun m_at_1 m_wrong_2 m_deep_3 m_code_4 m_value_5 m_codes_6 =>
  ob6 (F_X12_goOnAnd m_size m_text m_tape m_at_1 m_wrong_2 m_deep_3 m_code_4 m_value_5 m_codes_6) fun m_at_8 m_wrong_9 m_deep_10 m_code_11 m_value_12 m_codes_13 =>
  ob6 (F_X12_goOnOr m_size m_text m_tape m_at_8 m_wrong_9 m_deep_10 m_code_11 m_value_12 m_codes_13) fun m_at_15 m_wrong_16 m_deep_17 m_code_18 m_value_19 m_codes_20 =>
  some (m_at_15, m_wrong_16, m_deep_17, m_code_18, m_value_19, m_codes_20)
noncomputable def g_X12_condition (F_X12_condition : Int32 → Int32 → (Nat → Int32) → Int32 → Int32 → Int32 → (Nat → Int32) → (Nat → Int32) → (Nat → Int32) → Option (Int32 × Int32 × Int32 × (Nat → Int32) × (Nat → Int32) × (Nat → Int32))) (F_X12_goOnAnd : Int32 → Int32 → (Nat → Int32) → Int32 → Int32 → Int32 → (Nat → Int32) → (Nat → Int32) → (Nat → Int32) → Option (Int32 × Int32 × Int32 × (Nat → Int32) × (Nat → Int32) × (Nat → Int32))) (F_X12_goOnOr : Int32 → Int32 → (Nat → Int32) → Int32 → Int32 → Int32 → (Nat → Int32) → (Nat → Int32) → (Nat → Int32) → Option (Int32 × Int32 × Int32 × (Nat → Int32) × (Nat → Int32) × (Nat → Int32))) (F_X12_unit : Int32 → Int32 → (Nat → Int32) → Int32 → Int32 → Int32 → (Nat → Int32) → (Nat → Int32) → (Nat → Int32) → Option (Int32 × Int32 × Int32 × (Nat → Int32) × (Nat → Int32) × (Nat → Int32))) (m_size : Int32) (m_text : Int32) (m_tape : Nat → Int32) (m_at : Int32) (m_wrong : Int32) (m_deep : Int32) (m_code : Nat → Int32) (m_value : Nat → Int32) (m_codes : Nat → Int32) : Option (Int32 × Int32 × Int32 × (Nat → Int32) × (Nat → Int32) × (Nat → Int32)) := b_X12_condition_0 F_X12_condition F_X12_goOnAnd F_X12_goOnOr F_X12_unit m_size m_text m_tape m_at m_wrong m_deep m_code m_value m_codes
noncomputable def b_X12_goOnAnd_0 (F_X12_condition : Int32 → Int32 → (Nat → Int32) → Int32 → Int32 → Int32 → (Nat → Int32) → (Nat → Int32) → (Nat → Int32) → Option (Int32 × Int32 × Int32 × (Nat → Int32) × (Nat → Int32) × (Nat → Int32))) (F_X12_goOnAnd : Int32 → Int32 → (Nat → Int32) → Int32 → Int32 → Int32 → (Nat → Int32) → (Nat → Int32) → (Nat → Int32) → Option (Int32 × Int32 × Int32 × (Nat → Int32) × (Nat → Int32) × (Nat → Int32))) (F_X12_goOnOr : Int32 → Int32 → (Nat → Int32) → Int32 → Int32 → Int32 → (Nat → Int32) → (Nat → Int32) → (Nat → Int32) → Option (Int32 × Int32 × Int32 × (Nat → Int32) × (Nat → Int32) × (Nat → Int32))) (F_X12_unit : Int32 → Int32 → (Nat → Int32) → Int32 → Int32 → Int32 → (Nat → Int32) → (Nat → Int32) → (Nat → Int32) → Option (Int32 × Int32 × Int32 × (Nat → Int32) × (Nat → Int32) × (Nat → Int32))) (m_size : Int32) (m_text : Int32) (m_tape : Nat → Int32) (k0 : Int32 → Int32 → Int32 → (Nat → Int32) → (Nat → Int32) → (Nat → Int32) → Option (Int32 × Int32 × Int32 × (Nat → Int32) × (Nat → Int32) × (Nat → Int32))) (m_at : Int32) (m_wrong : Int32) (m_deep : Int32) (m_code : Nat → Int32) (m_value : Nat → Int32) (m_codes : Nat → Int32) : Option (Int32 × Int32 × Int32 × (Nat → Int32) × (Nat → Int32) × (Nat → Int32)) :=
  if m_wrong = (-1 : Int32) then
    ob2 (f_X12_look m_size m_tape m_at) fun r_1 m_at_2 =>
    if r_1 = (38 : Int32) then
      bnd (m_at_2 + (1 : Int32)) fun at_4 =>
      ob6 (F_X12_unit m_size m_text m_tape at_4 m_wrong m_deep m_code m_value m_codes) fun m_at_5 m_wrong_6 m_deep_7 m_code_8 m_value_9 m_codes_10 =>
      ob3 (f_X12_put m_text m_code_8 m_value_9 m_codes_10 (10 : Int32) (0 : Int32)) fun m_code_12 m_value_13 m_codes_14 =>
      k0 m_at_5 m_wrong_6 m_deep_7 m_code_12 m_value_13 m_codes_14
    else
      some (m_at_2, m_wrong, m_deep, m_code, m_value, m_codes)
  else
    some (m_at, m_wrong, m_deep, m_code, m_value, m_codes)
noncomputable def f_X12_goOnAnd_0 (F_X12_condition : Int32 → Int32 → (Nat → Int32) → Int32 → Int32 → Int32 → (Nat → Int32) → (Nat → Int32) → (Nat → Int32) → Option (Int32 × Int32 × Int32 × (Nat → Int32) × (Nat → Int32) × (Nat → Int32))) (F_X12_goOnAnd : Int32 → Int32 → (Nat → Int32) → Int32 → Int32 → Int32 → (Nat → Int32) → (Nat → Int32) → (Nat → Int32) → Option (Int32 × Int32 × Int32 × (Nat → Int32) × (Nat → Int32) × (Nat → Int32))) (F_X12_goOnOr : Int32 → Int32 → (Nat → Int32) → Int32 → Int32 → Int32 → (Nat → Int32) → (Nat → Int32) → (Nat → Int32) → Option (Int32 × Int32 × Int32 × (Nat → Int32) × (Nat → Int32) × (Nat → Int32))) (F_X12_unit : Int32 → Int32 → (Nat → Int32) → Int32 → Int32 → Int32 → (Nat → Int32) → (Nat → Int32) → (Nat → Int32) → Option (Int32 × Int32 × Int32 × (Nat → Int32) × (Nat → Int32) × (Nat → Int32))) (m_size : Int32) (m_text : Int32) (m_tape : Nat → Int32) : Nat → Int32 → Int32 → Int32 → (Nat → Int32) → (Nat → Int32) → (Nat → Int32) → Option (Int32 × Int32 × Int32 × (Nat → Int32) × (Nat → Int32) × (Nat → Int32))
  | 0, _, _, _, _, _, _ => none
  | n + 1, m_at, m_wrong, m_deep, m_code, m_value, m_codes => b_X12_goOnAnd_0 F_X12_condition F_X12_goOnAnd F_X12_goOnOr F_X12_unit m_size m_text m_tape (f_X12_goOnAnd_0 F_X12_condition F_X12_goOnAnd F_X12_goOnOr F_X12_unit m_size m_text m_tape n) m_at m_wrong m_deep m_code m_value m_codes
noncomputable def g_X12_goOnAnd (F_X12_condition : Int32 → Int32 → (Nat → Int32) → Int32 → Int32 → Int32 → (Nat → Int32) → (Nat → Int32) → (Nat → Int32) → Option (Int32 × Int32 × Int32 × (Nat → Int32) × (Nat → Int32) × (Nat → Int32))) (F_X12_goOnAnd : Int32 → Int32 → (Nat → Int32) → Int32 → Int32 → Int32 → (Nat → Int32) → (Nat → Int32) → (Nat → Int32) → Option (Int32 × Int32 × Int32 × (Nat → Int32) × (Nat → Int32) × (Nat → Int32))) (F_X12_goOnOr : Int32 → Int32 → (Nat → Int32) → Int32 → Int32 → Int32 → (Nat → Int32) → (Nat → Int32) → (Nat → Int32) → Option (Int32 × Int32 × Int32 × (Nat → Int32) × (Nat → Int32) × (Nat → Int32))) (F_X12_unit : Int32 → Int32 → (Nat → Int32) → Int32 → Int32 → Int32 → (Nat → Int32) → (Nat → Int32) → (Nat → Int32) → Option (Int32 × Int32 × Int32 × (Nat → Int32) × (Nat → Int32) × (Nat → Int32))) (m_size : Int32) (m_text : Int32) (m_tape : Nat → Int32) (m_at : Int32) (m_wrong : Int32) (m_deep : Int32) (m_code : Nat → Int32) (m_value : Nat → Int32) (m_codes : Nat → Int32) : Option (Int32 × Int32 × Int32 × (Nat → Int32) × (Nat → Int32) × (Nat → Int32)) := f_X12_goOnAnd_0 F_X12_condition F_X12_goOnAnd F_X12_goOnOr F_X12_unit m_size m_text m_tape fu m_at m_wrong m_deep m_code m_value m_codes
noncomputable def b_X12_goOnOr_0 (F_X12_condition : Int32 → Int32 → (Nat → Int32) → Int32 → Int32 → Int32 → (Nat → Int32) → (Nat → Int32) → (Nat → Int32) → Option (Int32 × Int32 × Int32 × (Nat → Int32) × (Nat → Int32) × (Nat → Int32))) (F_X12_goOnAnd : Int32 → Int32 → (Nat → Int32) → Int32 → Int32 → Int32 → (Nat → Int32) → (Nat → Int32) → (Nat → Int32) → Option (Int32 × Int32 × Int32 × (Nat → Int32) × (Nat → Int32) × (Nat → Int32))) (F_X12_goOnOr : Int32 → Int32 → (Nat → Int32) → Int32 → Int32 → Int32 → (Nat → Int32) → (Nat → Int32) → (Nat → Int32) → Option (Int32 × Int32 × Int32 × (Nat → Int32) × (Nat → Int32) × (Nat → Int32))) (F_X12_unit : Int32 → Int32 → (Nat → Int32) → Int32 → Int32 → Int32 → (Nat → Int32) → (Nat → Int32) → (Nat → Int32) → Option (Int32 × Int32 × Int32 × (Nat → Int32) × (Nat → Int32) × (Nat → Int32))) (m_size : Int32) (m_text : Int32) (m_tape : Nat → Int32) (k0 : Int32 → Int32 → Int32 → (Nat → Int32) → (Nat → Int32) → (Nat → Int32) → Option (Int32 × Int32 × Int32 × (Nat → Int32) × (Nat → Int32) × (Nat → Int32))) (m_at : Int32) (m_wrong : Int32) (m_deep : Int32) (m_code : Nat → Int32) (m_value : Nat → Int32) (m_codes : Nat → Int32) : Option (Int32 × Int32 × Int32 × (Nat → Int32) × (Nat → Int32) × (Nat → Int32)) :=
  if m_wrong = (-1 : Int32) then
    ob2 (f_X12_look m_size m_tape m_at) fun r_1 m_at_2 =>
    if r_1 = (124 : Int32) then
      bnd (m_at_2 + (1 : Int32)) fun at_4 =>
      ob6 (F_X12_unit m_size m_text m_tape at_4 m_wrong m_deep m_code m_value m_codes) fun m_at_5 m_wrong_6 m_deep_7 m_code_8 m_value_9 m_codes_10 =>
      ob6 (F_X12_goOnAnd m_size m_text m_tape m_at_5 m_wrong_6 m_deep_7 m_code_8 m_value_9 m_codes_10) fun m_at_12 m_wrong_13 m_deep_14 m_code_15 m_value_16 m_codes_17 =>
      ob3 (f_X12_put m_text m_code_15 m_value_16 m_codes_17 (11 : Int32) (0 : Int32)) fun m_code_19 m_value_20 m_codes_21 =>
      k0 m_at_12 m_wrong_13 m_deep_14 m_code_19 m_value_20 m_codes_21
    else
      some (m_at_2, m_wrong, m_deep, m_code, m_value, m_codes)
  else
    some (m_at, m_wrong, m_deep, m_code, m_value, m_codes)
noncomputable def f_X12_goOnOr_0 (F_X12_condition : Int32 → Int32 → (Nat → Int32) → Int32 → Int32 → Int32 → (Nat → Int32) → (Nat → Int32) → (Nat → Int32) → Option (Int32 × Int32 × Int32 × (Nat → Int32) × (Nat → Int32) × (Nat → Int32))) (F_X12_goOnAnd : Int32 → Int32 → (Nat → Int32) → Int32 → Int32 → Int32 → (Nat → Int32) → (Nat → Int32) → (Nat → Int32) → Option (Int32 × Int32 × Int32 × (Nat → Int32) × (Nat → Int32) × (Nat → Int32))) (F_X12_goOnOr : Int32 → Int32 → (Nat → Int32) → Int32 → Int32 → Int32 → (Nat → Int32) → (Nat → Int32) → (Nat → Int32) → Option (Int32 × Int32 × Int32 × (Nat → Int32) × (Nat → Int32) × (Nat → Int32))) (F_X12_unit : Int32 → Int32 → (Nat → Int32) → Int32 → Int32 → Int32 → (Nat → Int32) → (Nat → Int32) → (Nat → Int32) → Option (Int32 × Int32 × Int32 × (Nat → Int32) × (Nat → Int32) × (Nat → Int32))) (m_size : Int32) (m_text : Int32) (m_tape : Nat → Int32) : Nat → Int32 → Int32 → Int32 → (Nat → Int32) → (Nat → Int32) → (Nat → Int32) → Option (Int32 × Int32 × Int32 × (Nat → Int32) × (Nat → Int32) × (Nat → Int32))
  | 0, _, _, _, _, _, _ => none
  | n + 1, m_at, m_wrong, m_deep, m_code, m_value, m_codes => b_X12_goOnOr_0 F_X12_condition F_X12_goOnAnd F_X12_goOnOr F_X12_unit m_size m_text m_tape (f_X12_goOnOr_0 F_X12_condition F_X12_goOnAnd F_X12_goOnOr F_X12_unit m_size m_text m_tape n) m_at m_wrong m_deep m_code m_value m_codes
noncomputable def g_X12_goOnOr (F_X12_condition : Int32 → Int32 → (Nat → Int32) → Int32 → Int32 → Int32 → (Nat → Int32) → (Nat → Int32) → (Nat → Int32) → Option (Int32 × Int32 × Int32 × (Nat → Int32) × (Nat → Int32) × (Nat → Int32))) (F_X12_goOnAnd : Int32 → Int32 → (Nat → Int32) → Int32 → Int32 → Int32 → (Nat → Int32) → (Nat → Int32) → (Nat → Int32) → Option (Int32 × Int32 × Int32 × (Nat → Int32) × (Nat → Int32) × (Nat → Int32))) (F_X12_goOnOr : Int32 → Int32 → (Nat → Int32) → Int32 → Int32 → Int32 → (Nat → Int32) → (Nat → Int32) → (Nat → Int32) → Option (Int32 × Int32 × Int32 × (Nat → Int32) × (Nat → Int32) × (Nat → Int32))) (F_X12_unit : Int32 → Int32 → (Nat → Int32) → Int32 → Int32 → Int32 → (Nat → Int32) → (Nat → Int32) → (Nat → Int32) → Option (Int32 × Int32 × Int32 × (Nat → Int32) × (Nat → Int32) × (Nat → Int32))) (m_size : Int32) (m_text : Int32) (m_tape : Nat → Int32) (m_at : Int32) (m_wrong : Int32) (m_deep : Int32) (m_code : Nat → Int32) (m_value : Nat → Int32) (m_codes : Nat → Int32) : Option (Int32 × Int32 × Int32 × (Nat → Int32) × (Nat → Int32) × (Nat → Int32)) := f_X12_goOnOr_0 F_X12_condition F_X12_goOnAnd F_X12_goOnOr F_X12_unit m_size m_text m_tape fu m_at m_wrong m_deep m_code m_value m_codes
noncomputable def b_X12_unit_0 (F_X12_condition : Int32 → Int32 → (Nat → Int32) → Int32 → Int32 → Int32 → (Nat → Int32) → (Nat → Int32) → (Nat → Int32) → Option (Int32 × Int32 × Int32 × (Nat → Int32) × (Nat → Int32) × (Nat → Int32))) (F_X12_goOnAnd : Int32 → Int32 → (Nat → Int32) → Int32 → Int32 → Int32 → (Nat → Int32) → (Nat → Int32) → (Nat → Int32) → Option (Int32 × Int32 × Int32 × (Nat → Int32) × (Nat → Int32) × (Nat → Int32))) (F_X12_goOnOr : Int32 → Int32 → (Nat → Int32) → Int32 → Int32 → Int32 → (Nat → Int32) → (Nat → Int32) → (Nat → Int32) → Option (Int32 × Int32 × Int32 × (Nat → Int32) × (Nat → Int32) × (Nat → Int32))) (F_X12_unit : Int32 → Int32 → (Nat → Int32) → Int32 → Int32 → Int32 → (Nat → Int32) → (Nat → Int32) → (Nat → Int32) → Option (Int32 × Int32 × Int32 × (Nat → Int32) × (Nat → Int32) × (Nat → Int32))) (m_size : Int32) (m_text : Int32) (m_tape : Nat → Int32) (m_at : Int32) (m_wrong : Int32) (m_deep : Int32) (m_code : Nat → Int32) (m_value : Nat → Int32) (m_codes : Nat → Int32) : Option (Int32 × Int32 × Int32 × (Nat → Int32) × (Nat → Int32) × (Nat → Int32)) :=
  ob2 (f_X12_look m_size m_tape m_at) fun r_1 m_at_2 =>
  if r_1 = (33 : Int32) then
    ob3 (f_X12_opens m_at_2 m_wrong m_deep) fun m_at_33 m_wrong_34 m_deep_35 =>
    if m_wrong_34 = (-1 : Int32) then
      ob6 (F_X12_unit m_size m_text m_tape m_at_33 m_wrong_34 m_deep_35 m_code m_value m_codes) fun m_at_37 m_wrong_38 m_deep_39 m_code_40 m_value_41 m_codes_42 =>
      ob3 (f_X12_put m_text m_code_40 m_value_41 m_codes_42 (9 : Int32) (0 : Int32)) fun m_code_44 m_value_45 m_codes_46 =>
      bnd (m_deep_39 - (1 : Int32)) fun deep_48 =>
      some (m_at_37, m_wrong_38, deep_48, m_code_44, m_value_45, m_codes_46)
    else
      some (m_at_33, m_wrong_34, m_deep_35, m_code, m_value, m_codes)
  else
    if r_1 = (40 : Int32) then
      ob3 (f_X12_opens m_at_2 m_wrong m_deep) fun m_at_18 m_wrong_19 m_deep_20 =>
      if m_wrong_19 = (-1 : Int32) then
        ob6 (F_X12_condition m_size m_text m_tape m_at_18 m_wrong_19 m_deep_20 m_code m_value m_codes) fun m_at_22 m_wrong_23 m_deep_24 m_code_25 m_value_26 m_codes_27 =>
        ob3 (f_X12_closes m_size m_tape m_at_22 m_wrong_23 m_deep_24 (41 : Int32)) fun m_at_29 m_wrong_30 m_deep_31 =>
        some (m_at_29, m_wrong_30, m_deep_31, m_code_25, m_value_26, m_codes_27)
      else
        some (m_at_18, m_wrong_19, m_deep_20, m_code, m_value, m_codes)
    else
      ob6 (f_X12_sum 60 m_size m_text m_tape m_at_2 m_wrong m_deep m_code m_value m_codes) fun m_at_4 m_wrong_5 m_deep_6 m_code_7 m_value_8 m_codes_9 =>
      if m_wrong_5 = (-1 : Int32) then
        ob6 (f_X12_compare m_size m_text m_tape m_at_4 m_wrong_5 m_deep_6 m_code_7 m_value_8 m_codes_9) fun m_at_11 m_wrong_12 m_deep_13 m_code_14 m_value_15 m_codes_16 =>
        some (m_at_11, m_wrong_12, m_deep_13, m_code_14, m_value_15, m_codes_16)
      else
        some (m_at_4, m_wrong_5, m_deep_6, m_code_7, m_value_8, m_codes_9)
noncomputable def g_X12_unit (F_X12_condition : Int32 → Int32 → (Nat → Int32) → Int32 → Int32 → Int32 → (Nat → Int32) → (Nat → Int32) → (Nat → Int32) → Option (Int32 × Int32 × Int32 × (Nat → Int32) × (Nat → Int32) × (Nat → Int32))) (F_X12_goOnAnd : Int32 → Int32 → (Nat → Int32) → Int32 → Int32 → Int32 → (Nat → Int32) → (Nat → Int32) → (Nat → Int32) → Option (Int32 × Int32 × Int32 × (Nat → Int32) × (Nat → Int32) × (Nat → Int32))) (F_X12_goOnOr : Int32 → Int32 → (Nat → Int32) → Int32 → Int32 → Int32 → (Nat → Int32) → (Nat → Int32) → (Nat → Int32) → Option (Int32 × Int32 × Int32 × (Nat → Int32) × (Nat → Int32) × (Nat → Int32))) (F_X12_unit : Int32 → Int32 → (Nat → Int32) → Int32 → Int32 → Int32 → (Nat → Int32) → (Nat → Int32) → (Nat → Int32) → Option (Int32 × Int32 × Int32 × (Nat → Int32) × (Nat → Int32) × (Nat → Int32))) (m_size : Int32) (m_text : Int32) (m_tape : Nat → Int32) (m_at : Int32) (m_wrong : Int32) (m_deep : Int32) (m_code : Nat → Int32) (m_value : Nat → Int32) (m_codes : Nat → Int32) : Option (Int32 × Int32 × Int32 × (Nat → Int32) × (Nat → Int32) × (Nat → Int32)) := b_X12_unit_0 F_X12_condition F_X12_goOnAnd F_X12_goOnOr F_X12_unit m_size m_text m_tape m_at m_wrong m_deep m_code m_value m_codes
noncomputable def rc_X12_condition : Nat → (Int32 → Int32 → (Nat → Int32) → Int32 → Int32 → Int32 → (Nat → Int32) → (Nat → Int32) → (Nat → Int32) → Option (Int32 × Int32 × Int32 × (Nat → Int32) × (Nat → Int32) × (Nat → Int32))) × (Int32 → Int32 → (Nat → Int32) → Int32 → Int32 → Int32 → (Nat → Int32) → (Nat → Int32) → (Nat → Int32) → Option (Int32 × Int32 × Int32 × (Nat → Int32) × (Nat → Int32) × (Nat → Int32))) × (Int32 → Int32 → (Nat → Int32) → Int32 → Int32 → Int32 → (Nat → Int32) → (Nat → Int32) → (Nat → Int32) → Option (Int32 × Int32 × Int32 × (Nat → Int32) × (Nat → Int32) × (Nat → Int32))) × (Int32 → Int32 → (Nat → Int32) → Int32 → Int32 → Int32 → (Nat → Int32) → (Nat → Int32) → (Nat → Int32) → Option (Int32 × Int32 × Int32 × (Nat → Int32) × (Nat → Int32) × (Nat → Int32)))
  | 0 => (fun _ _ _ _ _ _ _ _ _ => none, fun _ _ _ _ _ _ _ _ _ => none, fun _ _ _ _ _ _ _ _ _ => none, fun _ _ _ _ _ _ _ _ _ => none)
  | d + 1 => (g_X12_condition (rc_X12_condition d).1 (rc_X12_condition d).2.1 (rc_X12_condition d).2.2.1 (rc_X12_condition d).2.2.2, g_X12_goOnAnd (rc_X12_condition d).1 (rc_X12_condition d).2.1 (rc_X12_condition d).2.2.1 (rc_X12_condition d).2.2.2, g_X12_goOnOr (rc_X12_condition d).1 (rc_X12_condition d).2.1 (rc_X12_condition d).2.2.1 (rc_X12_condition d).2.2.2, g_X12_unit (rc_X12_condition d).1 (rc_X12_condition d).2.1 (rc_X12_condition d).2.2.1 (rc_X12_condition d).2.2.2)
noncomputable def f_X12_condition (d : Nat) : Int32 → Int32 → (Nat → Int32) → Int32 → Int32 → Int32 → (Nat → Int32) → (Nat → Int32) → (Nat → Int32) → Option (Int32 × Int32 × Int32 × (Nat → Int32) × (Nat → Int32) × (Nat → Int32)) := (rc_X12_condition d).1
noncomputable def f_X12_goOnAnd (d : Nat) : Int32 → Int32 → (Nat → Int32) → Int32 → Int32 → Int32 → (Nat → Int32) → (Nat → Int32) → (Nat → Int32) → Option (Int32 × Int32 × Int32 × (Nat → Int32) × (Nat → Int32) × (Nat → Int32)) := (rc_X12_condition d).2.1
noncomputable def f_X12_goOnOr (d : Nat) : Int32 → Int32 → (Nat → Int32) → Int32 → Int32 → Int32 → (Nat → Int32) → (Nat → Int32) → (Nat → Int32) → Option (Int32 × Int32 × Int32 × (Nat → Int32) × (Nat → Int32) × (Nat → Int32)) := (rc_X12_condition d).2.2.1
noncomputable def f_X12_unit (d : Nat) : Int32 → Int32 → (Nat → Int32) → Int32 → Int32 → Int32 → (Nat → Int32) → (Nat → Int32) → (Nat → Int32) → Option (Int32 × Int32 × Int32 × (Nat → Int32) × (Nat → Int32) × (Nat → Int32)) := (rc_X12_condition d).2.2.2
noncomputable def b_X12_clause_251 (m_size : Int32) (m_text : Int32) (m_tape : Nat → Int32) (m_at : Int32) (m_wrong : Int32) (m_deep : Int32) (m_code : Nat → Int32) (m_value : Nat → Int32) (m_codes : Nat → Int32) (m_clauses : Nat → Int32) (m_testFrom : Nat → Int32) (m_sumFrom : Nat → Int32) (m_sumTo : Nat → Int32) (v1 : Int32) : Option (Int32 × Int32 × Int32 × (Nat → Int32) × (Nat → Int32) × (Nat → Int32) × (Nat → Int32) × (Nat → Int32) × (Nat → Int32) × (Nat → Int32)) :=
  gd (inB m_text 5) <|
  gd (inB v1 700) <|
  bnd (upd m_sumTo v1.toNatClampNeg (m_codes m_text.toNatClampNeg)) fun m_sumTo_3 =>
  gd (inB m_text 5) <|
  gd (inB m_text 5) <|
  bnd (upd m_clauses m_text.toNatClampNeg ((m_clauses m_text.toNatClampNeg) + (1 : Int32))) fun m_clauses_6 =>
  some (m_at, m_wrong, m_deep, m_code, m_value, m_codes, m_clauses_6, m_testFrom, m_sumFrom, m_sumTo_3)
noncomputable def b_X12_clause_184 (m_size : Int32) (m_text : Int32) (m_tape : Nat → Int32) (m_at : Int32) (m_wrong : Int32) (m_deep : Int32) (m_code : Nat → Int32) (m_value : Nat → Int32) (m_codes : Nat → Int32) (m_clauses : Nat → Int32) (m_testFrom : Nat → Int32) (m_sumFrom : Nat → Int32) (m_sumTo : Nat → Int32) (v1 : Int32) (v2 : Int32) : Option (Int32 × Int32 × Int32 × (Nat → Int32) × (Nat → Int32) × (Nat → Int32) × (Nat → Int32) × (Nat → Int32) × (Nat → Int32) × (Nat → Int32)) :=
  gd (inB v1 700) <|
  gd (inB v1 700) <|
  bnd (upd m_sumFrom v1.toNatClampNeg (m_testFrom v1.toNatClampNeg)) fun m_sumFrom_3 =>
  if v2 = (0 : Int32) then
    b_X12_clause_251 m_size m_text m_tape m_at m_wrong m_deep m_code m_value m_codes m_clauses m_testFrom m_sumFrom_3 m_sumTo v1
  else
    if m_wrong = (-1 : Int32) then
      ob2 (f_X12_look m_size m_tape m_at) fun r_4 m_at_5 =>
      if r_4 = (63 : Int32) then
        bnd (m_at_5 + (1 : Int32)) fun at_7 =>
        gd (inB m_text 5) <|
        gd (inB v1 700) <|
        bnd (upd m_sumFrom_3 v1.toNatClampNeg (m_codes m_text.toNatClampNeg)) fun m_sumFrom_10 =>
        ob6 (f_X12_sum 60 m_size m_text m_tape at_7 m_wrong m_deep m_code m_value m_codes) fun m_at_11 m_wrong_12 m_deep_13 m_code_14 m_value_15 m_codes_16 =>
        b_X12_clause_251 m_size m_text m_tape m_at_11 m_wrong_12 m_deep_13 m_code_14 m_value_15 m_codes_16 m_clauses m_testFrom m_sumFrom_10 m_sumTo v1
      else
        ob1 (f_X12_bad m_at_5 m_wrong) fun m_wrong_18 =>
        some (m_at_5, m_wrong_18, m_deep, m_code, m_value, m_codes, m_clauses, m_testFrom, m_sumFrom_3, m_sumTo)
    else
      b_X12_clause_251 m_size m_text m_tape m_at m_wrong m_deep m_code m_value m_codes m_clauses m_testFrom m_sumFrom_3 m_sumTo v1
noncomputable def b_X12_clause_167 (m_size : Int32) (m_text : Int32) (m_tape : Nat → Int32) (m_at : Int32) (m_wrong : Int32) (m_deep : Int32) (m_code : Nat → Int32) (m_value : Nat → Int32) (m_codes : Nat → Int32) (m_clauses : Nat → Int32) (m_testFrom : Nat → Int32) (m_sumFrom : Nat → Int32) (m_sumTo : Nat → Int32) (v1 : Int32) (t0 : Int32) : Option (Int32 × Int32 × Int32 × (Nat → Int32) × (Nat → Int32) × (Nat → Int32) × (Nat → Int32) × (Nat → Int32) × (Nat → Int32) × (Nat → Int32)) :=
  if t0 = (0 : Int32) then
    b_X12_clause_184 m_size m_text m_tape m_at m_wrong m_deep m_code m_value m_codes m_clauses m_testFrom m_sumFrom m_sumTo v1 t0
  else
    ob6 (f_X12_compare m_size m_text m_tape m_at m_wrong m_deep m_code m_value m_codes) fun m_at_1 m_wrong_2 m_deep_3 m_code_4 m_value_5 m_codes_6 =>
    ob6 (f_X12_goOnAnd 60 m_size m_text m_tape m_at_1 m_wrong_2 m_deep_3 m_code_4 m_value_5 m_codes_6) fun m_at_8 m_wrong_9 m_deep_10 m_code_11 m_value_12 m_codes_13 =>
    ob6 (f_X12_goOnOr 60 m_size m_text m_tape m_at_8 m_wrong_9 m_deep_10 m_code_11 m_value_12 m_codes_13) fun m_at_15 m_wrong_16 m_deep_17 m_code_18 m_value_19 m_codes_20 =>
    b_X12_clause_184 m_size m_text m_tape m_at_15 m_wrong_16 m_deep_17 m_code_18 m_value_19 m_codes_20 m_clauses m_testFrom m_sumFrom m_sumTo v1 t0
noncomputable def b_X12_clause_166 (m_size : Int32) (m_text : Int32) (m_tape : Nat → Int32) (m_at : Int32) (m_wrong : Int32) (m_deep : Int32) (m_code : Nat → Int32) (m_value : Nat → Int32) (m_codes : Nat → Int32) (m_clauses : Nat → Int32) (m_testFrom : Nat → Int32) (m_sumFrom : Nat → Int32) (m_sumTo : Nat → Int32) (v1 : Int32) : Option (Int32 × Int32 × Int32 × (Nat → Int32) × (Nat → Int32) × (Nat → Int32) × (Nat → Int32) × (Nat → Int32) × (Nat → Int32) × (Nat → Int32)) :=
  b_X12_clause_167 m_size m_text m_tape m_at m_wrong m_deep m_code m_value m_codes m_clauses m_testFrom m_sumFrom m_sumTo v1 (0 : Int32)
noncomputable def b_X12_clause_128 (m_size : Int32) (m_text : Int32) (m_tape : Nat → Int32) (m_at : Int32) (m_wrong : Int32) (m_deep : Int32) (m_code : Nat → Int32) (m_value : Nat → Int32) (m_codes : Nat → Int32) (m_clauses : Nat → Int32) (m_testFrom : Nat → Int32) (m_sumFrom : Nat → Int32) (m_sumTo : Nat → Int32) (v1 : Int32) (t0 : Int32) : Option (Int32 × Int32 × Int32 × (Nat → Int32) × (Nat → Int32) × (Nat → Int32) × (Nat → Int32) × (Nat → Int32) × (Nat → Int32) × (Nat → Int32)) :=
  if t0 = (0 : Int32) then
    ob6 (f_X12_sum 60 m_size m_text m_tape m_at m_wrong m_deep m_code m_value m_codes) fun m_at_1 m_wrong_2 m_deep_3 m_code_4 m_value_5 m_codes_6 =>
    if m_wrong_2 = (-1 : Int32) then
      ob2 (f_X12_look m_size m_tape m_at_1) fun r_8 m_at_9 =>
      ob1 (f_X12_isSign r_8) fun r_11 =>
      if r_11 = (0 : Int32) then
        b_X12_clause_166 m_size m_text m_tape m_at_9 m_wrong_2 m_deep_3 m_code_4 m_value_5 m_codes_6 m_clauses m_testFrom m_sumFrom m_sumTo v1
      else
        b_X12_clause_167 m_size m_text m_tape m_at_9 m_wrong_2 m_deep_3 m_code_4 m_value_5 m_codes_6 m_clauses m_testFrom m_sumFrom m_sumTo v1 (1 : Int32)
    else
      b_X12_clause_166 m_size m_text m_tape m_at_1 m_wrong_2 m_deep_3 m_code_4 m_value_5 m_codes_6 m_clauses m_testFrom m_sumFrom m_sumTo v1
  else
    ob6 (f_X12_condition 60 m_size m_text m_tape m_at m_wrong m_deep m_code m_value m_codes) fun m_at_13 m_wrong_14 m_deep_15 m_code_16 m_value_17 m_codes_18 =>
    b_X12_clause_184 m_size m_text m_tape m_at_13 m_wrong_14 m_deep_15 m_code_16 m_value_17 m_codes_18 m_clauses m_testFrom m_sumFrom m_sumTo v1 t0
noncomputable def b_X12_clause_123 (m_size : Int32) (m_text : Int32) (m_tape : Nat → Int32) (m_at : Int32) (m_wrong : Int32) (m_deep : Int32) (m_code : Nat → Int32) (m_value : Nat → Int32) (m_codes : Nat → Int32) (m_clauses : Nat → Int32) (m_testFrom : Nat → Int32) (m_sumFrom : Nat → Int32) (m_sumTo : Nat → Int32) (v1 : Int32) : Option (Int32 × Int32 × Int32 × (Nat → Int32) × (Nat → Int32) × (Nat → Int32) × (Nat → Int32) × (Nat → Int32) × (Nat → Int32) × (Nat → Int32)) :=
  b_X12_clause_128 m_size m_text m_tape m_at m_wrong m_deep m_code m_value m_codes m_clauses m_testFrom m_sumFrom m_sumTo v1 (1 : Int32)
noncomputable def b_X12_clause_71 (m_size : Int32) (m_text : Int32) (m_tape : Nat → Int32) (m_at : Int32) (m_wrong : Int32) (m_deep : Int32) (m_code : Nat → Int32) (m_value : Nat → Int32) (m_codes : Nat → Int32) (m_clauses : Nat → Int32) (m_testFrom : Nat → Int32) (m_sumFrom : Nat → Int32) (m_sumTo : Nat → Int32) (v1 : Int32) : Option (Int32 × Int32 × Int32 × (Nat → Int32) × (Nat → Int32) × (Nat → Int32) × (Nat → Int32) × (Nat → Int32) × (Nat → Int32) × (Nat → Int32)) :=
  bnd (m_at + (1 : Int32)) fun at_1 =>
  if m_wrong = (-1 : Int32) then
    gd (inB m_text 5) <|
    gd (inB v1 700) <|
    bnd (upd m_testFrom v1.toNatClampNeg (m_codes m_text.toNatClampNeg)) fun m_testFrom_4 =>
    ob2 (f_X12_look m_size m_tape at_1) fun r_5 m_at_6 =>
    if r_5 = (33 : Int32) then
      b_X12_clause_123 m_size m_text m_tape m_at_6 m_wrong m_deep m_code m_value m_codes m_clauses m_testFrom_4 m_sumFrom m_sumTo v1
    else
      ob2 (f_X12_look m_size m_tape m_at_6) fun r_8 m_at_9 =>
      if r_8 = (40 : Int32) then
        b_X12_clause_123 m_size m_text m_tape m_at_9 m_wrong m_deep m_code m_value m_codes m_clauses m_testFrom_4 m_sumFrom m_sumTo v1
      else
        b_X12_clause_128 m_size m_text m_tape m_at_9 m_wrong m_deep m_code m_value m_codes m_clauses m_testFrom_4 m_sumFrom m_sumTo v1 (0 : Int32)
  else
    some (at_1, m_wrong, m_deep, m_code, m_value, m_codes, m_clauses, m_testFrom, m_sumFrom, m_sumTo)
noncomputable def b_X12_clause_40 (m_size : Int32) (m_text : Int32) (m_tape : Nat → Int32) (m_at : Int32) (m_wrong : Int32) (m_deep : Int32) (m_code : Nat → Int32) (m_value : Nat → Int32) (m_codes : Nat → Int32) (m_clauses : Nat → Int32) (m_testFrom : Nat → Int32) (m_sumFrom : Nat → Int32) (m_sumTo : Nat → Int32) (v1 : Int32) : Option (Int32 × Int32 × Int32 × (Nat → Int32) × (Nat → Int32) × (Nat → Int32) × (Nat → Int32) × (Nat → Int32) × (Nat → Int32) × (Nat → Int32)) :=
  bnd (m_at + (1 : Int32)) fun at_1 =>
  if m_wrong = (-1 : Int32) then
    ob2 (f_X12_look m_size m_tape at_1) fun r_2 m_at_3 =>
    if r_2 = (58 : Int32) then
      b_X12_clause_71 m_size m_text m_tape m_at_3 m_wrong m_deep m_code m_value m_codes m_clauses m_testFrom m_sumFrom m_sumTo v1
    else
      ob1 (f_X12_bad m_at_3 m_wrong) fun m_wrong_5 =>
      b_X12_clause_71 m_size m_text m_tape m_at_3 m_wrong_5 m_deep m_code m_value m_codes m_clauses m_testFrom m_sumFrom m_sumTo v1
  else
    b_X12_clause_71 m_size m_text m_tape at_1 m_wrong m_deep m_code m_value m_codes m_clauses m_testFrom m_sumFrom m_sumTo v1
noncomputable def b_X12_clause_0 (m_size : Int32) (m_text : Int32) (m_tape : Nat → Int32) (m_at : Int32) (m_wrong : Int32) (m_deep : Int32) (m_code : Nat → Int32) (m_value : Nat → Int32) (m_codes : Nat → Int32) (m_clauses : Nat → Int32) (m_testFrom : Nat → Int32) (m_sumFrom : Nat → Int32) (m_sumTo : Nat → Int32) : Option (Int32 × Int32 × Int32 × (Nat → Int32) × (Nat → Int32) × (Nat → Int32) × (Nat → Int32) × (Nat → Int32) × (Nat → Int32) × (Nat → Int32)) :=
  gd (inB m_text 5) <|
  bnd (((140 : Int32) * m_text) + (m_clauses m_text.toNatClampNeg)) fun n_2 =>
  if m_wrong = (-1 : Int32) then
    ob2 (f_X12_look m_size m_tape m_at) fun r_3 m_at_4 =>
    if r_3 = (121 : Int32) then
      b_X12_clause_40 m_size m_text m_tape m_at_4 m_wrong m_deep m_code m_value m_codes m_clauses m_testFrom m_sumFrom m_sumTo n_2
    else
      ob1 (f_X12_bad m_at_4 m_wrong) fun m_wrong_6 =>
      b_X12_clause_40 m_size m_text m_tape m_at_4 m_wrong_6 m_deep m_code m_value m_codes m_clauses m_testFrom m_sumFrom m_sumTo n_2
  else
    b_X12_clause_40 m_size m_text m_tape m_at m_wrong m_deep m_code m_value m_codes m_clauses m_testFrom m_sumFrom m_sumTo n_2
noncomputable def f_X12_clause (m_size : Int32) (m_text : Int32) (m_tape : Nat → Int32) (m_at : Int32) (m_wrong : Int32) (m_deep : Int32) (m_code : Nat → Int32) (m_value : Nat → Int32) (m_codes : Nat → Int32) (m_clauses : Nat → Int32) (m_testFrom : Nat → Int32) (m_sumFrom : Nat → Int32) (m_sumTo : Nat → Int32) : Option (Int32 × Int32 × Int32 × (Nat → Int32) × (Nat → Int32) × (Nat → Int32) × (Nat → Int32) × (Nat → Int32) × (Nat → Int32) × (Nat → Int32)) := b_X12_clause_0 m_size m_text m_tape m_at m_wrong m_deep m_code m_value m_codes m_clauses m_testFrom m_sumFrom m_sumTo
noncomputable def b_X12_open_0 (m_at : Int32) (m_wrong : Int32) (m_deep : Int32) (m_text : Int32) (m_codes : Nat → Int32) (m_clauses : Nat → Int32) (v1 : Int32) : Option (Int32 × Int32 × Int32 × Int32 × (Nat → Int32) × (Nat → Int32)) :=
  gd (inB v1 5) <|
  bnd (upd m_codes v1.toNatClampNeg (0 : Int32)) fun m_codes_2 =>
  gd (inB v1 5) <|
  bnd (upd m_clauses v1.toNatClampNeg (0 : Int32)) fun m_clauses_4 =>
  some ((0 : Int32), (-1 : Int32), (0 : Int32), v1, m_codes_2, m_clauses_4)
noncomputable def f_X12_open (m_at : Int32) (m_wrong : Int32) (m_deep : Int32) (m_text : Int32) (m_codes : Nat → Int32) (m_clauses : Nat → Int32) (p1 : Int32) : Option (Int32 × Int32 × Int32 × Int32 × (Nat → Int32) × (Nat → Int32)) := b_X12_open_0  m_at m_wrong m_deep m_text m_codes m_clauses p1
noncomputable def b_X12_atEnd_20 (m_size : Int32) (m_tape : Nat → Int32) (m_at : Int32) (m_wrong : Int32) : Option (Int32 × Int32 × Int32) :=
  some (m_wrong, m_at, m_wrong)
noncomputable def b_X12_atEnd_0 (m_size : Int32) (m_tape : Nat → Int32) (m_at : Int32) (m_wrong : Int32) : Option (Int32 × Int32 × Int32) :=
  if m_wrong = (-1 : Int32) then
    ob2 (f_X12_look m_size m_tape m_at) fun r_1 m_at_2 =>
    if r_1 = (-1 : Int32) then
      b_X12_atEnd_20 m_size m_tape m_at_2 m_wrong
    else
      ob1 (f_X12_bad m_at_2 m_wrong) fun m_wrong_4 =>
      b_X12_atEnd_20 m_size m_tape m_at_2 m_wrong_4
  else
    b_X12_atEnd_20 m_size m_tape m_at m_wrong
noncomputable def f_X12_atEnd (m_size : Int32) (m_tape : Nat → Int32) (m_at : Int32) (m_wrong : Int32) : Option (Int32 × Int32 × Int32) := b_X12_atEnd_0 m_size m_tape m_at m_wrong
noncomputable def b_X12_readLaw_43 (m_size : Int32) (m_tape : Nat → Int32) (m_at : Int32) (m_wrong : Int32) (m_deep : Int32) (m_text : Int32) (m_code : Nat → Int32) (m_value : Nat → Int32) (m_codes : Nat → Int32) (m_clauses : Nat → Int32) (m_testFrom : Nat → Int32) (m_sumFrom : Nat → Int32) (m_sumTo : Nat → Int32) : Option (Int32 × Int32 × Int32 × Int32 × Int32 × (Nat → Int32) × (Nat → Int32) × (Nat → Int32) × (Nat → Int32) × (Nat → Int32) × (Nat → Int32) × (Nat → Int32)) :=
  ob3 (f_X12_atEnd m_size m_tape m_at m_wrong) fun r_1 m_at_2 m_wrong_3 =>
  some (r_1, m_at_2, m_wrong_3, m_deep, m_text, m_code, m_value, m_codes, m_clauses, m_testFrom, m_sumFrom, m_sumTo)
noncomputable def b_X12_readLaw_9 (m_size : Int32) (m_tape : Nat → Int32) (k9 : Int32 → Int32 → Int32 → Int32 → (Nat → Int32) → (Nat → Int32) → (Nat → Int32) → (Nat → Int32) → (Nat → Int32) → (Nat → Int32) → (Nat → Int32) → Option (Int32 × Int32 × Int32 × Int32 × Int32 × (Nat → Int32) × (Nat → Int32) × (Nat → Int32) × (Nat → Int32) × (Nat → Int32) × (Nat → Int32) × (Nat → Int32))) (m_at : Int32) (m_wrong : Int32) (m_deep : Int32) (m_text : Int32) (m_code : Nat → Int32) (m_value : Nat → Int32) (m_codes : Nat → Int32) (m_clauses : Nat → Int32) (m_testFrom : Nat → Int32) (m_sumFrom : Nat → Int32) (m_sumTo : Nat → Int32) : Option (Int32 × Int32 × Int32 × Int32 × Int32 × (Nat → Int32) × (Nat → Int32) × (Nat → Int32) × (Nat → Int32) × (Nat → Int32) × (Nat → Int32) × (Nat → Int32)) :=
  if m_wrong = (-1 : Int32) then
    ob2 (f_X12_look m_size m_tape m_at) fun r_1 m_at_2 =>
    if r_1 = (59 : Int32) then
      bnd (m_at_2 + (1 : Int32)) fun at_4 =>
      ob10 (f_X12_clause m_size m_text m_tape at_4 m_wrong m_deep m_code m_value m_codes m_clauses m_testFrom m_sumFrom m_sumTo) fun m_at_5 m_wrong_6 m_deep_7 m_code_8 m_value_9 m_codes_10 m_clauses_11 m_testFrom_12 m_sumFrom_13 m_sumTo_14 =>
      k9 m_at_5 m_wrong_6 m_deep_7 m_text m_code_8 m_value_9 m_codes_10 m_clauses_11 m_testFrom_12 m_sumFrom_13 m_sumTo_14
    else
      b_X12_readLaw_43 m_size m_tape m_at_2 m_wrong m_deep m_text m_code m_value m_codes m_clauses m_testFrom m_sumFrom m_sumTo
  else
    b_X12_readLaw_43 m_size m_tape m_at m_wrong m_deep m_text m_code m_value m_codes m_clauses m_testFrom m_sumFrom m_sumTo
noncomputable def f_X12_readLaw_9 (m_size : Int32) (m_tape : Nat → Int32) : Nat → Int32 → Int32 → Int32 → Int32 → (Nat → Int32) → (Nat → Int32) → (Nat → Int32) → (Nat → Int32) → (Nat → Int32) → (Nat → Int32) → (Nat → Int32) → Option (Int32 × Int32 × Int32 × Int32 × Int32 × (Nat → Int32) × (Nat → Int32) × (Nat → Int32) × (Nat → Int32) × (Nat → Int32) × (Nat → Int32) × (Nat → Int32))
  | 0, _, _, _, _, _, _, _, _, _, _, _ => none
  | n + 1, m_at, m_wrong, m_deep, m_text, m_code, m_value, m_codes, m_clauses, m_testFrom, m_sumFrom, m_sumTo => b_X12_readLaw_9 m_size m_tape (f_X12_readLaw_9 m_size m_tape n) m_at m_wrong m_deep m_text m_code m_value m_codes m_clauses m_testFrom m_sumFrom m_sumTo
noncomputable def b_X12_readLaw_0 (m_size : Int32) (m_tape : Nat → Int32) (m_at : Int32) (m_wrong : Int32) (m_deep : Int32) (m_text : Int32) (m_code : Nat → Int32) (m_value : Nat → Int32) (m_codes : Nat → Int32) (m_clauses : Nat → Int32) (m_testFrom : Nat → Int32) (m_sumFrom : Nat → Int32) (m_sumTo : Nat → Int32) (v1 : Int32) : Option (Int32 × Int32 × Int32 × Int32 × Int32 × (Nat → Int32) × (Nat → Int32) × (Nat → Int32) × (Nat → Int32) × (Nat → Int32) × (Nat → Int32) × (Nat → Int32)) :=
  ob6 (f_X12_open m_at m_wrong m_deep m_text m_codes m_clauses v1) fun m_at_1 m_wrong_2 m_deep_3 m_text_4 m_codes_5 m_clauses_6 =>
  ob10 (f_X12_clause m_size m_text_4 m_tape m_at_1 m_wrong_2 m_deep_3 m_code m_value m_codes_5 m_clauses_6 m_testFrom m_sumFrom m_sumTo) fun m_at_8 m_wrong_9 m_deep_10 m_code_11 m_value_12 m_codes_13 m_clauses_14 m_testFrom_15 m_sumFrom_16 m_sumTo_17 =>
  f_X12_readLaw_9 m_size m_tape fu m_at_8 m_wrong_9 m_deep_10 m_text_4 m_code_11 m_value_12 m_codes_13 m_clauses_14 m_testFrom_15 m_sumFrom_16 m_sumTo_17
noncomputable def f_X12_readLaw (m_size : Int32) (m_tape : Nat → Int32) (m_at : Int32) (m_wrong : Int32) (m_deep : Int32) (m_text : Int32) (m_code : Nat → Int32) (m_value : Nat → Int32) (m_codes : Nat → Int32) (m_clauses : Nat → Int32) (m_testFrom : Nat → Int32) (m_sumFrom : Nat → Int32) (m_sumTo : Nat → Int32) (p1 : Int32) : Option (Int32 × Int32 × Int32 × Int32 × Int32 × (Nat → Int32) × (Nat → Int32) × (Nat → Int32) × (Nat → Int32) × (Nat → Int32) × (Nat → Int32) × (Nat → Int32)) := b_X12_readLaw_0 m_size m_tape m_at m_wrong m_deep m_text m_code m_value m_codes m_clauses m_testFrom m_sumFrom m_sumTo p1
noncomputable def b_X12_bounded_0 (v0 : Int64) : Option (Int32) :=
  bnd (mnL (1000000 : Int64) v0) fun n_1 =>
  bnd (mxL (-1000000 : Int64) n_1) fun n_2 =>
  some (n_2.toInt32)
noncomputable def f_X12_bounded (p1 : Int64) : Option (Int32) := b_X12_bounded_0  p1
noncomputable def b_X12_worked_156  : Option (Int32) :=
  some (1 : Int32)
noncomputable def b_X12_worked_144 (v1 : Int64) (v3 : Int64) : Option (Int32) :=
  if (lg_cmp v1 (0 : Int64)) = (0 : Int32) then
    if (lg_cmp v3 (0 : Int64)) = (0 : Int32) then
      some (0 : Int32)
    else
      b_X12_worked_156 
  else
    b_X12_worked_156 
noncomputable def b_X12_worked_0 (v0 : Int32) (v1 : Int64) (v3 : Int64) : Option (Int32) :=
  if v0 = (2 : Int32) then
    ob1 (f_X12_bounded (v1 + v3)) fun r_1 =>
    some r_1
  else
  if v0 = (3 : Int32) then
    ob1 (f_X12_bounded (v1 - v3)) fun r_3 =>
    some r_3
  else
  if v0 = (4 : Int32) then
    ob1 (f_X12_bounded (v1 * v3)) fun r_5 =>
    some r_5
  else
  if v0 = (5 : Int32) then
    if (lg_cmp v3 (0 : Int64)) = (0 : Int32) then
      some (0 : Int32)
    else
      gd (nzL v3) <|
      ob1 (f_X12_bounded (v1 / v3)) fun r_8 =>
      some r_8
  else
  if v0 = (6 : Int32) then
    if (lg_cmp v1 v3) = (0 : Int32) then
      some (1 : Int32)
    else
      some (0 : Int32)
  else
  if v0 = (7 : Int32) then
    if (0 : Int32) ≤ (lg_cmp v1 v3) then
      some (0 : Int32)
    else
      some (1 : Int32)
  else
  if v0 = (8 : Int32) then
    if (lg_cmp v1 v3) ≤ (0 : Int32) then
      some (0 : Int32)
    else
      some (1 : Int32)
  else
  if v0 = (9 : Int32) then
    b_X12_worked_144 v1 v3
  else
  if v0 = (10 : Int32) then
    if (lg_cmp v1 (0 : Int64)) = (0 : Int32) then
      some (0 : Int32)
    else
      if (lg_cmp v3 (0 : Int64)) = (0 : Int32) then
        some (0 : Int32)
      else
        some (1 : Int32)
  else
  b_X12_worked_144 v1 v3
noncomputable def f_X12_worked (p1 : Int32) (p2 : Int64) (p3 : Int64) : Option (Int32) := b_X12_worked_0  p1 p2 p3
noncomputable def b_X12_workOut_165 (m_code : Nat → Int32) (m_value : Nat → Int32) (m_letters : Nat → Int32) (k12 : (Nat → Int32) → Int32 → Int32 → Int32 → Int32 → Option (Int32 × (Nat → Int32))) (m_stack : Nat → Int32) (v1 : Int32) (v3 : Int32) (v4 : Int32) (v5 : Int32) : Option (Int32 × (Nat → Int32)) :=
  bnd (v5 + (1 : Int32)) fun v5_1 =>
  k12 m_stack v1 v3 v4 v5_1
noncomputable def b_X12_workOut_83 (m_code : Nat → Int32) (m_value : Nat → Int32) (m_letters : Nat → Int32) (k12 : (Nat → Int32) → Int32 → Int32 → Int32 → Int32 → Option (Int32 × (Nat → Int32))) (m_stack : Nat → Int32) (v1 : Int32) (v3 : Int32) (v4 : Int32) (v5 : Int32) (t1 : Int32) (t2 : Int32) : Option (Int32 × (Nat → Int32)) :=
  gd (inB t1 80) <|
  bnd (upd m_stack t1.toNatClampNeg t2) fun m_stack_2 =>
  bnd (v4 + (1 : Int32)) fun v4_3 =>
  b_X12_workOut_165 m_code m_value m_letters k12 m_stack_2 v1 v3 v4_3 v5
noncomputable def b_X12_workOut_45 (m_code : Nat → Int32) (m_value : Nat → Int32) (m_letters : Nat → Int32) (k12 : (Nat → Int32) → Int32 → Int32 → Int32 → Int32 → Option (Int32 × (Nat → Int32))) (m_stack : Nat → Int32) (v1 : Int32) (v3 : Int32) (v4 : Int32) (v5 : Int32) : Option (Int32 × (Nat → Int32)) :=
  gd (inB v5 2600) <|
  if (m_code v5.toNatClampNeg) = (0 : Int32) then
    gd (inB v5 2600) <|
    b_X12_workOut_83 m_code m_value m_letters k12 m_stack v1 v3 v4 v5 v4 (m_value v5.toNatClampNeg)
  else
    gd (inB v5 2600) <|
    bnd (m_value v5.toNatClampNeg) fun i_3 =>
    gd (inB i_3 6) <|
    b_X12_workOut_83 m_code m_value m_letters k12 m_stack v1 v3 v4 v5 v4 (m_letters i_3.toNatClampNeg)
noncomputable def b_X12_workOut_12 (m_code : Nat → Int32) (m_value : Nat → Int32) (m_letters : Nat → Int32) (k12 : (Nat → Int32) → Int32 → Int32 → Int32 → Int32 → Option (Int32 × (Nat → Int32))) (m_stack : Nat → Int32) (v1 : Int32) (v3 : Int32) (v4 : Int32) (v5 : Int32) : Option (Int32 × (Nat → Int32)) :=
  if (((520 : Int32) * v1) + v3) ≤ v5 then
    gd (inB (0 : Int32) 80) <|
    some ((m_stack (0 : Int32).toNatClampNeg), m_stack)
  else
    gd (inB v5 2600) <|
    if (m_code v5.toNatClampNeg) = (0 : Int32) then
      b_X12_workOut_45 m_code m_value m_letters k12 m_stack v1 v3 v4 v5
    else
      gd (inB v5 2600) <|
      if (m_code v5.toNatClampNeg) = (1 : Int32) then
        b_X12_workOut_45 m_code m_value m_letters k12 m_stack v1 v3 v4 v5
      else
        gd (inB v5 2600) <|
        if (m_code v5.toNatClampNeg) = (9 : Int32) then
          gd (inB (v4 - (1 : Int32)) 80) <|
          gd (inB (v4 - (1 : Int32)) 80) <|
          bnd (upd m_stack (v4 - (1 : Int32)).toNatClampNeg ((1 : Int32) - (m_stack (v4 - (1 : Int32)).toNatClampNeg))) fun m_stack_15 =>
          b_X12_workOut_165 m_code m_value m_letters k12 m_stack_15 v1 v3 v4 v5
        else
          bnd (v4 + (-1 : Int32)) fun v4_5 =>
          gd (inB v5 2600) <|
          gd (inB (v4_5 - (1 : Int32)) 80) <|
          gd (inB v4_5 80) <|
          ob1 (f_X12_worked (m_code v5.toNatClampNeg) ((m_stack (v4_5 - (1 : Int32)).toNatClampNeg).toInt64) ((m_stack v4_5.toNatClampNeg).toInt64)) fun r_9 =>
          gd (inB (v4_5 - (1 : Int32)) 80) <|
          bnd (upd m_stack (v4_5 - (1 : Int32)).toNatClampNeg r_9) fun m_stack_12 =>
          b_X12_workOut_165 m_code m_value m_letters k12 m_stack_12 v1 v3 v4_5 v5
noncomputable def f_X12_workOut_12 (m_code : Nat → Int32) (m_value : Nat → Int32) (m_letters : Nat → Int32) : Nat → (Nat → Int32) → Int32 → Int32 → Int32 → Int32 → Option (Int32 × (Nat → Int32))
  | 0, _, _, _, _, _ => none
  | n + 1, m_stack, v1, v3, v4, v5 => b_X12_workOut_12 m_code m_value m_letters (f_X12_workOut_12 m_code m_value m_letters n) m_stack v1 v3 v4 v5
noncomputable def b_X12_workOut_0 (m_code : Nat → Int32) (m_value : Nat → Int32) (m_letters : Nat → Int32) (m_stack : Nat → Int32) (v1 : Int32) (v2 : Int32) (v3 : Int32) : Option (Int32 × (Nat → Int32)) :=
  bnd (((520 : Int32) * v1) + v2) fun v5_1 =>
  f_X12_workOut_12 m_code m_value m_letters fu m_stack v1 v3 (0 : Int32) v5_1
noncomputable def f_X12_workOut (m_code : Nat → Int32) (m_value : Nat → Int32) (m_letters : Nat → Int32) (m_stack : Nat → Int32) (p1 : Int32) (p2 : Int32) (p3 : Int32) : Option (Int32 × (Nat → Int32)) := b_X12_workOut_0 m_code m_value m_letters m_stack p1 p2 p3
noncomputable def b_X12_worthOf_57 (m_code : Nat → Int32) (m_value : Nat → Int32) (m_clauses : Nat → Int32) (m_testFrom : Nat → Int32) (m_sumFrom : Nat → Int32) (m_sumTo : Nat → Int32) (m_letters : Nat → Int32) (m_stack : Nat → Int32) (v1 : Int32) (v2 : Int32) : Option (Int32 × (Nat → Int32)) :=
  gd (inB v2 700) <|
  gd (inB v2 700) <|
  ob2 (f_X12_workOut m_code m_value m_letters m_stack v1 (m_sumFrom v2.toNatClampNeg) (m_sumTo v2.toNatClampNeg)) fun r_3 m_stack_4 =>
  some (r_3, m_stack_4)
noncomputable def b_X12_worthOf_6 (m_code : Nat → Int32) (m_value : Nat → Int32) (m_clauses : Nat → Int32) (m_testFrom : Nat → Int32) (m_sumFrom : Nat → Int32) (m_sumTo : Nat → Int32) (m_letters : Nat → Int32) (k6 : (Nat → Int32) → Int32 → Int32 → Option (Int32 × (Nat → Int32))) (m_stack : Nat → Int32) (v1 : Int32) (v2 : Int32) : Option (Int32 × (Nat → Int32)) :=
  gd (inB v1 5) <|
  if (((140 : Int32) * v1) + (m_clauses v1.toNatClampNeg)) ≤ v2 then
    some ((0 : Int32), m_stack)
  else
    gd (inB v2 700) <|
    gd (inB v2 700) <|
    if (m_testFrom v2.toNatClampNeg) = (m_sumFrom v2.toNatClampNeg) then
      b_X12_worthOf_57 m_code m_value m_clauses m_testFrom m_sumFrom m_sumTo m_letters m_stack v1 v2
    else
      gd (inB v2 700) <|
      gd (inB v2 700) <|
      ob2 (f_X12_workOut m_code m_value m_letters m_stack v1 (m_testFrom v2.toNatClampNeg) (m_sumFrom v2.toNatClampNeg)) fun r_6 m_stack_7 =>
      if r_6 = (0 : Int32) then
        bnd (v2 + (1 : Int32)) fun v2_9 =>
        k6 m_stack_7 v1 v2_9
      else
        b_X12_worthOf_57 m_code m_value m_clauses m_testFrom m_sumFrom m_sumTo m_letters m_stack_7 v1 v2
noncomputable def f_X12_worthOf_6 (m_code : Nat → Int32) (m_value : Nat → Int32) (m_clauses : Nat → Int32) (m_testFrom : Nat → Int32) (m_sumFrom : Nat → Int32) (m_sumTo : Nat → Int32) (m_letters : Nat → Int32) : Nat → (Nat → Int32) → Int32 → Int32 → Option (Int32 × (Nat → Int32))
  | 0, _, _, _ => none
  | n + 1, m_stack, v1, v2 => b_X12_worthOf_6 m_code m_value m_clauses m_testFrom m_sumFrom m_sumTo m_letters (f_X12_worthOf_6 m_code m_value m_clauses m_testFrom m_sumFrom m_sumTo m_letters n) m_stack v1 v2
noncomputable def b_X12_worthOf_0 (m_code : Nat → Int32) (m_value : Nat → Int32) (m_clauses : Nat → Int32) (m_testFrom : Nat → Int32) (m_sumFrom : Nat → Int32) (m_sumTo : Nat → Int32) (m_letters : Nat → Int32) (m_stack : Nat → Int32) (v1 : Int32) : Option (Int32 × (Nat → Int32)) :=
  bnd ((140 : Int32) * v1) fun v2_1 =>
  f_X12_worthOf_6 m_code m_value m_clauses m_testFrom m_sumFrom m_sumTo m_letters fu m_stack v1 v2_1
noncomputable def f_X12_worthOf (m_code : Nat → Int32) (m_value : Nat → Int32) (m_clauses : Nat → Int32) (m_testFrom : Nat → Int32) (m_sumFrom : Nat → Int32) (m_sumTo : Nat → Int32) (m_letters : Nat → Int32) (m_stack : Nat → Int32) (p1 : Int32) : Option (Int32 × (Nat → Int32)) := b_X12_worthOf_0 m_code m_value m_clauses m_testFrom m_sumFrom m_sumTo m_letters m_stack p1
noncomputable def b_X12_number_67 (m_size : Int32) (m_tape : Nat → Int32) (m_at : Int32) (m_wrong : Int32) (v1 : Int32) (v2 : Int32) (v3 : Int32) : Option (Int32 × Int32 × Int32) :=
  ob1 (f_X12_here m_size m_at m_tape) fun r_1 =>
  ob1 (f_X12_isDigit r_1) fun r_3 =>
  if r_3 = (0 : Int32) then
    ob1 (f_X12_in v3 v1 v2) fun r_5 =>
    if r_5 = (0 : Int32) then
      bnd (m_at - (1 : Int32)) fun at_7 =>
      ob1 (f_X12_bad at_7 m_wrong) fun m_wrong_8 =>
      some (v3, at_7, m_wrong_8)
    else
      some (v3, m_at, m_wrong)
  else
    ob1 (f_X12_bad m_at m_wrong) fun m_wrong_10 =>
    some (v3, m_at, m_wrong_10)
noncomputable def b_X12_number_0 (m_size : Int32) (m_tape : Nat → Int32) (m_at : Int32) (m_wrong : Int32) (v1 : Int32) (v2 : Int32) : Option (Int32 × Int32 × Int32) :=
  ob2 (f_X12_look m_size m_tape m_at) fun r_1 m_at_2 =>
  ob1 (f_X12_isDigit r_1) fun r_4 =>
  if r_4 = (0 : Int32) then
    ob1 (f_X12_bad m_at_2 m_wrong) fun m_wrong_18 =>
    some (v1, m_at_2, m_wrong_18)
  else
    ob1 (f_X12_here m_size m_at_2 m_tape) fun r_6 =>
    bnd (r_6 - (48 : Int32)) fun v3_8 =>
    bnd (m_at_2 + (1 : Int32)) fun at_9 =>
    ob1 (f_X12_here m_size at_9 m_tape) fun r_10 =>
    ob1 (f_X12_isDigit r_10) fun r_12 =>
    if r_12 = (0 : Int32) then
      b_X12_number_67 m_size m_tape at_9 m_wrong v1 v2 v3_8
    else
      ob1 (f_X12_here m_size at_9 m_tape) fun r_14 =>
      bnd ((((10 : Int32) * v3_8) + r_14) - (48 : Int32)) fun v3_16 =>
      bnd (at_9 + (1 : Int32)) fun at_17 =>
      b_X12_number_67 m_size m_tape at_17 m_wrong v1 v2 v3_16
noncomputable def f_X12_number (m_size : Int32) (m_tape : Nat → Int32) (m_at : Int32) (m_wrong : Int32) (p1 : Int32) (p2 : Int32) : Option (Int32 × Int32 × Int32) := b_X12_number_0 m_size m_tape m_at m_wrong p1 p2
noncomputable def b_X12_itemOf_0 (v0 : Int32) (v1 : Int32) : Option (Int32) :=
  if v0 = (103 : Int32) then
    if v1 = (104 : Int32) then
      some (0 : Int32)
    else
      if v1 = (102 : Int32) then
        some (1 : Int32)
      else
        if v1 = (115 : Int32) then
          some (2 : Int32)
        else
          if v1 = (97 : Int32) then
            some (3 : Int32)
          else
            some (-1 : Int32)
  else
  if v0 = (115 : Int32) then
    if v1 = (112 : Int32) then
      some (0 : Int32)
    else
      if v1 = (107 : Int32) then
        some (1 : Int32)
      else
        some (-1 : Int32)
  else
  if v1 = (119 : Int32) then
    some (0 : Int32)
  else
    if v1 = (110 : Int32) then
      some (1 : Int32)
    else
      some (-1 : Int32)
noncomputable def f_X12_itemOf (p1 : Int32) (p2 : Int32) : Option (Int32) := b_X12_itemOf_0  p1 p2
noncomputable def b_X12_highest_0 (v0 : Int32) (v1 : Int32) : Option (Int32) :=
  if v0 = (103 : Int32) then
    if v1 = (0 : Int32) then
      some (1 : Int32)
    else
      if v1 = (3 : Int32) then
        some (3 : Int32)
      else
        some (9 : Int32)
  else
  if v0 = (115 : Int32) then
    if v1 = (0 : Int32) then
      some (9 : Int32)
    else
      some (99 : Int32)
  else
  if v1 = (0 : Int32) then
    some (9 : Int32)
  else
    some (60 : Int32)
noncomputable def f_X12_highest (p1 : Int32) (p2 : Int32) : Option (Int32) := b_X12_highest_0  p1 p2
noncomputable def b_X12_usual_0 (v0 : Int32) (v1 : Int32) : Option (Int32) :=
  if v0 = (103 : Int32) then
    if v1 = (1 : Int32) then
      some (4 : Int32)
    else
      if v1 = (2 : Int32) then
        some (3 : Int32)
      else
        some (0 : Int32)
  else
  if v0 = (115 : Int32) then
    if v1 = (0 : Int32) then
      some (4 : Int32)
    else
      some (20 : Int32)
  else
  if v1 = (0 : Int32) then
    some (3 : Int32)
  else
    some (10 : Int32)
noncomputable def f_X12_usual (p1 : Int32) (p2 : Int32) : Option (Int32) := b_X12_usual_0  p1 p2
noncomputable def b_X12_items_121 (m_size : Int32) (m_tape : Nat → Int32) (ar_n : Nat) (k41 : Int32 → Int32 → (Nat → Int32) → Int32 → Int32 → Int32 → Int32 → Option (Int32 × Int32 × (Nat → Int32))) (m_at : Int32) (m_wrong : Int32) (ar : Nat → Int32) (v1 : Int32) (v3 : Int32) (v5 : Int32) (t0 : Int32) : Option (Int32 × Int32 × (Nat → Int32)) :=
  k41 m_at m_wrong ar v1 v3 v5 t0
noncomputable def b_X12_items_41 (m_size : Int32) (m_tape : Nat → Int32) (ar_n : Nat) (k41 : Int32 → Int32 → (Nat → Int32) → Int32 → Int32 → Int32 → Int32 → Option (Int32 × Int32 × (Nat → Int32))) (m_at : Int32) (m_wrong : Int32) (ar : Nat → Int32) (v1 : Int32) (v3 : Int32) (v5 : Int32) (v6 : Int32) : Option (Int32 × Int32 × (Nat → Int32)) :=
  if m_wrong = (-1 : Int32) then
    if v6 = (-1 : Int32) then
      some (m_at, m_wrong, ar)
    else
      ob1 (f_X12_has v5 v6) fun r_1 =>
      if r_1 = (0 : Int32) then
        bnd (v5 ||| ((1 : Int32) <<< (v6 &&& (31 : Int32)))) fun v5_3 =>
        bnd (m_at + (1 : Int32)) fun at_4 =>
        ob1 (f_X12_highest v1 v6) fun r_5 =>
        ob3 (f_X12_number m_size m_tape at_4 m_wrong (0 : Int32) r_5) fun r_7 m_at_8 m_wrong_9 =>
        gd (inB (v3 + v6) ar_n) <|
        bnd (upd ar (v3 + v6).toNatClampNeg r_7) fun ar_12 =>
        if m_wrong_9 = (-1 : Int32) then
          ob2 (f_X12_look m_size m_tape m_at_8) fun r_13 m_at_14 =>
          ob1 (f_X12_itemOf v1 r_13) fun r_16 =>
          b_X12_items_121 m_size m_tape ar_n k41 m_at_14 m_wrong_9 ar_12 v1 v3 v5_3 r_16
        else
          b_X12_items_121 m_size m_tape ar_n k41 m_at_8 m_wrong_9 ar_12 v1 v3 v5_3 (-1 : Int32)
      else
        some (m_at, m_wrong, ar)
  else
    some (m_at, m_wrong, ar)
noncomputable def f_X12_items_41 (m_size : Int32) (m_tape : Nat → Int32) (ar_n : Nat) : Nat → Int32 → Int32 → (Nat → Int32) → Int32 → Int32 → Int32 → Int32 → Option (Int32 × Int32 × (Nat → Int32))
  | 0, _, _, _, _, _, _, _ => none
  | n + 1, m_at, m_wrong, ar, v1, v3, v5, v6 => b_X12_items_41 m_size m_tape ar_n (f_X12_items_41 m_size m_tape ar_n n) m_at m_wrong ar v1 v3 v5 v6
noncomputable def b_X12_items_3 (m_size : Int32) (m_tape : Nat → Int32) (ar_n : Nat) (k3 : Int32 → Int32 → (Nat → Int32) → Int32 → Int32 → Int32 → Int32 → Option (Int32 × Int32 × (Nat → Int32))) (m_at : Int32) (m_wrong : Int32) (ar : Nat → Int32) (v1 : Int32) (v3 : Int32) (v4 : Int32) (v5 : Int32) : Option (Int32 × Int32 × (Nat → Int32)) :=
  if v4 ≤ v5 then
    ob2 (f_X12_look m_size m_tape m_at) fun r_1 m_at_2 =>
    ob1 (f_X12_itemOf v1 r_1) fun r_4 =>
    f_X12_items_41 m_size m_tape ar_n fu m_at_2 m_wrong ar v1 v3 (0 : Int32) r_4
  else
    ob1 (f_X12_usual v1 v5) fun r_6 =>
    gd (inB (v3 + v5) ar_n) <|
    bnd (upd ar (v3 + v5).toNatClampNeg r_6) fun ar_9 =>
    bnd (v5 + (1 : Int32)) fun v5_10 =>
    k3 m_at m_wrong ar_9 v1 v3 v4 v5_10
noncomputable def f_X12_items_3 (m_size : Int32) (m_tape : Nat → Int32) (ar_n : Nat) : Nat → Int32 → Int32 → (Nat → Int32) → Int32 → Int32 → Int32 → Int32 → Option (Int32 × Int32 × (Nat → Int32))
  | 0, _, _, _, _, _, _, _ => none
  | n + 1, m_at, m_wrong, ar, v1, v3, v4, v5 => b_X12_items_3 m_size m_tape ar_n (f_X12_items_3 m_size m_tape ar_n n) m_at m_wrong ar v1 v3 v4 v5
noncomputable def b_X12_items_0 (m_size : Int32) (m_tape : Nat → Int32) (ar_n : Nat) (m_at : Int32) (m_wrong : Int32) (ar : Nat → Int32) (v1 : Int32) (v3 : Int32) (v4 : Int32) : Option (Int32 × Int32 × (Nat → Int32)) :=
  f_X12_items_3 m_size m_tape ar_n fu m_at m_wrong ar v1 v3 v4 (0 : Int32)
noncomputable def f_X12_items (m_size : Int32) (m_tape : Nat → Int32) (ar_n : Nat) (m_at : Int32) (m_wrong : Int32) (ar : Nat → Int32) (p1 : Int32) (p3 : Int32) (p4 : Int32) : Option (Int32 × Int32 × (Nat → Int32)) := b_X12_items_0 m_size m_tape ar_n m_at m_wrong ar p1 p3 p4
noncomputable def b_X12_isWhole_4 (m_readGloves : Int32) (m_readGlove : Nat → Int32) (k4 : Int32 → Int32 → Option (Int32)) (v1 : Int32) (v2 : Int32) : Option (Int32) :=
  if m_readGloves ≤ v2 then
    if v1 = (3 : Int32) then
      some (1 : Int32)
    else
      some (0 : Int32)
  else
    bnd (((4 : Int32) * v2) + (0 : Int32)) fun i_1 =>
    gd (inB i_1 24) <|
    bnd ((1 : Int32) <<< ((m_readGlove i_1.toNatClampNeg) &&& (31 : Int32))) fun n_3 =>
    bnd (v1 ||| n_3) fun v1_4 =>
    bnd (v2 + (1 : Int32)) fun v2_5 =>
    k4 v1_4 v2_5
noncomputable def f_X12_isWhole_4 (m_readGloves : Int32) (m_readGlove : Nat → Int32) : Nat → Int32 → Int32 → Option (Int32)
  | 0, _, _ => none
  | n + 1, v1, v2 => b_X12_isWhole_4 m_readGloves m_readGlove (f_X12_isWhole_4 m_readGloves m_readGlove n) v1 v2
noncomputable def b_X12_isWhole_0 (m_readGloves : Int32) (m_readGlove : Nat → Int32) : Option (Int32) :=
  f_X12_isWhole_4 m_readGloves m_readGlove fu (0 : Int32) (0 : Int32)
noncomputable def f_X12_isWhole (m_readGloves : Int32) (m_readGlove : Nat → Int32) : Option (Int32) := b_X12_isWhole_0 m_readGloves m_readGlove 
noncomputable def b_X12_readPeace_250 (m_size : Int32) (m_tape : Nat → Int32) (k49 : Int32 → Int32 → Int32 → Int32 → (Nat → Int32) → (Nat → Int32) → (Nat → Int32) → Int32 → Int32 → Option (Int32 × Int32 × Int32 × Int32 × Int32 × (Nat → Int32) × (Nat → Int32) × (Nat → Int32))) (m_at : Int32) (m_wrong : Int32) (m_readGloves : Int32) (m_readMatters : Int32) (m_readRule : Nat → Int32) (m_readGlove : Nat → Int32) (m_readMatter : Nat → Int32) (v1 : Int32) (v2 : Int32) (t1 : Int32) (t2 : Int32) : Option (Int32 × Int32 × Int32 × Int32 × Int32 × (Nat → Int32) × (Nat → Int32) × (Nat → Int32)) :=
  bnd (t1 + t2) fun at_1 =>
  k49 at_1 m_wrong m_readGloves m_readMatters m_readRule m_readGlove m_readMatter v1 v2
noncomputable def b_X12_readPeace_235 (m_size : Int32) (m_tape : Nat → Int32) (k49 : Int32 → Int32 → Int32 → Int32 → (Nat → Int32) → (Nat → Int32) → (Nat → Int32) → Int32 → Int32 → Option (Int32 × Int32 × Int32 × Int32 × Int32 × (Nat → Int32) × (Nat → Int32) × (Nat → Int32))) (m_at : Int32) (m_wrong : Int32) (m_readGloves : Int32) (m_readMatters : Int32) (m_readRule : Nat → Int32) (m_readGlove : Nat → Int32) (m_readMatter : Nat → Int32) (v1 : Int32) (t0 : Int32) : Option (Int32 × Int32 × Int32 × Int32 × Int32 × (Nat → Int32) × (Nat → Int32) × (Nat → Int32)) :=
  if t0 = (0 : Int32) then
    b_X12_readPeace_250 m_size m_tape k49 m_at m_wrong m_readGloves m_readMatters m_readRule m_readGlove m_readMatter v1 t0 m_at (0 : Int32)
  else
    b_X12_readPeace_250 m_size m_tape k49 m_at m_wrong m_readGloves m_readMatters m_readRule m_readGlove m_readMatter v1 t0 m_at (1 : Int32)
noncomputable def b_X12_readPeace_234 (m_size : Int32) (m_tape : Nat → Int32) (k49 : Int32 → Int32 → Int32 → Int32 → (Nat → Int32) → (Nat → Int32) → (Nat → Int32) → Int32 → Int32 → Option (Int32 × Int32 × Int32 × Int32 × Int32 × (Nat → Int32) × (Nat → Int32) × (Nat → Int32))) (m_at : Int32) (m_wrong : Int32) (m_readGloves : Int32) (m_readMatters : Int32) (m_readRule : Nat → Int32) (m_readGlove : Nat → Int32) (m_readMatter : Nat → Int32) (v1 : Int32) : Option (Int32 × Int32 × Int32 × Int32 × Int32 × (Nat → Int32) × (Nat → Int32) × (Nat → Int32)) :=
  b_X12_readPeace_235 m_size m_tape k49 m_at m_wrong m_readGloves m_readMatters m_readRule m_readGlove m_readMatter v1 (0 : Int32)
noncomputable def b_X12_readPeace_213 (m_size : Int32) (m_tape : Nat → Int32) (k49 : Int32 → Int32 → Int32 → Int32 → (Nat → Int32) → (Nat → Int32) → (Nat → Int32) → Int32 → Int32 → Option (Int32 × Int32 × Int32 × Int32 × Int32 × (Nat → Int32) × (Nat → Int32) × (Nat → Int32))) (m_at : Int32) (m_wrong : Int32) (m_readGloves : Int32) (m_readMatters : Int32) (m_readRule : Nat → Int32) (m_readGlove : Nat → Int32) (m_readMatter : Nat → Int32) (v1 : Int32) : Option (Int32 × Int32 × Int32 × Int32 × Int32 × (Nat → Int32) × (Nat → Int32) × (Nat → Int32)) :=
  if m_wrong = (-1 : Int32) then
    ob2 (f_X12_look m_size m_tape m_at) fun r_1 m_at_2 =>
    if r_1 = (59 : Int32) then
      b_X12_readPeace_235 m_size m_tape k49 m_at_2 m_wrong m_readGloves m_readMatters m_readRule m_readGlove m_readMatter v1 (1 : Int32)
    else
      b_X12_readPeace_234 m_size m_tape k49 m_at_2 m_wrong m_readGloves m_readMatters m_readRule m_readGlove m_readMatter v1
  else
    b_X12_readPeace_234 m_size m_tape k49 m_at m_wrong m_readGloves m_readMatters m_readRule m_readGlove m_readMatter v1
noncomputable def b_X12_readPeace_209 (m_size : Int32) (m_tape : Nat → Int32) (k49 : Int32 → Int32 → Int32 → Int32 → (Nat → Int32) → (Nat → Int32) → (Nat → Int32) → Int32 → Int32 → Option (Int32 × Int32 × Int32 × Int32 × Int32 × (Nat → Int32) × (Nat → Int32) × (Nat → Int32))) (m_at : Int32) (m_wrong : Int32) (m_readGloves : Int32) (m_readMatters : Int32) (m_readRule : Nat → Int32) (m_readGlove : Nat → Int32) (m_readMatter : Nat → Int32) (v1 : Int32) : Option (Int32 × Int32 × Int32 × Int32 × Int32 × (Nat → Int32) × (Nat → Int32) × (Nat → Int32)) :=
  ob1 (f_X12_bad m_at m_wrong) fun m_wrong_1 =>
  b_X12_readPeace_213 m_size m_tape k49 m_at m_wrong_1 m_readGloves m_readMatters m_readRule m_readGlove m_readMatter v1
noncomputable def b_X12_readPeace_156 (m_size : Int32) (m_tape : Nat → Int32) (k49 : Int32 → Int32 → Int32 → Int32 → (Nat → Int32) → (Nat → Int32) → (Nat → Int32) → Int32 → Int32 → Option (Int32 × Int32 × Int32 × Int32 × Int32 × (Nat → Int32) × (Nat → Int32) × (Nat → Int32))) (m_at : Int32) (m_wrong : Int32) (m_readGloves : Int32) (m_readMatters : Int32) (m_readRule : Nat → Int32) (m_readGlove : Nat → Int32) (m_readMatter : Nat → Int32) (v1 : Int32) (v3 : Int32) : Option (Int32 × Int32 × Int32 × Int32 × Int32 × (Nat → Int32) × (Nat → Int32) × (Nat → Int32)) :=
  if v3 = (109 : Int32) then
    if (5 : Int32) ≤ m_readMatters then
      b_X12_readPeace_209 m_size m_tape k49 m_at m_wrong m_readGloves m_readMatters m_readRule m_readGlove m_readMatter v1
    else
      bnd (m_at + (1 : Int32)) fun at_1 =>
      ob3 (f_X12_items m_size m_tape 10 at_1 m_wrong m_readMatter v3 ((2 : Int32) * m_readMatters) (2 : Int32)) fun m_at_2 m_wrong_3 m_readMatter_4 =>
      bnd (m_readMatters + (1 : Int32)) fun readMatters_6 =>
      b_X12_readPeace_213 m_size m_tape k49 m_at_2 m_wrong_3 m_readGloves readMatters_6 m_readRule m_readGlove m_readMatter_4 v1
  else
    b_X12_readPeace_209 m_size m_tape k49 m_at m_wrong m_readGloves m_readMatters m_readRule m_readGlove m_readMatter v1
noncomputable def b_X12_readPeace_102 (m_size : Int32) (m_tape : Nat → Int32) (k49 : Int32 → Int32 → Int32 → Int32 → (Nat → Int32) → (Nat → Int32) → (Nat → Int32) → Int32 → Int32 → Option (Int32 × Int32 × Int32 × Int32 × Int32 × (Nat → Int32) × (Nat → Int32) × (Nat → Int32))) (m_at : Int32) (m_wrong : Int32) (m_readGloves : Int32) (m_readMatters : Int32) (m_readRule : Nat → Int32) (m_readGlove : Nat → Int32) (m_readMatter : Nat → Int32) (v1 : Int32) (v3 : Int32) : Option (Int32 × Int32 × Int32 × Int32 × Int32 × (Nat → Int32) × (Nat → Int32) × (Nat → Int32)) :=
  if v3 = (103 : Int32) then
    if (6 : Int32) ≤ m_readGloves then
      b_X12_readPeace_156 m_size m_tape k49 m_at m_wrong m_readGloves m_readMatters m_readRule m_readGlove m_readMatter v1 v3
    else
      bnd (m_at + (1 : Int32)) fun at_1 =>
      ob3 (f_X12_items m_size m_tape 24 at_1 m_wrong m_readGlove v3 ((4 : Int32) * m_readGloves) (4 : Int32)) fun m_at_2 m_wrong_3 m_readGlove_4 =>
      bnd (m_readGloves + (1 : Int32)) fun readGloves_6 =>
      b_X12_readPeace_213 m_size m_tape k49 m_at_2 m_wrong_3 readGloves_6 m_readMatters m_readRule m_readGlove_4 m_readMatter v1
  else
    b_X12_readPeace_156 m_size m_tape k49 m_at m_wrong m_readGloves m_readMatters m_readRule m_readGlove m_readMatter v1 v3
noncomputable def b_X12_readPeace_284 (m_size : Int32) (m_tape : Nat → Int32) (m_at : Int32) (m_wrong : Int32) (m_readGloves : Int32) (m_readMatters : Int32) (m_readRule : Nat → Int32) (m_readGlove : Nat → Int32) (m_readMatter : Nat → Int32) : Option (Int32 × Int32 × Int32 × Int32 × Int32 × (Nat → Int32) × (Nat → Int32) × (Nat → Int32)) :=
  some (m_wrong, m_at, m_wrong, m_readGloves, m_readMatters, m_readRule, m_readGlove, m_readMatter)
noncomputable def b_X12_readPeace_280 (m_size : Int32) (m_tape : Nat → Int32) (m_at : Int32) (m_wrong : Int32) (m_readGloves : Int32) (m_readMatters : Int32) (m_readRule : Nat → Int32) (m_readGlove : Nat → Int32) (m_readMatter : Nat → Int32) : Option (Int32 × Int32 × Int32 × Int32 × Int32 × (Nat → Int32) × (Nat → Int32) × (Nat → Int32)) :=
  ob1 (f_X12_bad m_at m_wrong) fun m_wrong_1 =>
  b_X12_readPeace_284 m_size m_tape m_at m_wrong_1 m_readGloves m_readMatters m_readRule m_readGlove m_readMatter
noncomputable def b_X12_readPeace_257 (m_size : Int32) (m_tape : Nat → Int32) (m_at : Int32) (m_wrong : Int32) (m_readGloves : Int32) (m_readMatters : Int32) (m_readRule : Nat → Int32) (m_readGlove : Nat → Int32) (m_readMatter : Nat → Int32) : Option (Int32 × Int32 × Int32 × Int32 × Int32 × (Nat → Int32) × (Nat → Int32) × (Nat → Int32)) :=
  if m_wrong = (-1 : Int32) then
    ob2 (f_X12_look m_size m_tape m_at) fun r_1 m_at_2 =>
    if r_1 = (-1 : Int32) then
      ob1 (f_X12_isWhole m_readGloves m_readGlove) fun r_4 =>
      if r_4 = (0 : Int32) then
        b_X12_readPeace_280 m_size m_tape m_at_2 m_wrong m_readGloves m_readMatters m_readRule m_readGlove m_readMatter
      else
        b_X12_readPeace_284 m_size m_tape m_at_2 m_wrong m_readGloves m_readMatters m_readRule m_readGlove m_readMatter
    else
      b_X12_readPeace_280 m_size m_tape m_at_2 m_wrong m_readGloves m_readMatters m_readRule m_readGlove m_readMatter
  else
    b_X12_readPeace_284 m_size m_tape m_at m_wrong m_readGloves m_readMatters m_readRule m_readGlove m_readMatter
noncomputable def b_X12_readPeace_49 (m_size : Int32) (m_tape : Nat → Int32) (k49 : Int32 → Int32 → Int32 → Int32 → (Nat → Int32) → (Nat → Int32) → (Nat → Int32) → Int32 → Int32 → Option (Int32 × Int32 × Int32 × Int32 × Int32 × (Nat → Int32) × (Nat → Int32) × (Nat → Int32))) (m_at : Int32) (m_wrong : Int32) (m_readGloves : Int32) (m_readMatters : Int32) (m_readRule : Nat → Int32) (m_readGlove : Nat → Int32) (m_readMatter : Nat → Int32) (v1 : Int32) (v2 : Int32) : Option (Int32 × Int32 × Int32 × Int32 × Int32 × (Nat → Int32) × (Nat → Int32) × (Nat → Int32)) :=
  if v2 = (0 : Int32) then
    b_X12_readPeace_257 m_size m_tape m_at m_wrong m_readGloves m_readMatters m_readRule m_readGlove m_readMatter
  else
    if m_wrong = (-1 : Int32) then
      ob2 (f_X12_look m_size m_tape m_at) fun r_1 m_at_2 =>
      if r_1 = (115 : Int32) then
        if v1 = (0 : Int32) then
          bnd (m_at_2 + (1 : Int32)) fun at_4 =>
          ob3 (f_X12_items m_size m_tape 2 at_4 m_wrong m_readRule r_1 (0 : Int32) (2 : Int32)) fun m_at_5 m_wrong_6 m_readRule_7 =>
          b_X12_readPeace_213 m_size m_tape k49 m_at_5 m_wrong_6 m_readGloves m_readMatters m_readRule_7 m_readGlove m_readMatter (1 : Int32)
        else
          b_X12_readPeace_102 m_size m_tape k49 m_at_2 m_wrong m_readGloves m_readMatters m_readRule m_readGlove m_readMatter v1 r_1
      else
        b_X12_readPeace_102 m_size m_tape k49 m_at_2 m_wrong m_readGloves m_readMatters m_readRule m_readGlove m_readMatter v1 r_1
    else
      b_X12_readPeace_257 m_size m_tape m_at m_wrong m_readGloves m_readMatters m_readRule m_readGlove m_readMatter
noncomputable def f_X12_readPeace_49 (m_size : Int32) (m_tape : Nat → Int32) : Nat → Int32 → Int32 → Int32 → Int32 → (Nat → Int32) → (Nat → Int32) → (Nat → Int32) → Int32 → Int32 → Option (Int32 × Int32 × Int32 × Int32 × Int32 × (Nat → Int32) × (Nat → Int32) × (Nat → Int32))
  | 0, _, _, _, _, _, _, _, _, _ => none
  | n + 1, m_at, m_wrong, m_readGloves, m_readMatters, m_readRule, m_readGlove, m_readMatter, v1, v2 => b_X12_readPeace_49 m_size m_tape (f_X12_readPeace_49 m_size m_tape n) m_at m_wrong m_readGloves m_readMatters m_readRule m_readGlove m_readMatter v1 v2
noncomputable def b_X12_readPeace_24 (m_size : Int32) (m_tape : Nat → Int32) (k24 : Int32 → Int32 → Int32 → Int32 → (Nat → Int32) → (Nat → Int32) → (Nat → Int32) → Int32 → Int32 → Option (Int32 × Int32 × Int32 × Int32 × Int32 × (Nat → Int32) × (Nat → Int32) × (Nat → Int32))) (m_at : Int32) (m_wrong : Int32) (m_readGloves : Int32) (m_readMatters : Int32) (m_readRule : Nat → Int32) (m_readGlove : Nat → Int32) (m_readMatter : Nat → Int32) (v1 : Int32) (v2 : Int32) : Option (Int32 × Int32 × Int32 × Int32 × Int32 × (Nat → Int32) × (Nat → Int32) × (Nat → Int32)) :=
  if (2 : Int32) ≤ v2 then
    f_X12_readPeace_49 m_size m_tape fu m_at m_wrong m_readGloves m_readMatters m_readRule m_readGlove m_readMatter v1 (1 : Int32)
  else
    ob1 (f_X12_usual (115 : Int32) v2) fun r_1 =>
    gd (inB v2 2) <|
    bnd (upd m_readRule v2.toNatClampNeg r_1) fun m_readRule_4 =>
    bnd (v2 + (1 : Int32)) fun v2_5 =>
    k24 m_at m_wrong m_readGloves m_readMatters m_readRule_4 m_readGlove m_readMatter v1 v2_5
noncomputable def f_X12_readPeace_24 (m_size : Int32) (m_tape : Nat → Int32) : Nat → Int32 → Int32 → Int32 → Int32 → (Nat → Int32) → (Nat → Int32) → (Nat → Int32) → Int32 → Int32 → Option (Int32 × Int32 × Int32 × Int32 × Int32 × (Nat → Int32) × (Nat → Int32) × (Nat → Int32))
  | 0, _, _, _, _, _, _, _, _, _ => none
  | n + 1, m_at, m_wrong, m_readGloves, m_readMatters, m_readRule, m_readGlove, m_readMatter, v1, v2 => b_X12_readPeace_24 m_size m_tape (f_X12_readPeace_24 m_size m_tape n) m_at m_wrong m_readGloves m_readMatters m_readRule m_readGlove m_readMatter v1 v2
noncomputable def b_X12_readPeace_0 (m_size : Int32) (m_tape : Nat → Int32) (m_at : Int32) (m_wrong : Int32) (m_readGloves : Int32) (m_readMatters : Int32) (m_readRule : Nat → Int32) (m_readGlove : Nat → Int32) (m_readMatter : Nat → Int32) : Option (Int32 × Int32 × Int32 × Int32 × Int32 × (Nat → Int32) × (Nat → Int32) × (Nat → Int32)) :=
  f_X12_readPeace_24 m_size m_tape fu (0 : Int32) (-1 : Int32) (0 : Int32) (0 : Int32) m_readRule m_readGlove m_readMatter (0 : Int32) (0 : Int32)
noncomputable def f_X12_readPeace (m_size : Int32) (m_tape : Nat → Int32) (m_at : Int32) (m_wrong : Int32) (m_readGloves : Int32) (m_readMatters : Int32) (m_readRule : Nat → Int32) (m_readGlove : Nat → Int32) (m_readMatter : Nat → Int32) : Option (Int32 × Int32 × Int32 × Int32 × Int32 × (Nat → Int32) × (Nat → Int32) × (Nat → Int32)) := b_X12_readPeace_0 m_size m_tape m_at m_wrong m_readGloves m_readMatters m_readRule m_readGlove m_readMatter
noncomputable def b_X12_fault_0 (m_size : Int32) (m_tape : Nat → Int32) (m_at : Int32) (m_wrong : Int32) (m_deep : Int32) (m_text : Int32) (m_readGloves : Int32) (m_readMatters : Int32) (m_code : Nat → Int32) (m_value : Nat → Int32) (m_codes : Nat → Int32) (m_clauses : Nat → Int32) (m_testFrom : Nat → Int32) (m_sumFrom : Nat → Int32) (m_sumTo : Nat → Int32) (m_readRule : Nat → Int32) (m_readGlove : Nat → Int32) (m_readMatter : Nat → Int32) (v1 : Int32) : Option (Int32 × Int32 × Int32 × Int32 × Int32 × Int32 × Int32 × (Nat → Int32) × (Nat → Int32) × (Nat → Int32) × (Nat → Int32) × (Nat → Int32) × (Nat → Int32) × (Nat → Int32) × (Nat → Int32) × (Nat → Int32) × (Nat → Int32)) :=
  if v1 = (0 : Int32) then
    ob8 (f_X12_readPeace m_size m_tape m_at m_wrong m_readGloves m_readMatters m_readRule m_readGlove m_readMatter) fun r_14 m_at_15 m_wrong_16 m_readGloves_17 m_readMatters_18 m_readRule_19 m_readGlove_20 m_readMatter_21 =>
    some (r_14, m_at_15, m_wrong_16, m_deep, m_text, m_readGloves_17, m_readMatters_18, m_code, m_value, m_codes, m_clauses, m_testFrom, m_sumFrom, m_sumTo, m_readRule_19, m_readGlove_20, m_readMatter_21)
  else
    if v1 = (1 : Int32) then
      ob12 (f_X12_readLaw m_size m_tape m_at m_wrong m_deep m_text m_code m_value m_codes m_clauses m_testFrom m_sumFrom m_sumTo (4 : Int32)) fun r_1 m_at_2 m_wrong_3 m_deep_4 m_text_5 m_code_6 m_value_7 m_codes_8 m_clauses_9 m_testFrom_10 m_sumFrom_11 m_sumTo_12 =>
      some (r_1, m_at_2, m_wrong_3, m_deep_4, m_text_5, m_readGloves, m_readMatters, m_code_6, m_value_7, m_codes_8, m_clauses_9, m_testFrom_10, m_sumFrom_11, m_sumTo_12, m_readRule, m_readGlove, m_readMatter)
    else
      some ((-2 : Int32), m_at, m_wrong, m_deep, m_text, m_readGloves, m_readMatters, m_code, m_value, m_codes, m_clauses, m_testFrom, m_sumFrom, m_sumTo, m_readRule, m_readGlove, m_readMatter)
noncomputable def f_X12_fault (m_size : Int32) (m_tape : Nat → Int32) (m_at : Int32) (m_wrong : Int32) (m_deep : Int32) (m_text : Int32) (m_readGloves : Int32) (m_readMatters : Int32) (m_code : Nat → Int32) (m_value : Nat → Int32) (m_codes : Nat → Int32) (m_clauses : Nat → Int32) (m_testFrom : Nat → Int32) (m_sumFrom : Nat → Int32) (m_sumTo : Nat → Int32) (m_readRule : Nat → Int32) (m_readGlove : Nat → Int32) (m_readMatter : Nat → Int32) (p1 : Int32) : Option (Int32 × Int32 × Int32 × Int32 × Int32 × Int32 × Int32 × (Nat → Int32) × (Nat → Int32) × (Nat → Int32) × (Nat → Int32) × (Nat → Int32) × (Nat → Int32) × (Nat → Int32) × (Nat → Int32) × (Nat → Int32) × (Nat → Int32)) := b_X12_fault_0 m_size m_tape m_at m_wrong m_deep m_text m_readGloves m_readMatters m_code m_value m_codes m_clauses m_testFrom m_sumFrom m_sumTo m_readRule m_readGlove m_readMatter p1
noncomputable def b_X12_of_0 (m_glove : Nat → Int32) (v1 : Int32) (v2 : Int32) : Option (Int32) :=
  bnd (((4 : Int32) * v1) + v2) fun i_1 =>
  gd (inB i_1 24) <|
  some (m_glove i_1.toNatClampNeg)
noncomputable def f_X12_of (m_glove : Nat → Int32) (p1 : Int32) (p2 : Int32) : Option (Int32) := b_X12_of_0 m_glove p1 p2
noncomputable def b_X12_takePeace_185 (m_readGloves : Int32) (m_readMatters : Int32) (m_readRule : Nat → Int32) (m_readGlove : Nat → Int32) (m_readMatter : Nat → Int32) (k185 : Int32 → Int32 → Int32 → Int32 → Int32 → (Nat → Int32) → (Nat → Int32) → (Nat → Int32) → (Nat → Int32) → Int32 → Option (Int32 × Int32 × Int32 × Int32 × Int32 × Int32 × (Nat → Int32) × (Nat → Int32) × (Nat → Int32) × (Nat → Int32))) (m_gloves : Int32) (m_matters : Int32) (m_acts : Int32) (m_noted : Int32) (m_hasImage : Int32) (m_rule : Nat → Int32) (m_glove : Nat → Int32) (m_matter : Nat → Int32) (m_now : Nat → Int32) (v1 : Int32) : Option (Int32 × Int32 × Int32 × Int32 × Int32 × Int32 × (Nat → Int32) × (Nat → Int32) × (Nat → Int32) × (Nat → Int32)) :=
  if m_matters ≤ v1 then
    gd (inB (0 : Int32) 2) <|
    gd (inB (66 : Int32) 250) <|
    bnd (upd m_now (66 : Int32).toNatClampNeg (m_rule (0 : Int32).toNatClampNeg)) fun m_now_3 =>
    gd (inB (1 : Int32) 2) <|
    gd (inB (67 : Int32) 250) <|
    bnd (upd m_now_3 (67 : Int32).toNatClampNeg (m_rule (1 : Int32).toNatClampNeg)) fun m_now_6 =>
    some (m_gloves, m_gloves, m_matters, (0 : Int32), (0 : Int32), (0 : Int32), m_rule, m_glove, m_matter, m_now_6)
  else
    gd (inB ((60 : Int32) + v1) 250) <|
    bnd (upd m_now ((60 : Int32) + v1).toNatClampNeg (-1 : Int32)) fun m_now_8 =>
    bnd (v1 + (1 : Int32)) fun v1_9 =>
    k185 m_gloves m_matters m_acts m_noted m_hasImage m_rule m_glove m_matter m_now_8 v1_9
noncomputable def f_X12_takePeace_185 (m_readGloves : Int32) (m_readMatters : Int32) (m_readRule : Nat → Int32) (m_readGlove : Nat → Int32) (m_readMatter : Nat → Int32) : Nat → Int32 → Int32 → Int32 → Int32 → Int32 → (Nat → Int32) → (Nat → Int32) → (Nat → Int32) → (Nat → Int32) → Int32 → Option (Int32 × Int32 × Int32 × Int32 × Int32 × Int32 × (Nat → Int32) × (Nat → Int32) × (Nat → Int32) × (Nat → Int32))
  | 0, _, _, _, _, _, _, _, _, _, _ => none
  | n + 1, m_gloves, m_matters, m_acts, m_noted, m_hasImage, m_rule, m_glove, m_matter, m_now, v1 => b_X12_takePeace_185 m_readGloves m_readMatters m_readRule m_readGlove m_readMatter (f_X12_takePeace_185 m_readGloves m_readMatters m_readRule m_readGlove m_readMatter n) m_gloves m_matters m_acts m_noted m_hasImage m_rule m_glove m_matter m_now v1
noncomputable def b_X12_takePeace_117 (m_readGloves : Int32) (m_readMatters : Int32) (m_readRule : Nat → Int32) (m_readGlove : Nat → Int32) (m_readMatter : Nat → Int32) (k117 : Int32 → Int32 → Int32 → Int32 → Int32 → (Nat → Int32) → (Nat → Int32) → (Nat → Int32) → (Nat → Int32) → Int32 → Option (Int32 × Int32 × Int32 × Int32 × Int32 × Int32 × (Nat → Int32) × (Nat → Int32) × (Nat → Int32) × (Nat → Int32))) (m_gloves : Int32) (m_matters : Int32) (m_acts : Int32) (m_noted : Int32) (m_hasImage : Int32) (m_rule : Nat → Int32) (m_glove : Nat → Int32) (m_matter : Nat → Int32) (m_now : Nat → Int32) (v1 : Int32) : Option (Int32 × Int32 × Int32 × Int32 × Int32 × Int32 × (Nat → Int32) × (Nat → Int32) × (Nat → Int32) × (Nat → Int32)) :=
  if m_gloves ≤ v1 then
    f_X12_takePeace_185 m_readGloves m_readMatters m_readRule m_readGlove m_readMatter fu m_gloves m_matters m_acts m_noted m_hasImage m_rule m_glove m_matter m_now (0 : Int32)
  else
    ob1 (f_X12_of m_glove v1 (1 : Int32)) fun r_1 =>
    gd (inB ((36 : Int32) + v1) 250) <|
    bnd (upd m_now ((36 : Int32) + v1).toNatClampNeg r_1) fun m_now_4 =>
    ob1 (f_X12_of m_glove v1 (2 : Int32)) fun r_5 =>
    gd (inB ((42 : Int32) + v1) 250) <|
    bnd (upd m_now_4 ((42 : Int32) + v1).toNatClampNeg r_5) fun m_now_8 =>
    gd (inB ((48 : Int32) + v1) 250) <|
    bnd (upd m_now_8 ((48 : Int32) + v1).toNatClampNeg ((1 : Int32) <<< (v1 &&& (31 : Int32)))) fun m_now_10 =>
    gd (inB ((54 : Int32) + v1) 250) <|
    bnd (upd m_now_10 ((54 : Int32) + v1).toNatClampNeg (-1 : Int32)) fun m_now_12 =>
    bnd (v1 + (1 : Int32)) fun v1_13 =>
    k117 m_gloves m_matters m_acts m_noted m_hasImage m_rule m_glove m_matter m_now_12 v1_13
noncomputable def f_X12_takePeace_117 (m_readGloves : Int32) (m_readMatters : Int32) (m_readRule : Nat → Int32) (m_readGlove : Nat → Int32) (m_readMatter : Nat → Int32) : Nat → Int32 → Int32 → Int32 → Int32 → Int32 → (Nat → Int32) → (Nat → Int32) → (Nat → Int32) → (Nat → Int32) → Int32 → Option (Int32 × Int32 × Int32 × Int32 × Int32 × Int32 × (Nat → Int32) × (Nat → Int32) × (Nat → Int32) × (Nat → Int32))
  | 0, _, _, _, _, _, _, _, _, _, _ => none
  | n + 1, m_gloves, m_matters, m_acts, m_noted, m_hasImage, m_rule, m_glove, m_matter, m_now, v1 => b_X12_takePeace_117 m_readGloves m_readMatters m_readRule m_readGlove m_readMatter (f_X12_takePeace_117 m_readGloves m_readMatters m_readRule m_readGlove m_readMatter n) m_gloves m_matters m_acts m_noted m_hasImage m_rule m_glove m_matter m_now v1
noncomputable def b_X12_takePeace_95 (m_readGloves : Int32) (m_readMatters : Int32) (m_readRule : Nat → Int32) (m_readGlove : Nat → Int32) (m_readMatter : Nat → Int32) (k95 : Int32 → Int32 → Int32 → Int32 → Int32 → (Nat → Int32) → (Nat → Int32) → (Nat → Int32) → (Nat → Int32) → Int32 → Option (Int32 × Int32 × Int32 × Int32 × Int32 × Int32 × (Nat → Int32) × (Nat → Int32) × (Nat → Int32) × (Nat → Int32))) (m_gloves : Int32) (m_matters : Int32) (m_acts : Int32) (m_noted : Int32) (m_hasImage : Int32) (m_rule : Nat → Int32) (m_glove : Nat → Int32) (m_matter : Nat → Int32) (m_now : Nat → Int32) (v1 : Int32) : Option (Int32 × Int32 × Int32 × Int32 × Int32 × Int32 × (Nat → Int32) × (Nat → Int32) × (Nat → Int32) × (Nat → Int32)) :=
  if (250 : Int32) ≤ v1 then
    f_X12_takePeace_117 m_readGloves m_readMatters m_readRule m_readGlove m_readMatter fu m_gloves m_matters m_acts m_noted m_hasImage m_rule m_glove m_matter m_now (0 : Int32)
  else
    gd (inB v1 250) <|
    bnd (upd m_now v1.toNatClampNeg (0 : Int32)) fun m_now_2 =>
    bnd (v1 + (1 : Int32)) fun v1_3 =>
    k95 m_gloves m_matters m_acts m_noted m_hasImage m_rule m_glove m_matter m_now_2 v1_3
noncomputable def f_X12_takePeace_95 (m_readGloves : Int32) (m_readMatters : Int32) (m_readRule : Nat → Int32) (m_readGlove : Nat → Int32) (m_readMatter : Nat → Int32) : Nat → Int32 → Int32 → Int32 → Int32 → Int32 → (Nat → Int32) → (Nat → Int32) → (Nat → Int32) → (Nat → Int32) → Int32 → Option (Int32 × Int32 × Int32 × Int32 × Int32 × Int32 × (Nat → Int32) × (Nat → Int32) × (Nat → Int32) × (Nat → Int32))
  | 0, _, _, _, _, _, _, _, _, _, _ => none
  | n + 1, m_gloves, m_matters, m_acts, m_noted, m_hasImage, m_rule, m_glove, m_matter, m_now, v1 => b_X12_takePeace_95 m_readGloves m_readMatters m_readRule m_readGlove m_readMatter (f_X12_takePeace_95 m_readGloves m_readMatters m_readRule m_readGlove m_readMatter n) m_gloves m_matters m_acts m_noted m_hasImage m_rule m_glove m_matter m_now v1
noncomputable def b_X12_takePeace_69 (m_readGloves : Int32) (m_readMatters : Int32) (m_readRule : Nat → Int32) (m_readGlove : Nat → Int32) (m_readMatter : Nat → Int32) (k69 : Int32 → Int32 → Int32 → Int32 → Int32 → (Nat → Int32) → (Nat → Int32) → (Nat → Int32) → (Nat → Int32) → Int32 → Option (Int32 × Int32 × Int32 × Int32 × Int32 × Int32 × (Nat → Int32) × (Nat → Int32) × (Nat → Int32) × (Nat → Int32))) (m_gloves : Int32) (m_matters : Int32) (m_acts : Int32) (m_noted : Int32) (m_hasImage : Int32) (m_rule : Nat → Int32) (m_glove : Nat → Int32) (m_matter : Nat → Int32) (m_now : Nat → Int32) (v1 : Int32) : Option (Int32 × Int32 × Int32 × Int32 × Int32 × Int32 × (Nat → Int32) × (Nat → Int32) × (Nat → Int32) × (Nat → Int32)) :=
  if (10 : Int32) ≤ v1 then
    f_X12_takePeace_95 m_readGloves m_readMatters m_readRule m_readGlove m_readMatter fu m_gloves m_matters m_acts m_noted m_hasImage m_rule m_glove m_matter m_now (0 : Int32)
  else
    gd (inB v1 10) <|
    gd (inB v1 10) <|
    bnd (upd m_matter v1.toNatClampNeg (m_readMatter v1.toNatClampNeg)) fun m_matter_3 =>
    bnd (v1 + (1 : Int32)) fun v1_4 =>
    k69 m_gloves m_matters m_acts m_noted m_hasImage m_rule m_glove m_matter_3 m_now v1_4
noncomputable def f_X12_takePeace_69 (m_readGloves : Int32) (m_readMatters : Int32) (m_readRule : Nat → Int32) (m_readGlove : Nat → Int32) (m_readMatter : Nat → Int32) : Nat → Int32 → Int32 → Int32 → Int32 → Int32 → (Nat → Int32) → (Nat → Int32) → (Nat → Int32) → (Nat → Int32) → Int32 → Option (Int32 × Int32 × Int32 × Int32 × Int32 × Int32 × (Nat → Int32) × (Nat → Int32) × (Nat → Int32) × (Nat → Int32))
  | 0, _, _, _, _, _, _, _, _, _, _ => none
  | n + 1, m_gloves, m_matters, m_acts, m_noted, m_hasImage, m_rule, m_glove, m_matter, m_now, v1 => b_X12_takePeace_69 m_readGloves m_readMatters m_readRule m_readGlove m_readMatter (f_X12_takePeace_69 m_readGloves m_readMatters m_readRule m_readGlove m_readMatter n) m_gloves m_matters m_acts m_noted m_hasImage m_rule m_glove m_matter m_now v1
noncomputable def b_X12_takePeace_43 (m_readGloves : Int32) (m_readMatters : Int32) (m_readRule : Nat → Int32) (m_readGlove : Nat → Int32) (m_readMatter : Nat → Int32) (k43 : Int32 → Int32 → Int32 → Int32 → Int32 → (Nat → Int32) → (Nat → Int32) → (Nat → Int32) → (Nat → Int32) → Int32 → Option (Int32 × Int32 × Int32 × Int32 × Int32 × Int32 × (Nat → Int32) × (Nat → Int32) × (Nat → Int32) × (Nat → Int32))) (m_gloves : Int32) (m_matters : Int32) (m_acts : Int32) (m_noted : Int32) (m_hasImage : Int32) (m_rule : Nat → Int32) (m_glove : Nat → Int32) (m_matter : Nat → Int32) (m_now : Nat → Int32) (v1 : Int32) : Option (Int32 × Int32 × Int32 × Int32 × Int32 × Int32 × (Nat → Int32) × (Nat → Int32) × (Nat → Int32) × (Nat → Int32)) :=
  if (24 : Int32) ≤ v1 then
    f_X12_takePeace_69 m_readGloves m_readMatters m_readRule m_readGlove m_readMatter fu m_gloves m_matters m_acts m_noted m_hasImage m_rule m_glove m_matter m_now (0 : Int32)
  else
    gd (inB v1 24) <|
    gd (inB v1 24) <|
    bnd (upd m_glove v1.toNatClampNeg (m_readGlove v1.toNatClampNeg)) fun m_glove_3 =>
    bnd (v1 + (1 : Int32)) fun v1_4 =>
    k43 m_gloves m_matters m_acts m_noted m_hasImage m_rule m_glove_3 m_matter m_now v1_4
noncomputable def f_X12_takePeace_43 (m_readGloves : Int32) (m_readMatters : Int32) (m_readRule : Nat → Int32) (m_readGlove : Nat → Int32) (m_readMatter : Nat → Int32) : Nat → Int32 → Int32 → Int32 → Int32 → Int32 → (Nat → Int32) → (Nat → Int32) → (Nat → Int32) → (Nat → Int32) → Int32 → Option (Int32 × Int32 × Int32 × Int32 × Int32 × Int32 × (Nat → Int32) × (Nat → Int32) × (Nat → Int32) × (Nat → Int32))
  | 0, _, _, _, _, _, _, _, _, _, _ => none
  | n + 1, m_gloves, m_matters, m_acts, m_noted, m_hasImage, m_rule, m_glove, m_matter, m_now, v1 => b_X12_takePeace_43 m_readGloves m_readMatters m_readRule m_readGlove m_readMatter (f_X12_takePeace_43 m_readGloves m_readMatters m_readRule m_readGlove m_readMatter n) m_gloves m_matters m_acts m_noted m_hasImage m_rule m_glove m_matter m_now v1
noncomputable def b_X12_takePeace_18 (m_readGloves : Int32) (m_readMatters : Int32) (m_readRule : Nat → Int32) (m_readGlove : Nat → Int32) (m_readMatter : Nat → Int32) (k18 : Int32 → Int32 → Int32 → Int32 → Int32 → (Nat → Int32) → (Nat → Int32) → (Nat → Int32) → (Nat → Int32) → Int32 → Option (Int32 × Int32 × Int32 × Int32 × Int32 × Int32 × (Nat → Int32) × (Nat → Int32) × (Nat → Int32) × (Nat → Int32))) (m_gloves : Int32) (m_matters : Int32) (m_acts : Int32) (m_noted : Int32) (m_hasImage : Int32) (m_rule : Nat → Int32) (m_glove : Nat → Int32) (m_matter : Nat → Int32) (m_now : Nat → Int32) (v1 : Int32) : Option (Int32 × Int32 × Int32 × Int32 × Int32 × Int32 × (Nat → Int32) × (Nat → Int32) × (Nat → Int32) × (Nat → Int32)) :=
  if (2 : Int32) ≤ v1 then
    f_X12_takePeace_43 m_readGloves m_readMatters m_readRule m_readGlove m_readMatter fu m_gloves m_matters m_acts m_noted m_hasImage m_rule m_glove m_matter m_now (0 : Int32)
  else
    gd (inB v1 2) <|
    gd (inB v1 2) <|
    bnd (upd m_rule v1.toNatClampNeg (m_readRule v1.toNatClampNeg)) fun m_rule_3 =>
    bnd (v1 + (1 : Int32)) fun v1_4 =>
    k18 m_gloves m_matters m_acts m_noted m_hasImage m_rule_3 m_glove m_matter m_now v1_4
noncomputable def f_X12_takePeace_18 (m_readGloves : Int32) (m_readMatters : Int32) (m_readRule : Nat → Int32) (m_readGlove : Nat → Int32) (m_readMatter : Nat → Int32) : Nat → Int32 → Int32 → Int32 → Int32 → Int32 → (Nat → Int32) → (Nat → Int32) → (Nat → Int32) → (Nat → Int32) → Int32 → Option (Int32 × Int32 × Int32 × Int32 × Int32 × Int32 × (Nat → Int32) × (Nat → Int32) × (Nat → Int32) × (Nat → Int32))
  | 0, _, _, _, _, _, _, _, _, _, _ => none
  | n + 1, m_gloves, m_matters, m_acts, m_noted, m_hasImage, m_rule, m_glove, m_matter, m_now, v1 => b_X12_takePeace_18 m_readGloves m_readMatters m_readRule m_readGlove m_readMatter (f_X12_takePeace_18 m_readGloves m_readMatters m_readRule m_readGlove m_readMatter n) m_gloves m_matters m_acts m_noted m_hasImage m_rule m_glove m_matter m_now v1
noncomputable def b_X12_takePeace_0 (m_readGloves : Int32) (m_readMatters : Int32) (m_readRule : Nat → Int32) (m_readGlove : Nat → Int32) (m_readMatter : Nat → Int32) (m_gloves : Int32) (m_matters : Int32) (m_acts : Int32) (m_noted : Int32) (m_hasImage : Int32) (m_rule : Nat → Int32) (m_glove : Nat → Int32) (m_matter : Nat → Int32) (m_now : Nat → Int32) : Option (Int32 × Int32 × Int32 × Int32 × Int32 × Int32 × (Nat → Int32) × (Nat → Int32) × (Nat → Int32) × (Nat → Int32)) :=
  f_X12_takePeace_18 m_readGloves m_readMatters m_readRule m_readGlove m_readMatter fu m_readGloves m_readMatters m_acts m_noted m_hasImage m_rule m_glove m_matter m_now (0 : Int32)
noncomputable def f_X12_takePeace (m_readGloves : Int32) (m_readMatters : Int32) (m_readRule : Nat → Int32) (m_readGlove : Nat → Int32) (m_readMatter : Nat → Int32) (m_gloves : Int32) (m_matters : Int32) (m_acts : Int32) (m_noted : Int32) (m_hasImage : Int32) (m_rule : Nat → Int32) (m_glove : Nat → Int32) (m_matter : Nat → Int32) (m_now : Nat → Int32) : Option (Int32 × Int32 × Int32 × Int32 × Int32 × Int32 × (Nat → Int32) × (Nat → Int32) × (Nat → Int32) × (Nat → Int32)) := b_X12_takePeace_0 m_readGloves m_readMatters m_readRule m_readGlove m_readMatter m_gloves m_matters m_acts m_noted m_hasImage m_rule m_glove m_matter m_now
noncomputable def b_X12_text_22 (m_tape : Nat → Int32) (m_size : Int32) (m_at : Int32) (m_wrong : Int32) (m_deep : Int32) (m_laws : Int32) (m_text : Int32) (m_readGloves : Int32) (m_readMatters : Int32) (m_gloves : Int32) (m_matters : Int32) (m_acts : Int32) (m_noted : Int32) (m_hasImage : Int32) (m_code : Nat → Int32) (m_value : Nat → Int32) (m_codes : Nat → Int32) (m_clauses : Nat → Int32) (m_testFrom : Nat → Int32) (m_sumFrom : Nat → Int32) (m_sumTo : Nat → Int32) (m_readRule : Nat → Int32) (m_readGlove : Nat → Int32) (m_readMatter : Nat → Int32) (m_rule : Nat → Int32) (m_glove : Nat → Int32) (m_matter : Nat → Int32) (m_now : Nat → Int32) (v1 : Int32) : Option (Int32 × Int32 × Int32 × Int32 × Int32 × Int32 × Int32 × Int32 × Int32 × Int32 × Int32 × Int32 × Int32 × Int32 × (Nat → Int32) × (Nat → Int32) × (Nat → Int32) × (Nat → Int32) × (Nat → Int32) × (Nat → Int32) × (Nat → Int32) × (Nat → Int32) × (Nat → Int32) × (Nat → Int32) × (Nat → Int32) × (Nat → Int32) × (Nat → Int32) × (Nat → Int32)) :=
  if v1 = (1 : Int32) then
    if (4 : Int32) ≤ m_laws then
      some ((-1 : Int32), m_size, m_at, m_wrong, m_deep, m_laws, m_text, m_readGloves, m_readMatters, m_gloves, m_matters, m_acts, m_noted, m_hasImage, m_code, m_value, m_codes, m_clauses, m_testFrom, m_sumFrom, m_sumTo, m_readRule, m_readGlove, m_readMatter, m_rule, m_glove, m_matter, m_now)
    else
      ob12 (f_X12_readLaw m_size m_tape m_at m_wrong m_deep m_text m_code m_value m_codes m_clauses m_testFrom m_sumFrom m_sumTo m_laws) fun r_1 m_at_2 m_wrong_3 m_deep_4 m_text_5 m_code_6 m_value_7 m_codes_8 m_clauses_9 m_testFrom_10 m_sumFrom_11 m_sumTo_12 =>
      if r_1 = (-1 : Int32) then
        bnd (m_laws + (1 : Int32)) fun laws_14 =>
        some ((laws_14 - (1 : Int32)), (0 : Int32), m_at_2, m_wrong_3, m_deep_4, laws_14, m_text_5, m_readGloves, m_readMatters, m_gloves, m_matters, m_acts, m_noted, m_hasImage, m_code_6, m_value_7, m_codes_8, m_clauses_9, m_testFrom_10, m_sumFrom_11, m_sumTo_12, m_readRule, m_readGlove, m_readMatter, m_rule, m_glove, m_matter, m_now)
      else
        some ((-1 : Int32), m_size, m_at_2, m_wrong_3, m_deep_4, m_laws, m_text_5, m_readGloves, m_readMatters, m_gloves, m_matters, m_acts, m_noted, m_hasImage, m_code_6, m_value_7, m_codes_8, m_clauses_9, m_testFrom_10, m_sumFrom_11, m_sumTo_12, m_readRule, m_readGlove, m_readMatter, m_rule, m_glove, m_matter, m_now)
  else
    some ((-1 : Int32), m_size, m_at, m_wrong, m_deep, m_laws, m_text, m_readGloves, m_readMatters, m_gloves, m_matters, m_acts, m_noted, m_hasImage, m_code, m_value, m_codes, m_clauses, m_testFrom, m_sumFrom, m_sumTo, m_readRule, m_readGlove, m_readMatter, m_rule, m_glove, m_matter, m_now)
noncomputable def b_X12_text_0 (m_tape : Nat → Int32) (m_size : Int32) (m_at : Int32) (m_wrong : Int32) (m_deep : Int32) (m_laws : Int32) (m_text : Int32) (m_readGloves : Int32) (m_readMatters : Int32) (m_gloves : Int32) (m_matters : Int32) (m_acts : Int32) (m_noted : Int32) (m_hasImage : Int32) (m_code : Nat → Int32) (m_value : Nat → Int32) (m_codes : Nat → Int32) (m_clauses : Nat → Int32) (m_testFrom : Nat → Int32) (m_sumFrom : Nat → Int32) (m_sumTo : Nat → Int32) (m_readRule : Nat → Int32) (m_readGlove : Nat → Int32) (m_readMatter : Nat → Int32) (m_rule : Nat → Int32) (m_glove : Nat → Int32) (m_matter : Nat → Int32) (m_now : Nat → Int32) (v1 : Int32) : Option (Int32 × Int32 × Int32 × Int32 × Int32 × Int32 × Int32 × Int32 × Int32 × Int32 × Int32 × Int32 × Int32 × Int32 × (Nat → Int32) × (Nat → Int32) × (Nat → Int32) × (Nat → Int32) × (Nat → Int32) × (Nat → Int32) × (Nat → Int32) × (Nat → Int32) × (Nat → Int32) × (Nat → Int32) × (Nat → Int32) × (Nat → Int32) × (Nat → Int32) × (Nat → Int32)) :=
  if v1 = (0 : Int32) then
    ob8 (f_X12_readPeace m_size m_tape m_at m_wrong m_readGloves m_readMatters m_readRule m_readGlove m_readMatter) fun r_1 m_at_2 m_wrong_3 m_readGloves_4 m_readMatters_5 m_readRule_6 m_readGlove_7 m_readMatter_8 =>
    if r_1 = (-1 : Int32) then
      ob10 (f_X12_takePeace m_readGloves_4 m_readMatters_5 m_readRule_6 m_readGlove_7 m_readMatter_8 m_gloves m_matters m_acts m_noted m_hasImage m_rule m_glove m_matter m_now) fun r_10 m_gloves_11 m_matters_12 m_acts_13 m_noted_14 m_hasImage_15 m_rule_16 m_glove_17 m_matter_18 m_now_19 =>
      some (r_10, (0 : Int32), m_at_2, m_wrong_3, m_deep, m_laws, m_text, m_readGloves_4, m_readMatters_5, m_gloves_11, m_matters_12, m_acts_13, m_noted_14, m_hasImage_15, m_code, m_value, m_codes, m_clauses, m_testFrom, m_sumFrom, m_sumTo, m_readRule_6, m_readGlove_7, m_readMatter_8, m_rule_16, m_glove_17, m_matter_18, m_now_19)
    else
      b_X12_text_22 m_tape m_size m_at_2 m_wrong_3 m_deep m_laws m_text m_readGloves_4 m_readMatters_5 m_gloves m_matters m_acts m_noted m_hasImage m_code m_value m_codes m_clauses m_testFrom m_sumFrom m_sumTo m_readRule_6 m_readGlove_7 m_readMatter_8 m_rule m_glove m_matter m_now v1
  else
    b_X12_text_22 m_tape m_size m_at m_wrong m_deep m_laws m_text m_readGloves m_readMatters m_gloves m_matters m_acts m_noted m_hasImage m_code m_value m_codes m_clauses m_testFrom m_sumFrom m_sumTo m_readRule m_readGlove m_readMatter m_rule m_glove m_matter m_now v1
noncomputable def f_X12_text (m_tape : Nat → Int32) (m_size : Int32) (m_at : Int32) (m_wrong : Int32) (m_deep : Int32) (m_laws : Int32) (m_text : Int32) (m_readGloves : Int32) (m_readMatters : Int32) (m_gloves : Int32) (m_matters : Int32) (m_acts : Int32) (m_noted : Int32) (m_hasImage : Int32) (m_code : Nat → Int32) (m_value : Nat → Int32) (m_codes : Nat → Int32) (m_clauses : Nat → Int32) (m_testFrom : Nat → Int32) (m_sumFrom : Nat → Int32) (m_sumTo : Nat → Int32) (m_readRule : Nat → Int32) (m_readGlove : Nat → Int32) (m_readMatter : Nat → Int32) (m_rule : Nat → Int32) (m_glove : Nat → Int32) (m_matter : Nat → Int32) (m_now : Nat → Int32) (p1 : Int32) : Option (Int32 × Int32 × Int32 × Int32 × Int32 × Int32 × Int32 × Int32 × Int32 × Int32 × Int32 × Int32 × Int32 × Int32 × (Nat → Int32) × (Nat → Int32) × (Nat → Int32) × (Nat → Int32) × (Nat → Int32) × (Nat → Int32) × (Nat → Int32) × (Nat → Int32) × (Nat → Int32) × (Nat → Int32) × (Nat → Int32) × (Nat → Int32) × (Nat → Int32) × (Nat → Int32)) := b_X12_text_0 m_tape m_size m_at m_wrong m_deep m_laws m_text m_readGloves m_readMatters m_gloves m_matters m_acts m_noted m_hasImage m_code m_value m_codes m_clauses m_testFrom m_sumFrom m_sumTo m_readRule m_readGlove m_readMatter m_rule m_glove m_matter m_now p1
noncomputable def b_X12_isGlove_0 (m_gloves : Int32) (v1 : Int32) : Option (Int32) :=
  ob1 (f_X12_in v1 (0 : Int32) (m_gloves - (1 : Int32))) fun r_1 =>
  gd (isZ r_1) <|
  some r_1
noncomputable def f_X12_isGlove (m_gloves : Int32) (p1 : Int32) : Option (Int32) := b_X12_isGlove_0 m_gloves p1
noncomputable def b_X12_isMatter_0 (m_matters : Int32) (v1 : Int32) : Option (Int32) :=
  ob1 (f_X12_in v1 (0 : Int32) (m_matters - (1 : Int32))) fun r_1 =>
  gd (isZ r_1) <|
  some r_1
noncomputable def f_X12_isMatter (m_matters : Int32) (p1 : Int32) : Option (Int32) := b_X12_isMatter_0 m_matters p1
noncomputable def b_X12_areTwo_0 (m_gloves : Int32) (m_glove : Nat → Int32) (v1 : Int32) (v2 : Int32) : Option (Int32) :=
  ob1 (f_X12_isGlove m_gloves v1) fun r_1 =>
  if r_1 = (0 : Int32) then
    some (0 : Int32)
  else
    ob1 (f_X12_isGlove m_gloves v2) fun r_3 =>
    if r_3 = (0 : Int32) then
      some (0 : Int32)
    else
      ob1 (f_X12_of m_glove v1 (0 : Int32)) fun r_5 =>
      ob1 (f_X12_of m_glove v2 (0 : Int32)) fun r_7 =>
      if r_5 = r_7 then
        some (0 : Int32)
      else
        some (1 : Int32)
noncomputable def f_X12_areTwo (m_gloves : Int32) (m_glove : Nat → Int32) (p1 : Int32) (p2 : Int32) : Option (Int32) := b_X12_areTwo_0 m_gloves m_glove p1 p2
noncomputable def b_X12_pairAt_0 (v0 : Int32) (v1 : Int32) : Option (Int32) :=
  bnd (mn v0 v1) fun n_1 =>
  bnd (mx v0 v1) fun n_2 =>
  some (((0 : Int32) + ((6 : Int32) * n_1)) + n_2)
noncomputable def f_X12_pairAt (p1 : Int32) (p2 : Int32) : Option (Int32) := b_X12_pairAt_0  p1 p2
noncomputable def b_X12_codeOf_0 (v0 : Int32) (v1 : Int32) : Option (Int32) :=
  bnd (mn v0 v1) fun n_1 =>
  bnd (mx v0 v1) fun n_2 =>
  some (((10 : Int32) * n_1) + n_2)
noncomputable def f_X12_codeOf (p1 : Int32) (p2 : Int32) : Option (Int32) := b_X12_codeOf_0  p1 p2
noncomputable def b_X12_held_0 (v0 : Int32) : Option (Int32) :=
  bnd (mn (99 : Int32) v0) fun n_1 =>
  bnd (mx (0 : Int32) n_1) fun n_2 =>
  some n_2
noncomputable def f_X12_held (p1 : Int32) : Option (Int32) := b_X12_held_0  p1
noncomputable def b_X12_riseBy_96 (m_holding : Int32) (m_code : Nat → Int32) (m_value : Nat → Int32) (m_clauses : Nat → Int32) (m_testFrom : Nat → Int32) (m_sumFrom : Nat → Int32) (m_sumTo : Nat → Int32) (m_letters : Nat → Int32) (m_stack : Nat → Int32) (v7 : Int32) : Option (Int32 × (Nat → Int32) × (Nat → Int32)) :=
  bnd (mn (9 : Int32) v7) fun n_1 =>
  bnd (mx (-9 : Int32) n_1) fun n_2 =>
  some (n_2, m_letters, m_stack)
noncomputable def b_X12_riseBy_69 (m_holding : Int32) (m_code : Nat → Int32) (m_value : Nat → Int32) (m_clauses : Nat → Int32) (m_testFrom : Nat → Int32) (m_sumFrom : Nat → Int32) (m_sumTo : Nat → Int32) (m_letters : Nat → Int32) (m_stack : Nat → Int32) (v5 : Int32) (v6 : Int32) (t1 : Int32) (t2 : Int32) : Option (Int32 × (Nat → Int32) × (Nat → Int32)) :=
  gd (inB t1 6) <|
  bnd (upd m_letters t1.toNatClampNeg t2) fun m_letters_2 =>
  gd (inB (4 : Int32) 6) <|
  bnd (upd m_letters_2 (4 : Int32).toNatClampNeg v5) fun m_letters_4 =>
  gd (inB (5 : Int32) 6) <|
  bnd (upd m_letters_4 (5 : Int32).toNatClampNeg v6) fun m_letters_6 =>
  ob2 (f_X12_worthOf m_code m_value m_clauses m_testFrom m_sumFrom m_sumTo m_letters_6 m_stack m_holding) fun r_7 m_stack_8 =>
  b_X12_riseBy_96 m_holding m_code m_value m_clauses m_testFrom m_sumFrom m_sumTo m_letters_6 m_stack_8 r_7
noncomputable def b_X12_riseBy_13 (m_holding : Int32) (m_code : Nat → Int32) (m_value : Nat → Int32) (m_clauses : Nat → Int32) (m_testFrom : Nat → Int32) (m_sumFrom : Nat → Int32) (m_sumTo : Nat → Int32) (m_letters : Nat → Int32) (m_stack : Nat → Int32) (v1 : Int32) (v2 : Int32) (v3 : Int32) (v4 : Int32) (v5 : Int32) (v6 : Int32) (t0 : Int32) (t1 : Int32) : Option (Int32 × (Nat → Int32) × (Nat → Int32)) :=
  bnd (((t0 + t1) - (v5 / (3 : Int32))) - (v2 / (4 : Int32))) fun v7_1 =>
  if m_holding = (-1 : Int32) then
    b_X12_riseBy_96 m_holding m_code m_value m_clauses m_testFrom m_sumFrom m_sumTo m_letters m_stack v7_1
  else
    gd (inB (0 : Int32) 6) <|
    bnd (upd m_letters (0 : Int32).toNatClampNeg v1) fun m_letters_3 =>
    gd (inB (1 : Int32) 6) <|
    bnd (upd m_letters_3 (1 : Int32).toNatClampNeg v2) fun m_letters_5 =>
    gd (inB (2 : Int32) 6) <|
    bnd (upd m_letters_5 (2 : Int32).toNatClampNeg v3) fun m_letters_7 =>
    if v4 = (0 : Int32) then
      b_X12_riseBy_69 m_holding m_code m_value m_clauses m_testFrom m_sumFrom m_sumTo m_letters_7 m_stack v5 v6 (3 : Int32) (0 : Int32)
    else
      b_X12_riseBy_69 m_holding m_code m_value m_clauses m_testFrom m_sumFrom m_sumTo m_letters_7 m_stack v5 v6 (3 : Int32) (1 : Int32)
noncomputable def b_X12_riseBy_0 (m_holding : Int32) (m_code : Nat → Int32) (m_value : Nat → Int32) (m_clauses : Nat → Int32) (m_testFrom : Nat → Int32) (m_sumFrom : Nat → Int32) (m_sumTo : Nat → Int32) (m_letters : Nat → Int32) (m_stack : Nat → Int32) (v1 : Int32) (v2 : Int32) (v3 : Int32) (v4 : Int32) (v5 : Int32) (v6 : Int32) : Option (Int32 × (Nat → Int32) × (Nat → Int32)) :=
  if v4 = (0 : Int32) then
    b_X12_riseBy_13 m_holding m_code m_value m_clauses m_testFrom m_sumFrom m_sumTo m_letters m_stack v1 v2 v3 v4 v5 v6 (v1 / (2 : Int32)) (0 : Int32)
  else
    b_X12_riseBy_13 m_holding m_code m_value m_clauses m_testFrom m_sumFrom m_sumTo m_letters m_stack v1 v2 v3 v4 v5 v6 (v1 / (2 : Int32)) (2 : Int32)
noncomputable def f_X12_riseBy (m_holding : Int32) (m_code : Nat → Int32) (m_value : Nat → Int32) (m_clauses : Nat → Int32) (m_testFrom : Nat → Int32) (m_sumFrom : Nat → Int32) (m_sumTo : Nat → Int32) (m_letters : Nat → Int32) (m_stack : Nat → Int32) (p1 : Int32) (p2 : Int32) (p3 : Int32) (p4 : Int32) (p5 : Int32) (p6 : Int32) : Option (Int32 × (Nat → Int32) × (Nat → Int32)) := b_X12_riseBy_0 m_holding m_code m_value m_clauses m_testFrom m_sumFrom m_sumTo m_letters m_stack p1 p2 p3 p4 p5 p6
noncomputable def b_X12_areAllies_0 (m_glove : Nat → Int32) (v1 : Int32) (v2 : Int32) : Option (Int32) :=
  ob1 (f_X12_of m_glove v1 (3 : Int32)) fun r_1 =>
  ob1 (f_X12_of m_glove v2 (3 : Int32)) fun r_3 =>
  if r_1 = r_3 then
    some (1 : Int32)
  else
    some (0 : Int32)
noncomputable def f_X12_areAllies (m_glove : Nat → Int32) (p1 : Int32) (p2 : Int32) : Option (Int32) := b_X12_areAllies_0 m_glove p1 p2
noncomputable def b_X12_riseFrom_0 (m_holding : Int32) (m_code : Nat → Int32) (m_value : Nat → Int32) (m_clauses : Nat → Int32) (m_testFrom : Nat → Int32) (m_sumFrom : Nat → Int32) (m_sumTo : Nat → Int32) (m_glove : Nat → Int32) (m_now : Nat → Int32) (m_letters : Nat → Int32) (m_stack : Nat → Int32) (v1 : Int32) (v2 : Int32) (v3 : Int32) (v4 : Int32) : Option (Int32 × (Nat → Int32) × (Nat → Int32)) :=
  gd (inB ((36 : Int32) + v1) 250) <|
  gd (inB ((36 : Int32) + v2) 250) <|
  bnd ((m_now ((36 : Int32) + v1).toNatClampNeg) + (m_now ((36 : Int32) + v2).toNatClampNeg)) fun n_3 =>
  gd (inB ((42 : Int32) + v1) 250) <|
  gd (inB ((42 : Int32) + v2) 250) <|
  bnd ((m_now ((42 : Int32) + v1).toNatClampNeg) + (m_now ((42 : Int32) + v2).toNatClampNeg)) fun n_6 =>
  ob1 (f_X12_areAllies m_glove v1 v2) fun r_7 =>
  gd (inB (66 : Int32) 250) <|
  ob3 (f_X12_riseBy m_holding m_code m_value m_clauses m_testFrom m_sumFrom m_sumTo m_letters m_stack n_3 n_6 v3 r_7 (m_now (66 : Int32).toNatClampNeg) v4) fun r_10 m_letters_11 m_stack_12 =>
  some (r_10, m_letters_11, m_stack_12)
noncomputable def f_X12_riseFrom (m_holding : Int32) (m_code : Nat → Int32) (m_value : Nat → Int32) (m_clauses : Nat → Int32) (m_testFrom : Nat → Int32) (m_sumFrom : Nat → Int32) (m_sumTo : Nat → Int32) (m_glove : Nat → Int32) (m_now : Nat → Int32) (m_letters : Nat → Int32) (m_stack : Nat → Int32) (p1 : Int32) (p2 : Int32) (p3 : Int32) (p4 : Int32) : Option (Int32 × (Nat → Int32) × (Nat → Int32)) := b_X12_riseFrom_0 m_holding m_code m_value m_clauses m_testFrom m_sumFrom m_sumTo m_glove m_now m_letters m_stack p1 p2 p3 p4
noncomputable def b_X12_riseOf_0 (m_holding : Int32) (m_code : Nat → Int32) (m_value : Nat → Int32) (m_clauses : Nat → Int32) (m_testFrom : Nat → Int32) (m_sumFrom : Nat → Int32) (m_sumTo : Nat → Int32) (m_glove : Nat → Int32) (m_now : Nat → Int32) (m_letters : Nat → Int32) (m_stack : Nat → Int32) (v1 : Int32) (v2 : Int32) : Option (Int32 × (Nat → Int32) × (Nat → Int32)) :=
  ob1 (f_X12_pairAt v1 v2) fun r_1 =>
  gd (inB r_1 250) <|
  gd (inB (68 : Int32) 250) <|
  ob3 (f_X12_riseFrom m_holding m_code m_value m_clauses m_testFrom m_sumFrom m_sumTo m_glove m_now m_letters m_stack v1 v2 (m_now r_1.toNatClampNeg) (m_now (68 : Int32).toNatClampNeg)) fun r_5 m_letters_6 m_stack_7 =>
  some (r_5, m_letters_6, m_stack_7)
noncomputable def f_X12_riseOf (m_holding : Int32) (m_code : Nat → Int32) (m_value : Nat → Int32) (m_clauses : Nat → Int32) (m_testFrom : Nat → Int32) (m_sumFrom : Nat → Int32) (m_sumTo : Nat → Int32) (m_glove : Nat → Int32) (m_now : Nat → Int32) (m_letters : Nat → Int32) (m_stack : Nat → Int32) (p1 : Int32) (p2 : Int32) : Option (Int32 × (Nat → Int32) × (Nat → Int32)) := b_X12_riseOf_0 m_holding m_code m_value m_clauses m_testFrom m_sumFrom m_sumTo m_glove m_now m_letters m_stack p1 p2
noncomputable def b_X12_isFree_0 (m_now : Nat → Int32) (v1 : Int32) : Option (Int32) :=
  gd (inB ((54 : Int32) + v1) 250) <|
  if (m_now ((54 : Int32) + v1).toNatClampNeg) = (-1 : Int32) then
    some (1 : Int32)
  else
    some (0 : Int32)
noncomputable def f_X12_isFree (m_now : Nat → Int32) (p1 : Int32) : Option (Int32) := b_X12_isFree_0 m_now p1
noncomputable def b_X12_signNow_74 (m_matters : Int32) (m_matter : Nat → Int32) (k2 : (Nat → Int32) → Int32 → Int32 → Int32 → Option ((Nat → Int32))) (m_now : Nat → Int32) (v1 : Int32) (v2 : Int32) (v3 : Int32) : Option ((Nat → Int32)) :=
  bnd (v3 + (1 : Int32)) fun v3_1 =>
  k2 m_now v1 v2 v3_1
noncomputable def b_X12_signNow_2 (m_matters : Int32) (m_matter : Nat → Int32) (k2 : (Nat → Int32) → Int32 → Int32 → Int32 → Option ((Nat → Int32))) (m_now : Nat → Int32) (v1 : Int32) (v2 : Int32) (v3 : Int32) : Option ((Nat → Int32)) :=
  if m_matters ≤ v3 then
    some m_now
  else
    gd (inB ((60 : Int32) + v3) 250) <|
    if (m_now ((60 : Int32) + v3).toNatClampNeg) = (-1 : Int32) then
      ob1 (f_X12_pairAt v1 v2) fun r_2 =>
      gd (inB r_2 250) <|
      bnd (((2 : Int32) * v3) + (1 : Int32)) fun i_5 =>
      gd (inB i_5 10) <|
      if (m_now r_2.toNatClampNeg) < (m_matter i_5.toNatClampNeg) then
        b_X12_signNow_74 m_matters m_matter k2 m_now v1 v2 v3
      else
        ob1 (f_X12_codeOf v1 v2) fun r_7 =>
        gd (inB ((60 : Int32) + v3) 250) <|
        bnd (upd m_now ((60 : Int32) + v3).toNatClampNeg r_7) fun m_now_10 =>
        gd (inB (65 : Int32) 250) <|
        bnd ((m_now_10 (65 : Int32).toNatClampNeg) ||| ((1 : Int32) <<< (v3 &&& (31 : Int32)))) fun n_12 =>
        gd (inB (65 : Int32) 250) <|
        bnd (upd m_now_10 (65 : Int32).toNatClampNeg n_12) fun m_now_14 =>
        some m_now_14
    else
      b_X12_signNow_74 m_matters m_matter k2 m_now v1 v2 v3
noncomputable def f_X12_signNow_2 (m_matters : Int32) (m_matter : Nat → Int32) : Nat → (Nat → Int32) → Int32 → Int32 → Int32 → Option ((Nat → Int32))
  | 0, _, _, _, _ => none
  | n + 1, m_now, v1, v2, v3 => b_X12_signNow_2 m_matters m_matter (f_X12_signNow_2 m_matters m_matter n) m_now v1 v2 v3
noncomputable def b_X12_signNow_0 (m_matters : Int32) (m_matter : Nat → Int32) (m_now : Nat → Int32) (v1 : Int32) (v2 : Int32) : Option ((Nat → Int32)) :=
  f_X12_signNow_2 m_matters m_matter fu m_now v1 v2 (0 : Int32)
noncomputable def f_X12_signNow (m_matters : Int32) (m_matter : Nat → Int32) (m_now : Nat → Int32) (p1 : Int32) (p2 : Int32) : Option ((Nat → Int32)) := b_X12_signNow_0 m_matters m_matter m_now p1 p2
noncomputable def b_X12_meetNow_0 (m_matters : Int32) (m_holding : Int32) (m_code : Nat → Int32) (m_value : Nat → Int32) (m_clauses : Nat → Int32) (m_testFrom : Nat → Int32) (m_sumFrom : Nat → Int32) (m_sumTo : Nat → Int32) (m_glove : Nat → Int32) (m_matter : Nat → Int32) (m_letters : Nat → Int32) (m_stack : Nat → Int32) (m_now : Nat → Int32) (v1 : Int32) (v2 : Int32) : Option ((Nat → Int32) × (Nat → Int32) × (Nat → Int32)) :=
  ob1 (f_X12_pairAt v1 v2) fun r_1 =>
  gd (inB r_1 250) <|
  ob3 (f_X12_riseOf m_holding m_code m_value m_clauses m_testFrom m_sumFrom m_sumTo m_glove m_now m_letters m_stack v1 v2) fun r_4 m_letters_5 m_stack_6 =>
  ob1 (f_X12_held ((m_now r_1.toNatClampNeg) + r_4)) fun r_8 =>
  gd (inB r_1 250) <|
  bnd (upd m_now r_1.toNatClampNeg r_8) fun m_now_11 =>
  gd (inB ((48 : Int32) + v1) 250) <|
  gd (inB ((48 : Int32) + v2) 250) <|
  bnd ((m_now_11 ((48 : Int32) + v1).toNatClampNeg) ||| (m_now_11 ((48 : Int32) + v2).toNatClampNeg)) fun n_14 =>
  gd (inB ((48 : Int32) + v1) 250) <|
  bnd (upd m_now_11 ((48 : Int32) + v1).toNatClampNeg n_14) fun m_now_16 =>
  gd (inB ((48 : Int32) + v2) 250) <|
  bnd (upd m_now_16 ((48 : Int32) + v2).toNatClampNeg n_14) fun m_now_18 =>
  gd (inB ((54 : Int32) + v1) 250) <|
  bnd (upd m_now_18 ((54 : Int32) + v1).toNatClampNeg v2) fun m_now_20 =>
  gd (inB ((54 : Int32) + v2) 250) <|
  bnd (upd m_now_20 ((54 : Int32) + v2).toNatClampNeg v1) fun m_now_22 =>
  ob1 (f_X12_signNow m_matters m_matter m_now_22 v1 v2) fun m_now_23 =>
  some (m_letters_5, m_stack_6, m_now_23)
noncomputable def f_X12_meetNow (m_matters : Int32) (m_holding : Int32) (m_code : Nat → Int32) (m_value : Nat → Int32) (m_clauses : Nat → Int32) (m_testFrom : Nat → Int32) (m_sumFrom : Nat → Int32) (m_sumTo : Nat → Int32) (m_glove : Nat → Int32) (m_matter : Nat → Int32) (m_letters : Nat → Int32) (m_stack : Nat → Int32) (m_now : Nat → Int32) (p1 : Int32) (p2 : Int32) : Option ((Nat → Int32) × (Nat → Int32) × (Nat → Int32)) := b_X12_meetNow_0 m_matters m_holding m_code m_value m_clauses m_testFrom m_sumFrom m_sumTo m_glove m_matter m_letters m_stack m_now p1 p2
noncomputable def b_X12_metMany_26 (m_gloves : Int32) (m_now : Nat → Int32) (k4 : Int32 → Int32 → Option (Int32)) (v2 : Int32) (t0 : Int32) (t1 : Int32) : Option (Int32) :=
  bnd (t0 + t1) fun v1_1 =>
  bnd (v2 + (1 : Int32)) fun v2_2 =>
  k4 v1_1 v2_2
noncomputable def b_X12_metMany_4 (m_gloves : Int32) (m_now : Nat → Int32) (k4 : Int32 → Int32 → Option (Int32)) (v1 : Int32) (v2 : Int32) : Option (Int32) :=
  if m_gloves ≤ v2 then
    some v1
  else
    ob1 (f_X12_isFree m_now v2) fun r_1 =>
    if r_1 = (0 : Int32) then
      b_X12_metMany_26 m_gloves m_now k4 v2 v1 (1 : Int32)
    else
      b_X12_metMany_26 m_gloves m_now k4 v2 v1 (0 : Int32)
noncomputable def f_X12_metMany_4 (m_gloves : Int32) (m_now : Nat → Int32) : Nat → Int32 → Int32 → Option (Int32)
  | 0, _, _ => none
  | n + 1, v1, v2 => b_X12_metMany_4 m_gloves m_now (f_X12_metMany_4 m_gloves m_now n) v1 v2
noncomputable def b_X12_metMany_0 (m_gloves : Int32) (m_now : Nat → Int32) : Option (Int32) :=
  f_X12_metMany_4 m_gloves m_now fu (0 : Int32) (0 : Int32)
noncomputable def f_X12_metMany (m_gloves : Int32) (m_now : Nat → Int32) : Option (Int32) := b_X12_metMany_0 m_gloves m_now 
noncomputable def b_X12_warmthOfAll_4 (m_now : Nat → Int32) (k4 : Int32 → Int32 → Option (Int32)) (v1 : Int32) (v2 : Int32) : Option (Int32) :=
  if (36 : Int32) ≤ v2 then
    some v1
  else
    gd (inB ((0 : Int32) + v2) 250) <|
    bnd (v1 + (m_now ((0 : Int32) + v2).toNatClampNeg)) fun v1_2 =>
    bnd (v2 + (1 : Int32)) fun v2_3 =>
    k4 v1_2 v2_3
noncomputable def f_X12_warmthOfAll_4 (m_now : Nat → Int32) : Nat → Int32 → Int32 → Option (Int32)
  | 0, _, _ => none
  | n + 1, v1, v2 => b_X12_warmthOfAll_4 m_now (f_X12_warmthOfAll_4 m_now n) v1 v2
noncomputable def b_X12_warmthOfAll_0 (m_now : Nat → Int32) : Option (Int32) :=
  f_X12_warmthOfAll_4 m_now fu (0 : Int32) (0 : Int32)
noncomputable def f_X12_warmthOfAll (m_now : Nat → Int32) : Option (Int32) := b_X12_warmthOfAll_0 m_now 
noncomputable def b_X12_cool_69 (m_gloves : Int32) (m_glove : Nat → Int32) (k2 : (Nat → Int32) → Int32 → Option ((Nat → Int32))) (k14 : (Nat → Int32) → Int32 → Int32 → Option ((Nat → Int32))) (m_now : Nat → Int32) (v1 : Int32) (v2 : Int32) : Option ((Nat → Int32)) :=
  bnd (v2 + (1 : Int32)) fun v2_1 =>
  k14 m_now v1 v2_1
noncomputable def b_X12_cool_14 (m_gloves : Int32) (m_glove : Nat → Int32) (k2 : (Nat → Int32) → Int32 → Option ((Nat → Int32))) (k14 : (Nat → Int32) → Int32 → Int32 → Option ((Nat → Int32))) (m_now : Nat → Int32) (v1 : Int32) (v2 : Int32) : Option ((Nat → Int32)) :=
  if m_gloves ≤ v2 then
    bnd (v1 + (1 : Int32)) fun v1_1 =>
    k2 m_now v1_1
  else
    ob1 (f_X12_areTwo m_gloves m_glove v1 v2) fun r_2 =>
    if r_2 = (0 : Int32) then
      b_X12_cool_69 m_gloves m_glove k2 k14 m_now v1 v2
    else
      gd (inB ((54 : Int32) + v1) 250) <|
      if (m_now ((54 : Int32) + v1).toNatClampNeg) = v2 then
        b_X12_cool_69 m_gloves m_glove k2 k14 m_now v1 v2
      else
        ob1 (f_X12_pairAt v1 v2) fun r_5 =>
        ob1 (f_X12_pairAt v1 v2) fun r_7 =>
        gd (inB r_7 250) <|
        ob1 (f_X12_held ((m_now r_7.toNatClampNeg) - (1 : Int32))) fun r_10 =>
        gd (inB r_5 250) <|
        bnd (upd m_now r_5.toNatClampNeg r_10) fun m_now_13 =>
        b_X12_cool_69 m_gloves m_glove k2 k14 m_now_13 v1 v2
noncomputable def f_X12_cool_14 (m_gloves : Int32) (m_glove : Nat → Int32) (k2 : (Nat → Int32) → Int32 → Option ((Nat → Int32))) : Nat → (Nat → Int32) → Int32 → Int32 → Option ((Nat → Int32))
  | 0, _, _, _ => none
  | n + 1, m_now, v1, v2 => b_X12_cool_14 m_gloves m_glove k2 (f_X12_cool_14 m_gloves m_glove k2 n) m_now v1 v2
noncomputable def b_X12_cool_2 (m_gloves : Int32) (m_glove : Nat → Int32) (k2 : (Nat → Int32) → Int32 → Option ((Nat → Int32))) (m_now : Nat → Int32) (v1 : Int32) : Option ((Nat → Int32)) :=
  if m_gloves ≤ v1 then
    some m_now
  else
    bnd (v1 + (1 : Int32)) fun v2_1 =>
    f_X12_cool_14 m_gloves m_glove k2 fu m_now v1 v2_1
noncomputable def f_X12_cool_2 (m_gloves : Int32) (m_glove : Nat → Int32) : Nat → (Nat → Int32) → Int32 → Option ((Nat → Int32))
  | 0, _, _ => none
  | n + 1, m_now, v1 => b_X12_cool_2 m_gloves m_glove (f_X12_cool_2 m_gloves m_glove n) m_now v1
noncomputable def b_X12_cool_0 (m_gloves : Int32) (m_glove : Nat → Int32) (m_now : Nat → Int32) : Option ((Nat → Int32)) :=
  f_X12_cool_2 m_gloves m_glove fu m_now (0 : Int32)
noncomputable def f_X12_cool (m_gloves : Int32) (m_glove : Nat → Int32) (m_now : Nat → Int32) : Option ((Nat → Int32)) := b_X12_cool_0 m_gloves m_glove m_now
noncomputable def b_X12_live_28 (m_gloves : Int32) (m_glove : Nat → Int32) (k28 : (Nat → Int32) → Int32 → Option ((Nat → Int32))) (m_now : Nat → Int32) (v1 : Int32) : Option ((Nat → Int32)) :=
  if m_gloves ≤ v1 then
    gd (inB (65 : Int32) 250) <|
    bnd (upd m_now (65 : Int32).toNatClampNeg (0 : Int32)) fun m_now_2 =>
    gd (inB (68 : Int32) 250) <|
    gd (inB (68 : Int32) 250) <|
    bnd (upd m_now_2 (68 : Int32).toNatClampNeg ((m_now_2 (68 : Int32).toNatClampNeg) + (1 : Int32))) fun m_now_5 =>
    some m_now_5
  else
    gd (inB ((54 : Int32) + v1) 250) <|
    bnd (upd m_now ((54 : Int32) + v1).toNatClampNeg (-1 : Int32)) fun m_now_7 =>
    bnd (v1 + (1 : Int32)) fun v1_8 =>
    k28 m_now_7 v1_8
noncomputable def f_X12_live_28 (m_gloves : Int32) (m_glove : Nat → Int32) : Nat → (Nat → Int32) → Int32 → Option ((Nat → Int32))
  | 0, _, _ => none
  | n + 1, m_now, v1 => b_X12_live_28 m_gloves m_glove (f_X12_live_28 m_gloves m_glove n) m_now v1
noncomputable def b_X12_live_0 (m_gloves : Int32) (m_glove : Nat → Int32) (m_now : Nat → Int32) : Option ((Nat → Int32)) :=
  ob1 (f_X12_cool m_gloves m_glove m_now) fun m_now_1 =>
  gd (inB (67 : Int32) 250) <|
  bnd (mn (999 : Int32) ((m_now_1 (67 : Int32).toNatClampNeg) + (2 : Int32))) fun n_4 =>
  gd (inB (67 : Int32) 250) <|
  bnd (upd m_now_1 (67 : Int32).toNatClampNeg n_4) fun m_now_6 =>
  f_X12_live_28 m_gloves m_glove fu m_now_6 (0 : Int32)
noncomputable def f_X12_live (m_gloves : Int32) (m_glove : Nat → Int32) (m_now : Nat → Int32) : Option ((Nat → Int32)) := b_X12_live_0 m_gloves m_glove m_now
noncomputable def b_X12_passDay_75 (m_gloves : Int32) (m_glove : Nat → Int32) (m_now : Nat → Int32) (v1 : Int32) (v2 : Int32) : Option ((Nat → Int32)) :=
  gd (inB (69 : Int32) 250) <|
  bnd ((70 : Int32) + ((3 : Int32) * (m_now (69 : Int32).toNatClampNeg))) fun n_2 =>
  gd (inB n_2 250) <|
  bnd (upd m_now n_2.toNatClampNeg v1) fun m_now_4 =>
  gd (inB (n_2 + (1 : Int32)) 250) <|
  bnd (upd m_now_4 (n_2 + (1 : Int32)).toNatClampNeg v2) fun m_now_6 =>
  ob1 (f_X12_warmthOfAll m_now_6) fun r_7 =>
  gd (inB (n_2 + (2 : Int32)) 250) <|
  bnd (upd m_now_6 (n_2 + (2 : Int32)).toNatClampNeg r_7) fun m_now_10 =>
  gd (inB (69 : Int32) 250) <|
  gd (inB (69 : Int32) 250) <|
  bnd (upd m_now_10 (69 : Int32).toNatClampNeg ((m_now_10 (69 : Int32).toNatClampNeg) + (1 : Int32))) fun m_now_13 =>
  some m_now_13
noncomputable def b_X12_passDay_31 (m_gloves : Int32) (m_glove : Nat → Int32) (k31 : (Nat → Int32) → Int32 → Int32 → Int32 → Option ((Nat → Int32))) (m_now : Nat → Int32) (v1 : Int32) (v2 : Int32) (v3 : Int32) : Option ((Nat → Int32)) :=
  if (180 : Int32) ≤ v3 then
    gd (inB (69 : Int32) 250) <|
    gd (inB (69 : Int32) 250) <|
    bnd (upd m_now (69 : Int32).toNatClampNeg ((m_now (69 : Int32).toNatClampNeg) - (1 : Int32))) fun m_now_3 =>
    b_X12_passDay_75 m_gloves m_glove m_now_3 v1 v2
  else
    gd (inB ((70 : Int32) + v3) 250) <|
    gd (inB (((70 : Int32) + v3) - (3 : Int32)) 250) <|
    bnd (upd m_now (((70 : Int32) + v3) - (3 : Int32)).toNatClampNeg (m_now ((70 : Int32) + v3).toNatClampNeg)) fun m_now_6 =>
    bnd (v3 + (1 : Int32)) fun v3_7 =>
    k31 m_now_6 v1 v2 v3_7
noncomputable def f_X12_passDay_31 (m_gloves : Int32) (m_glove : Nat → Int32) : Nat → (Nat → Int32) → Int32 → Int32 → Int32 → Option ((Nat → Int32))
  | 0, _, _, _, _ => none
  | n + 1, m_now, v1, v2, v3 => b_X12_passDay_31 m_gloves m_glove (f_X12_passDay_31 m_gloves m_glove n) m_now v1 v2 v3
noncomputable def b_X12_passDay_0 (m_gloves : Int32) (m_glove : Nat → Int32) (m_now : Nat → Int32) : Option ((Nat → Int32)) :=
  ob1 (f_X12_metMany m_gloves m_now) fun r_1 =>
  gd (inB (65 : Int32) 250) <|
  bnd (m_now (65 : Int32).toNatClampNeg) fun v2_4 =>
  ob1 (f_X12_live m_gloves m_glove m_now) fun m_now_5 =>
  gd (inB (69 : Int32) 250) <|
  if (m_now_5 (69 : Int32).toNatClampNeg) = (60 : Int32) then
    f_X12_passDay_31 m_gloves m_glove fu m_now_5 r_1 v2_4 (3 : Int32)
  else
    b_X12_passDay_75 m_gloves m_glove m_now_5 r_1 v2_4
noncomputable def f_X12_passDay (m_gloves : Int32) (m_glove : Nat → Int32) (m_now : Nat → Int32) : Option ((Nat → Int32)) := b_X12_passDay_0 m_gloves m_glove m_now
noncomputable def b_X12_rule_16 (m_gloves : Int32) (m_now : Nat → Int32) : Option (Int32) :=
  some (-1 : Int32)
noncomputable def b_X12_rule_0 (m_gloves : Int32) (m_now : Nat → Int32) (v1 : Int32) : Option (Int32) :=
  if m_gloves = (0 : Int32) then
    b_X12_rule_16 m_gloves m_now 
  else
    ob1 (f_X12_in v1 (0 : Int32) (1 : Int32)) fun r_1 =>
    if r_1 = (0 : Int32) then
      b_X12_rule_16 m_gloves m_now 
    else
      if v1 = (0 : Int32) then
        gd (inB (66 : Int32) 250) <|
        some (m_now (66 : Int32).toNatClampNeg)
      else
        gd (inB (67 : Int32) 250) <|
        some (m_now (67 : Int32).toNatClampNeg)
noncomputable def f_X12_rule (m_gloves : Int32) (m_now : Nat → Int32) (p1 : Int32) : Option (Int32) := b_X12_rule_0 m_gloves m_now p1
noncomputable def b_X12_glove_116 (m_gloves : Int32) (m_glove : Nat → Int32) (m_now : Nat → Int32) (m_thrown : Int32) (v1 : Int32) (v2 : Int32) : Option (Int32 × Int32) :=
  ob1 (f_X12_of m_glove v1 v2) fun r_1 =>
  some (r_1, m_thrown)
noncomputable def b_X12_glove_23 (m_gloves : Int32) (m_glove : Nat → Int32) (m_now : Nat → Int32) (m_thrown : Int32) (v1 : Int32) (v2 : Int32) (t1 : Int32) : Option (Int32 × Int32) :=
  if t1 = (1 : Int32) then
    some ((0 : Int32), t1)
  else
    if v2 = (1 : Int32) then
      gd (inB ((36 : Int32) + v1) 250) <|
      some ((m_now ((36 : Int32) + v1).toNatClampNeg), t1)
    else
    if v2 = (2 : Int32) then
      gd (inB ((42 : Int32) + v1) 250) <|
      some ((m_now ((42 : Int32) + v1).toNatClampNeg), t1)
    else
    if v2 = (3 : Int32) then
      b_X12_glove_116 m_gloves m_glove m_now t1 v1 v2
    else
    if v2 = (4 : Int32) then
      ob1 (f_X12_isFree m_now v1) fun r_3 =>
      if r_3 = (0 : Int32) then
        some ((1 : Int32), t1)
      else
        some ((0 : Int32), t1)
    else
    if v2 = (5 : Int32) then
      gd (inB ((48 : Int32) + v1) 250) <|
      some ((m_now ((48 : Int32) + v1).toNatClampNeg), t1)
    else
    b_X12_glove_116 m_gloves m_glove m_now t1 v1 v2
noncomputable def b_X12_glove_22 (m_gloves : Int32) (m_glove : Nat → Int32) (m_now : Nat → Int32) (m_thrown : Int32) (v1 : Int32) (v2 : Int32) : Option (Int32 × Int32) :=
  b_X12_glove_23 m_gloves m_glove m_now m_thrown v1 v2 (1 : Int32)
noncomputable def b_X12_glove_0 (m_gloves : Int32) (m_glove : Nat → Int32) (m_now : Nat → Int32) (m_thrown : Int32) (v1 : Int32) (v2 : Int32) : Option (Int32 × Int32) :=
  ob1 (f_X12_isGlove m_gloves v1) fun r_1 =>
  if r_1 = (0 : Int32) then
    b_X12_glove_22 m_gloves m_glove m_now m_thrown v1 v2
  else
    ob1 (f_X12_in v2 (0 : Int32) (5 : Int32)) fun r_3 =>
    if r_3 = (0 : Int32) then
      b_X12_glove_22 m_gloves m_glove m_now m_thrown v1 v2
    else
      b_X12_glove_23 m_gloves m_glove m_now m_thrown v1 v2 (0 : Int32)
noncomputable def f_X12_glove (m_gloves : Int32) (m_glove : Nat → Int32) (m_now : Nat → Int32) (m_thrown : Int32) (p1 : Int32) (p2 : Int32) : Option (Int32 × Int32) := b_X12_glove_0 m_gloves m_glove m_now m_thrown p1 p2
noncomputable def b_X12_matter_0 (m_matters : Int32) (m_matter : Nat → Int32) (m_now : Nat → Int32) (v1 : Int32) (v2 : Int32) : Option (Int32) :=
  ob1 (f_X12_isMatter m_matters v1) fun r_1 =>
  if r_1 = (0 : Int32) then
    some (-2 : Int32)
  else
    ob1 (f_X12_in v2 (0 : Int32) (2 : Int32)) fun r_3 =>
    if r_3 = (0 : Int32) then
      some (-2 : Int32)
    else
      if v2 = (2 : Int32) then
        gd (inB ((60 : Int32) + v1) 250) <|
        some (m_now ((60 : Int32) + v1).toNatClampNeg)
      else
        bnd (((2 : Int32) * v1) + v2) fun i_5 =>
        gd (inB i_5 10) <|
        some (m_matter i_5.toNatClampNeg)
noncomputable def f_X12_matter (m_matters : Int32) (m_matter : Nat → Int32) (m_now : Nat → Int32) (p1 : Int32) (p2 : Int32) : Option (Int32) := b_X12_matter_0 m_matters m_matter m_now p1 p2
noncomputable def b_X12_warmth_0 (m_gloves : Int32) (m_glove : Nat → Int32) (m_now : Nat → Int32) (v1 : Int32) (v2 : Int32) : Option (Int32) :=
  ob1 (f_X12_areTwo m_gloves m_glove v1 v2) fun r_1 =>
  if r_1 = (0 : Int32) then
    some (-1 : Int32)
  else
    ob1 (f_X12_pairAt v1 v2) fun r_3 =>
    gd (inB r_3 250) <|
    some (m_now r_3.toNatClampNeg)
noncomputable def f_X12_warmth (m_gloves : Int32) (m_glove : Nat → Int32) (m_now : Nat → Int32) (p1 : Int32) (p2 : Int32) : Option (Int32) := b_X12_warmth_0 m_gloves m_glove m_now p1 p2
noncomputable def b_X12_law_0 (m_laws : Int32) (m_holding : Int32) (v1 : Int32) : Option (Int32 × Int32) :=
  ob1 (f_X12_in v1 (-1 : Int32) (m_laws - (1 : Int32))) fun r_1 =>
  if r_1 = (0 : Int32) then
    some ((0 : Int32), m_holding)
  else
    some ((1 : Int32), v1)
noncomputable def f_X12_law (m_laws : Int32) (m_holding : Int32) (p1 : Int32) : Option (Int32 × Int32) := b_X12_law_0 m_laws m_holding p1
noncomputable def b_X12_keep_54 (m_now : Nat → Int32) (k54 : Int32 → (Nat → Int32) → Int32 → Option (Int32 × (Nat → Int32))) (m_acts : Int32) (m_kept : Nat → Int32) (v1 : Int32) : Option (Int32 × (Nat → Int32)) :=
  if (250 : Int32) ≤ v1 then
    bnd (m_acts + (1 : Int32)) fun acts_1 =>
    some (acts_1, m_kept)
  else
    gd (inB v1 250) <|
    gd (inB (((250 : Int32) * m_acts) + v1) 10000) <|
    bnd (upd m_kept (((250 : Int32) * m_acts) + v1).toNatClampNeg (m_now v1.toNatClampNeg)) fun m_kept_4 =>
    bnd (v1 + (1 : Int32)) fun v1_5 =>
    k54 m_acts m_kept_4 v1_5
noncomputable def f_X12_keep_54 (m_now : Nat → Int32) : Nat → Int32 → (Nat → Int32) → Int32 → Option (Int32 × (Nat → Int32))
  | 0, _, _, _ => none
  | n + 1, m_acts, m_kept, v1 => b_X12_keep_54 m_now (f_X12_keep_54 m_now n) m_acts m_kept v1
noncomputable def b_X12_keep_52 (m_now : Nat → Int32) (m_acts : Int32) (m_kept : Nat → Int32) : Option (Int32 × (Nat → Int32)) :=
  f_X12_keep_54 m_now fu m_acts m_kept (0 : Int32)
noncomputable def b_X12_keep_13 (m_now : Nat → Int32) (k13 : Int32 → (Nat → Int32) → Int32 → Option (Int32 × (Nat → Int32))) (m_acts : Int32) (m_kept : Nat → Int32) (v1 : Int32) : Option (Int32 × (Nat → Int32)) :=
  if (10000 : Int32) ≤ v1 then
    bnd (m_acts - (1 : Int32)) fun acts_1 =>
    b_X12_keep_52 m_now acts_1 m_kept
  else
    gd (inB v1 10000) <|
    gd (inB (v1 - (250 : Int32)) 10000) <|
    bnd (upd m_kept (v1 - (250 : Int32)).toNatClampNeg (m_kept v1.toNatClampNeg)) fun m_kept_4 =>
    bnd (v1 + (1 : Int32)) fun v1_5 =>
    k13 m_acts m_kept_4 v1_5
noncomputable def f_X12_keep_13 (m_now : Nat → Int32) : Nat → Int32 → (Nat → Int32) → Int32 → Option (Int32 × (Nat → Int32))
  | 0, _, _, _ => none
  | n + 1, m_acts, m_kept, v1 => b_X12_keep_13 m_now (f_X12_keep_13 m_now n) m_acts m_kept v1
noncomputable def b_X12_keep_0 (m_now : Nat → Int32) (m_acts : Int32) (m_kept : Nat → Int32) : Option (Int32 × (Nat → Int32)) :=
  if m_acts = (40 : Int32) then
    f_X12_keep_13 m_now fu m_acts m_kept (250 : Int32)
  else
    b_X12_keep_52 m_now m_acts m_kept
noncomputable def f_X12_keep (m_now : Nat → Int32) (m_acts : Int32) (m_kept : Nat → Int32) : Option (Int32 × (Nat → Int32)) := b_X12_keep_0 m_now m_acts m_kept
noncomputable def b_X12_isRefused_15 (m_refused : Nat → Int32) (v1 : Int32) : Option (Int32 × (Nat → Int32)) :=
  if v1 = (-1 : Int32) then
    some ((0 : Int32), m_refused)
  else
    some ((1 : Int32), m_refused)
noncomputable def b_X12_isRefused_0 (m_refused : Nat → Int32) (v1 : Int32) : Option (Int32 × (Nat → Int32)) :=
  if v1 = (-1 : Int32) then
    b_X12_isRefused_15 m_refused v1
  else
    gd (inB v1 5) <|
    gd (inB v1 5) <|
    bnd (upd m_refused v1.toNatClampNeg ((m_refused v1.toNatClampNeg) + (1 : Int32))) fun m_refused_3 =>
    b_X12_isRefused_15 m_refused_3 v1
noncomputable def f_X12_isRefused (m_refused : Nat → Int32) (p1 : Int32) : Option (Int32 × (Nat → Int32)) := b_X12_isRefused_0  m_refused p1
noncomputable def b_X12_meets_70 (m_gloves : Int32) (m_matters : Int32) (m_holding : Int32) (m_code : Nat → Int32) (m_value : Nat → Int32) (m_clauses : Nat → Int32) (m_testFrom : Nat → Int32) (m_sumFrom : Nat → Int32) (m_sumTo : Nat → Int32) (m_glove : Nat → Int32) (m_matter : Nat → Int32) (m_acts : Int32) (m_letters : Nat → Int32) (m_stack : Nat → Int32) (m_now : Nat → Int32) (m_refused : Nat → Int32) (m_kept : Nat → Int32) (v1 : Int32) (v2 : Int32) (t1 : Int32) : Option (Int32 × Int32 × (Nat → Int32) × (Nat → Int32) × (Nat → Int32) × (Nat → Int32) × (Nat → Int32)) :=
  ob2 (f_X12_isRefused m_refused t1) fun r_1 m_refused_2 =>
  if r_1 = (0 : Int32) then
    ob2 (f_X12_keep m_now m_acts m_kept) fun m_acts_4 m_kept_5 =>
    gd (inB (67 : Int32) 250) <|
    gd (inB (67 : Int32) 250) <|
    bnd (upd m_now (67 : Int32).toNatClampNeg ((m_now (67 : Int32).toNatClampNeg) - (1 : Int32))) fun m_now_9 =>
    ob3 (f_X12_meetNow m_matters m_holding m_code m_value m_clauses m_testFrom m_sumFrom m_sumTo m_glove m_matter m_letters m_stack m_now_9 v1 v2) fun m_letters_10 m_stack_11 m_now_12 =>
    ob1 (f_X12_pairAt v1 v2) fun r_14 =>
    gd (inB r_14 250) <|
    some ((m_now_12 r_14.toNatClampNeg), m_acts_4, m_letters_10, m_stack_11, m_now_12, m_refused_2, m_kept_5)
  else
    some ((-1 : Int32), m_acts, m_letters, m_stack, m_now, m_refused_2, m_kept)
noncomputable def b_X12_meets_17 (m_gloves : Int32) (m_matters : Int32) (m_holding : Int32) (m_code : Nat → Int32) (m_value : Nat → Int32) (m_clauses : Nat → Int32) (m_testFrom : Nat → Int32) (m_sumFrom : Nat → Int32) (m_sumTo : Nat → Int32) (m_glove : Nat → Int32) (m_matter : Nat → Int32) (m_acts : Int32) (m_letters : Nat → Int32) (m_stack : Nat → Int32) (m_now : Nat → Int32) (m_refused : Nat → Int32) (m_kept : Nat → Int32) (v1 : Int32) (v2 : Int32) : Option (Int32 × Int32 × (Nat → Int32) × (Nat → Int32) × (Nat → Int32) × (Nat → Int32) × (Nat → Int32)) :=
  b_X12_meets_70 m_gloves m_matters m_holding m_code m_value m_clauses m_testFrom m_sumFrom m_sumTo m_glove m_matter m_acts m_letters m_stack m_now m_refused m_kept v1 v2 (0 : Int32)
noncomputable def b_X12_meets_50 (m_gloves : Int32) (m_matters : Int32) (m_holding : Int32) (m_code : Nat → Int32) (m_value : Nat → Int32) (m_clauses : Nat → Int32) (m_testFrom : Nat → Int32) (m_sumFrom : Nat → Int32) (m_sumTo : Nat → Int32) (m_glove : Nat → Int32) (m_matter : Nat → Int32) (m_acts : Int32) (m_letters : Nat → Int32) (m_stack : Nat → Int32) (m_now : Nat → Int32) (m_refused : Nat → Int32) (m_kept : Nat → Int32) (v1 : Int32) (v2 : Int32) : Option (Int32 × Int32 × (Nat → Int32) × (Nat → Int32) × (Nat → Int32) × (Nat → Int32) × (Nat → Int32)) :=
  b_X12_meets_70 m_gloves m_matters m_holding m_code m_value m_clauses m_testFrom m_sumFrom m_sumTo m_glove m_matter m_acts m_letters m_stack m_now m_refused m_kept v1 v2 (2 : Int32)
noncomputable def b_X12_meets_0 (m_gloves : Int32) (m_matters : Int32) (m_holding : Int32) (m_code : Nat → Int32) (m_value : Nat → Int32) (m_clauses : Nat → Int32) (m_testFrom : Nat → Int32) (m_sumFrom : Nat → Int32) (m_sumTo : Nat → Int32) (m_glove : Nat → Int32) (m_matter : Nat → Int32) (m_acts : Int32) (m_letters : Nat → Int32) (m_stack : Nat → Int32) (m_now : Nat → Int32) (m_refused : Nat → Int32) (m_kept : Nat → Int32) (v1 : Int32) (v2 : Int32) : Option (Int32 × Int32 × (Nat → Int32) × (Nat → Int32) × (Nat → Int32) × (Nat → Int32) × (Nat → Int32)) :=
  ob1 (f_X12_isGlove m_gloves v1) fun r_1 =>
  if r_1 = (0 : Int32) then
    b_X12_meets_17 m_gloves m_matters m_holding m_code m_value m_clauses m_testFrom m_sumFrom m_sumTo m_glove m_matter m_acts m_letters m_stack m_now m_refused m_kept v1 v2
  else
    ob1 (f_X12_isGlove m_gloves v2) fun r_3 =>
    if r_3 = (0 : Int32) then
      b_X12_meets_17 m_gloves m_matters m_holding m_code m_value m_clauses m_testFrom m_sumFrom m_sumTo m_glove m_matter m_acts m_letters m_stack m_now m_refused m_kept v1 v2
    else
      ob1 (f_X12_areTwo m_gloves m_glove v1 v2) fun r_5 =>
      if r_5 = (0 : Int32) then
        b_X12_meets_70 m_gloves m_matters m_holding m_code m_value m_clauses m_testFrom m_sumFrom m_sumTo m_glove m_matter m_acts m_letters m_stack m_now m_refused m_kept v1 v2 (1 : Int32)
      else
        ob1 (f_X12_isFree m_now v1) fun r_7 =>
        if r_7 = (0 : Int32) then
          b_X12_meets_50 m_gloves m_matters m_holding m_code m_value m_clauses m_testFrom m_sumFrom m_sumTo m_glove m_matter m_acts m_letters m_stack m_now m_refused m_kept v1 v2
        else
          ob1 (f_X12_isFree m_now v2) fun r_9 =>
          if r_9 = (0 : Int32) then
            b_X12_meets_50 m_gloves m_matters m_holding m_code m_value m_clauses m_testFrom m_sumFrom m_sumTo m_glove m_matter m_acts m_letters m_stack m_now m_refused m_kept v1 v2
          else
            gd (inB (67 : Int32) 250) <|
            if (1 : Int32) ≤ (m_now (67 : Int32).toNatClampNeg) then
              b_X12_meets_70 m_gloves m_matters m_holding m_code m_value m_clauses m_testFrom m_sumFrom m_sumTo m_glove m_matter m_acts m_letters m_stack m_now m_refused m_kept v1 v2 (-1 : Int32)
            else
              b_X12_meets_70 m_gloves m_matters m_holding m_code m_value m_clauses m_testFrom m_sumFrom m_sumTo m_glove m_matter m_acts m_letters m_stack m_now m_refused m_kept v1 v2 (3 : Int32)
noncomputable def f_X12_meets (m_gloves : Int32) (m_matters : Int32) (m_holding : Int32) (m_code : Nat → Int32) (m_value : Nat → Int32) (m_clauses : Nat → Int32) (m_testFrom : Nat → Int32) (m_sumFrom : Nat → Int32) (m_sumTo : Nat → Int32) (m_glove : Nat → Int32) (m_matter : Nat → Int32) (m_acts : Int32) (m_letters : Nat → Int32) (m_stack : Nat → Int32) (m_now : Nat → Int32) (m_refused : Nat → Int32) (m_kept : Nat → Int32) (p1 : Int32) (p2 : Int32) : Option (Int32 × Int32 × (Nat → Int32) × (Nat → Int32) × (Nat → Int32) × (Nat → Int32) × (Nat → Int32)) := b_X12_meets_0 m_gloves m_matters m_holding m_code m_value m_clauses m_testFrom m_sumFrom m_sumTo m_glove m_matter m_acts m_letters m_stack m_now m_refused m_kept p1 p2
noncomputable def b_X12_loosen_47 (m_gloves : Int32) (m_acts : Int32) (m_now : Nat → Int32) (m_refused : Nat → Int32) (m_kept : Nat → Int32) (v1 : Int32) (t1 : Int32) : Option (Int32 × Int32 × (Nat → Int32) × (Nat → Int32) × (Nat → Int32)) :=
  ob2 (f_X12_isRefused m_refused t1) fun r_1 m_refused_2 =>
  if r_1 = (0 : Int32) then
    ob2 (f_X12_keep m_now m_acts m_kept) fun m_acts_4 m_kept_5 =>
    bnd ((36 : Int32) + v1) fun n_7 =>
    gd (inB n_7 250) <|
    gd (inB n_7 250) <|
    bnd (upd m_now n_7.toNatClampNeg ((m_now n_7.toNatClampNeg) + (1 : Int32))) fun m_now_10 =>
    gd (inB (67 : Int32) 250) <|
    gd (inB (67 : Int32) 250) <|
    bnd (upd m_now_10 (67 : Int32).toNatClampNeg ((m_now_10 (67 : Int32).toNatClampNeg) - (3 : Int32))) fun m_now_13 =>
    gd (inB ((36 : Int32) + v1) 250) <|
    some ((m_now_13 ((36 : Int32) + v1).toNatClampNeg), m_acts_4, m_now_13, m_refused_2, m_kept_5)
  else
    some ((-1 : Int32), m_acts, m_now, m_refused_2, m_kept)
noncomputable def b_X12_loosen_0 (m_gloves : Int32) (m_acts : Int32) (m_now : Nat → Int32) (m_refused : Nat → Int32) (m_kept : Nat → Int32) (v1 : Int32) : Option (Int32 × Int32 × (Nat → Int32) × (Nat → Int32) × (Nat → Int32)) :=
  ob1 (f_X12_isGlove m_gloves v1) fun r_1 =>
  if r_1 = (0 : Int32) then
    b_X12_loosen_47 m_gloves m_acts m_now m_refused m_kept v1 (0 : Int32)
  else
    gd (inB ((36 : Int32) + v1) 250) <|
    if (m_now ((36 : Int32) + v1).toNatClampNeg) = (9 : Int32) then
      b_X12_loosen_47 m_gloves m_acts m_now m_refused m_kept v1 (2 : Int32)
    else
      gd (inB (67 : Int32) 250) <|
      if (3 : Int32) ≤ (m_now (67 : Int32).toNatClampNeg) then
        b_X12_loosen_47 m_gloves m_acts m_now m_refused m_kept v1 (-1 : Int32)
      else
        b_X12_loosen_47 m_gloves m_acts m_now m_refused m_kept v1 (3 : Int32)
noncomputable def f_X12_loosen (m_gloves : Int32) (m_acts : Int32) (m_now : Nat → Int32) (m_refused : Nat → Int32) (m_kept : Nat → Int32) (p1 : Int32) : Option (Int32 × Int32 × (Nat → Int32) × (Nat → Int32) × (Nat → Int32)) := b_X12_loosen_0 m_gloves m_acts m_now m_refused m_kept p1
noncomputable def b_X12_stuff_60 (m_gloves : Int32) (m_acts : Int32) (m_now : Nat → Int32) (m_refused : Nat → Int32) (m_kept : Nat → Int32) (v1 : Int32) (v2 : Int32) (t1 : Int32) : Option (Int32 × Int32 × (Nat → Int32) × (Nat → Int32) × (Nat → Int32)) :=
  ob2 (f_X12_isRefused m_refused t1) fun r_1 m_refused_2 =>
  if r_1 = (0 : Int32) then
    ob2 (f_X12_keep m_now m_acts m_kept) fun m_acts_4 m_kept_5 =>
    gd (inB ((42 : Int32) + v1) 250) <|
    bnd (m_now ((42 : Int32) + v1).toNatClampNeg) fun v3_8 =>
    gd (inB ((42 : Int32) + v1) 250) <|
    bnd (upd m_now ((42 : Int32) + v1).toNatClampNeg v2) fun m_now_10 =>
    gd (inB (67 : Int32) 250) <|
    gd (inB (67 : Int32) 250) <|
    bnd (upd m_now_10 (67 : Int32).toNatClampNeg ((m_now_10 (67 : Int32).toNatClampNeg) - (2 : Int32))) fun m_now_13 =>
    some (v3_8, m_acts_4, m_now_13, m_refused_2, m_kept_5)
  else
    some ((-1 : Int32), m_acts, m_now, m_refused_2, m_kept)
noncomputable def b_X12_stuff_0 (m_gloves : Int32) (m_acts : Int32) (m_now : Nat → Int32) (m_refused : Nat → Int32) (m_kept : Nat → Int32) (v1 : Int32) (v2 : Int32) : Option (Int32 × Int32 × (Nat → Int32) × (Nat → Int32) × (Nat → Int32)) :=
  ob1 (f_X12_isGlove m_gloves v1) fun r_1 =>
  if r_1 = (0 : Int32) then
    b_X12_stuff_60 m_gloves m_acts m_now m_refused m_kept v1 v2 (0 : Int32)
  else
    ob1 (f_X12_in v2 (0 : Int32) (9 : Int32)) fun r_3 =>
    if r_3 = (0 : Int32) then
      b_X12_stuff_60 m_gloves m_acts m_now m_refused m_kept v1 v2 (1 : Int32)
    else
      gd (inB ((42 : Int32) + v1) 250) <|
      if (m_now ((42 : Int32) + v1).toNatClampNeg) = v2 then
        b_X12_stuff_60 m_gloves m_acts m_now m_refused m_kept v1 v2 (2 : Int32)
      else
        gd (inB (67 : Int32) 250) <|
        if (2 : Int32) ≤ (m_now (67 : Int32).toNatClampNeg) then
          b_X12_stuff_60 m_gloves m_acts m_now m_refused m_kept v1 v2 (-1 : Int32)
        else
          b_X12_stuff_60 m_gloves m_acts m_now m_refused m_kept v1 v2 (3 : Int32)
noncomputable def f_X12_stuff (m_gloves : Int32) (m_acts : Int32) (m_now : Nat → Int32) (m_refused : Nat → Int32) (m_kept : Nat → Int32) (p1 : Int32) (p2 : Int32) : Option (Int32 × Int32 × (Nat → Int32) × (Nat → Int32) × (Nat → Int32)) := b_X12_stuff_0 m_gloves m_acts m_now m_refused m_kept p1 p2
noncomputable def b_X12_swallow_42 (m_gloves : Int32) (m_acts : Int32) (m_now : Nat → Int32) (m_refused : Nat → Int32) (m_kept : Nat → Int32) (t1 : Int32) : Option (Int32 × Int32 × (Nat → Int32) × (Nat → Int32) × (Nat → Int32)) :=
  ob2 (f_X12_isRefused m_refused t1) fun r_1 m_refused_2 =>
  if r_1 = (0 : Int32) then
    ob2 (f_X12_keep m_now m_acts m_kept) fun m_acts_4 m_kept_5 =>
    gd (inB (66 : Int32) 250) <|
    gd (inB (66 : Int32) 250) <|
    bnd (upd m_now (66 : Int32).toNatClampNeg ((m_now (66 : Int32).toNatClampNeg) - (1 : Int32))) fun m_now_9 =>
    gd (inB (67 : Int32) 250) <|
    gd (inB (67 : Int32) 250) <|
    bnd (upd m_now_9 (67 : Int32).toNatClampNeg ((m_now_9 (67 : Int32).toNatClampNeg) - (4 : Int32))) fun m_now_12 =>
    gd (inB (66 : Int32) 250) <|
    some ((m_now_12 (66 : Int32).toNatClampNeg), m_acts_4, m_now_12, m_refused_2, m_kept_5)
  else
    some ((-1 : Int32), m_acts, m_now, m_refused_2, m_kept)
noncomputable def b_X12_swallow_0 (m_gloves : Int32) (m_acts : Int32) (m_now : Nat → Int32) (m_refused : Nat → Int32) (m_kept : Nat → Int32) : Option (Int32 × Int32 × (Nat → Int32) × (Nat → Int32) × (Nat → Int32)) :=
  if m_gloves = (0 : Int32) then
    b_X12_swallow_42 m_gloves m_acts m_now m_refused m_kept (0 : Int32)
  else
    gd (inB (66 : Int32) 250) <|
    if (m_now (66 : Int32).toNatClampNeg) = (0 : Int32) then
      b_X12_swallow_42 m_gloves m_acts m_now m_refused m_kept (2 : Int32)
    else
      gd (inB (67 : Int32) 250) <|
      if (4 : Int32) ≤ (m_now (67 : Int32).toNatClampNeg) then
        b_X12_swallow_42 m_gloves m_acts m_now m_refused m_kept (-1 : Int32)
      else
        b_X12_swallow_42 m_gloves m_acts m_now m_refused m_kept (3 : Int32)
noncomputable def f_X12_swallow (m_gloves : Int32) (m_acts : Int32) (m_now : Nat → Int32) (m_refused : Nat → Int32) (m_kept : Nat → Int32) : Option (Int32 × Int32 × (Nat → Int32) × (Nat → Int32) × (Nat → Int32)) := b_X12_swallow_0 m_gloves m_acts m_now m_refused m_kept
noncomputable def b_X12_tear_31 (m_matters : Int32) (m_acts : Int32) (m_now : Nat → Int32) (m_refused : Nat → Int32) (m_kept : Nat → Int32) (v1 : Int32) (t1 : Int32) : Option (Int32 × Int32 × (Nat → Int32) × (Nat → Int32) × (Nat → Int32)) :=
  ob2 (f_X12_isRefused m_refused t1) fun r_1 m_refused_2 =>
  if r_1 = (0 : Int32) then
    ob2 (f_X12_keep m_now m_acts m_kept) fun m_acts_4 m_kept_5 =>
    gd (inB ((60 : Int32) + v1) 250) <|
    bnd (upd m_now ((60 : Int32) + v1).toNatClampNeg (-1 : Int32)) fun m_now_8 =>
    gd (inB (66 : Int32) 250) <|
    bnd (mn (9 : Int32) ((m_now_8 (66 : Int32).toNatClampNeg) + (1 : Int32))) fun n_10 =>
    gd (inB (66 : Int32) 250) <|
    bnd (upd m_now_8 (66 : Int32).toNatClampNeg n_10) fun m_now_12 =>
    gd (inB (66 : Int32) 250) <|
    some ((m_now_12 (66 : Int32).toNatClampNeg), m_acts_4, m_now_12, m_refused_2, m_kept_5)
  else
    some ((-1 : Int32), m_acts, m_now, m_refused_2, m_kept)
noncomputable def b_X12_tear_0 (m_matters : Int32) (m_acts : Int32) (m_now : Nat → Int32) (m_refused : Nat → Int32) (m_kept : Nat → Int32) (v1 : Int32) : Option (Int32 × Int32 × (Nat → Int32) × (Nat → Int32) × (Nat → Int32)) :=
  ob1 (f_X12_isMatter m_matters v1) fun r_1 =>
  if r_1 = (0 : Int32) then
    b_X12_tear_31 m_matters m_acts m_now m_refused m_kept v1 (0 : Int32)
  else
    gd (inB ((60 : Int32) + v1) 250) <|
    if (m_now ((60 : Int32) + v1).toNatClampNeg) = (-1 : Int32) then
      b_X12_tear_31 m_matters m_acts m_now m_refused m_kept v1 (2 : Int32)
    else
      b_X12_tear_31 m_matters m_acts m_now m_refused m_kept v1 (-1 : Int32)
noncomputable def f_X12_tear (m_matters : Int32) (m_acts : Int32) (m_now : Nat → Int32) (m_refused : Nat → Int32) (m_kept : Nat → Int32) (p1 : Int32) : Option (Int32 × Int32 × (Nat → Int32) × (Nat → Int32) × (Nat → Int32)) := b_X12_tear_0 m_matters m_acts m_now m_refused m_kept p1
noncomputable def b_X12_give_42 (m_gloves : Int32) (m_acts : Int32) (m_now : Nat → Int32) (m_refused : Nat → Int32) (m_kept : Nat → Int32) (v1 : Int32) (t1 : Int32) : Option (Int32 × Int32 × (Nat → Int32) × (Nat → Int32) × (Nat → Int32)) :=
  ob2 (f_X12_isRefused m_refused t1) fun r_1 m_refused_2 =>
  if r_1 = (0 : Int32) then
    ob2 (f_X12_keep m_now m_acts m_kept) fun m_acts_4 m_kept_5 =>
    gd (inB (67 : Int32) 250) <|
    gd (inB (67 : Int32) 250) <|
    bnd (upd m_now (67 : Int32).toNatClampNeg ((m_now (67 : Int32).toNatClampNeg) + v1)) fun m_now_9 =>
    gd (inB (67 : Int32) 250) <|
    some ((m_now_9 (67 : Int32).toNatClampNeg), m_acts_4, m_now_9, m_refused_2, m_kept_5)
  else
    some ((-1 : Int32), m_acts, m_now, m_refused_2, m_kept)
noncomputable def b_X12_give_37 (m_gloves : Int32) (m_acts : Int32) (m_now : Nat → Int32) (m_refused : Nat → Int32) (m_kept : Nat → Int32) (v1 : Int32) : Option (Int32 × Int32 × (Nat → Int32) × (Nat → Int32) × (Nat → Int32)) :=
  b_X12_give_42 m_gloves m_acts m_now m_refused m_kept v1 (1 : Int32)
noncomputable def b_X12_give_0 (m_gloves : Int32) (m_acts : Int32) (m_now : Nat → Int32) (m_refused : Nat → Int32) (m_kept : Nat → Int32) (v1 : Int32) : Option (Int32 × Int32 × (Nat → Int32) × (Nat → Int32) × (Nat → Int32)) :=
  if m_gloves = (0 : Int32) then
    b_X12_give_42 m_gloves m_acts m_now m_refused m_kept v1 (0 : Int32)
  else
    ob1 (f_X12_in v1 (1 : Int32) (50 : Int32)) fun r_1 =>
    if r_1 = (0 : Int32) then
      b_X12_give_37 m_gloves m_acts m_now m_refused m_kept v1
    else
      gd (inB (67 : Int32) 250) <|
      if ((m_now (67 : Int32).toNatClampNeg) + v1) ≤ (999 : Int32) then
        b_X12_give_42 m_gloves m_acts m_now m_refused m_kept v1 (-1 : Int32)
      else
        b_X12_give_37 m_gloves m_acts m_now m_refused m_kept v1
noncomputable def f_X12_give (m_gloves : Int32) (m_acts : Int32) (m_now : Nat → Int32) (m_refused : Nat → Int32) (m_kept : Nat → Int32) (p1 : Int32) : Option (Int32 × Int32 × (Nat → Int32) × (Nat → Int32) × (Nat → Int32)) := b_X12_give_0 m_gloves m_acts m_now m_refused m_kept p1
noncomputable def b_X12_areDays_0 (m_now : Nat → Int32) (v1 : Int32) : Option (Int32) :=
  ob1 (f_X12_in v1 (1 : Int32) (60 : Int32)) fun r_1 =>
  if r_1 = (0 : Int32) then
    some (0 : Int32)
  else
    gd (inB (68 : Int32) 250) <|
    if (999 : Int32) < ((m_now (68 : Int32).toNatClampNeg) + v1) then
      some (0 : Int32)
    else
      some (1 : Int32)
noncomputable def f_X12_areDays (m_now : Nat → Int32) (p1 : Int32) : Option (Int32) := b_X12_areDays_0 m_now p1
noncomputable def b_X12_days_49 (m_gloves : Int32) (m_glove : Nat → Int32) (k49 : Int32 → (Nat → Int32) → (Nat → Int32) → (Nat → Int32) → Int32 → Int32 → Option (Int32 × Int32 × (Nat → Int32) × (Nat → Int32) × (Nat → Int32))) (m_acts : Int32) (m_now : Nat → Int32) (m_refused : Nat → Int32) (m_kept : Nat → Int32) (v1 : Int32) (v2 : Int32) : Option (Int32 × Int32 × (Nat → Int32) × (Nat → Int32) × (Nat → Int32)) :=
  if v1 ≤ v2 then
    gd (inB (68 : Int32) 250) <|
    some ((m_now (68 : Int32).toNatClampNeg), m_acts, m_now, m_refused, m_kept)
  else
    ob2 (f_X12_keep m_now m_acts m_kept) fun m_acts_2 m_kept_3 =>
    ob1 (f_X12_passDay m_gloves m_glove m_now) fun m_now_5 =>
    bnd (v2 + (1 : Int32)) fun v2_7 =>
    k49 m_acts_2 m_now_5 m_refused m_kept_3 v1 v2_7
noncomputable def f_X12_days_49 (m_gloves : Int32) (m_glove : Nat → Int32) : Nat → Int32 → (Nat → Int32) → (Nat → Int32) → (Nat → Int32) → Int32 → Int32 → Option (Int32 × Int32 × (Nat → Int32) × (Nat → Int32) × (Nat → Int32))
  | 0, _, _, _, _, _, _ => none
  | n + 1, m_acts, m_now, m_refused, m_kept, v1, v2 => b_X12_days_49 m_gloves m_glove (f_X12_days_49 m_gloves m_glove n) m_acts m_now m_refused m_kept v1 v2
noncomputable def b_X12_days_39 (m_gloves : Int32) (m_glove : Nat → Int32) (m_acts : Int32) (m_now : Nat → Int32) (m_refused : Nat → Int32) (m_kept : Nat → Int32) (v1 : Int32) (t1 : Int32) : Option (Int32 × Int32 × (Nat → Int32) × (Nat → Int32) × (Nat → Int32)) :=
  ob2 (f_X12_isRefused m_refused t1) fun r_1 m_refused_2 =>
  if r_1 = (0 : Int32) then
    f_X12_days_49 m_gloves m_glove fu m_acts m_now m_refused_2 m_kept v1 (0 : Int32)
  else
    some ((-1 : Int32), m_acts, m_now, m_refused_2, m_kept)
noncomputable def b_X12_days_0 (m_gloves : Int32) (m_glove : Nat → Int32) (m_acts : Int32) (m_now : Nat → Int32) (m_refused : Nat → Int32) (m_kept : Nat → Int32) (v1 : Int32) : Option (Int32 × Int32 × (Nat → Int32) × (Nat → Int32) × (Nat → Int32)) :=
  if m_gloves = (0 : Int32) then
    b_X12_days_39 m_gloves m_glove m_acts m_now m_refused m_kept v1 (0 : Int32)
  else
    ob1 (f_X12_in v1 (1 : Int32) (60 : Int32)) fun r_1 =>
    if r_1 = (0 : Int32) then
      b_X12_days_39 m_gloves m_glove m_acts m_now m_refused m_kept v1 (1 : Int32)
    else
      ob1 (f_X12_areDays m_now v1) fun r_3 =>
      if r_3 = (0 : Int32) then
        b_X12_days_39 m_gloves m_glove m_acts m_now m_refused m_kept v1 (4 : Int32)
      else
        b_X12_days_39 m_gloves m_glove m_acts m_now m_refused m_kept v1 (-1 : Int32)
noncomputable def f_X12_days (m_gloves : Int32) (m_glove : Nat → Int32) (m_acts : Int32) (m_now : Nat → Int32) (m_refused : Nat → Int32) (m_kept : Nat → Int32) (p1 : Int32) : Option (Int32 × Int32 × (Nat → Int32) × (Nat → Int32) × (Nat → Int32)) := b_X12_days_0 m_gloves m_glove m_acts m_now m_refused m_kept p1
noncomputable def b_X12_spite_0 (m_spiteful : Int32) (v1 : Int32) : Option (Int32 × Int32) :=
  ob1 (f_X12_in v1 (0 : Int32) (9 : Int32)) fun r_1 =>
  if r_1 = (0 : Int32) then
    some ((0 : Int32), m_spiteful)
  else
    if v1 = m_spiteful then
      some ((0 : Int32), m_spiteful)
    else
      some ((1 : Int32), v1)
noncomputable def f_X12_spite (m_spiteful : Int32) (p1 : Int32) : Option (Int32 × Int32) := b_X12_spite_0  m_spiteful p1
noncomputable def b_X12_draw_0 (m_draws : Int64) (v1 : Int32) : Option (Int32 × Int64) :=
  bnd ((m_draws * (6364136223846793005 : Int64)) + (1442695040888963407 : Int64)) fun n_1 =>
  gd (nzL (v1.toInt64)) <|
  bnd (remL (ushrL n_1 (33 : Int32)) (v1.toInt64)) fun n_3 =>
  some ((n_3.toInt32), n_1)
noncomputable def f_X12_draw (m_draws : Int64) (p1 : Int32) : Option (Int32 × Int64) := b_X12_draw_0  m_draws p1
noncomputable def b_X12_drawDay_56 (m_gloves : Int32) (m_matters : Int32) (m_holding : Int32) (m_spiteful : Int32) (m_code : Nat → Int32) (m_value : Nat → Int32) (m_clauses : Nat → Int32) (m_testFrom : Nat → Int32) (m_sumFrom : Nat → Int32) (m_sumTo : Nat → Int32) (m_glove : Nat → Int32) (m_matter : Nat → Int32) (k2 : Int64 → (Nat → Int32) → (Nat → Int32) → (Nat → Int32) → Int32 → Option (Int64 × (Nat → Int32) × (Nat → Int32) × (Nat → Int32))) (m_draws : Int64) (m_letters : Nat → Int32) (m_stack : Nat → Int32) (m_now : Nat → Int32) (v1 : Int32) : Option (Int64 × (Nat → Int32) × (Nat → Int32) × (Nat → Int32)) :=
  bnd (v1 + (1 : Int32)) fun v1_1 =>
  k2 m_draws m_letters m_stack m_now v1_1
noncomputable def b_X12_drawDay_2 (m_gloves : Int32) (m_matters : Int32) (m_holding : Int32) (m_spiteful : Int32) (m_code : Nat → Int32) (m_value : Nat → Int32) (m_clauses : Nat → Int32) (m_testFrom : Nat → Int32) (m_sumFrom : Nat → Int32) (m_sumTo : Nat → Int32) (m_glove : Nat → Int32) (m_matter : Nat → Int32) (k2 : Int64 → (Nat → Int32) → (Nat → Int32) → (Nat → Int32) → Int32 → Option (Int64 × (Nat → Int32) × (Nat → Int32) × (Nat → Int32))) (m_draws : Int64) (m_letters : Nat → Int32) (m_stack : Nat → Int32) (m_now : Nat → Int32) (v1 : Int32) : Option (Int64 × (Nat → Int32) × (Nat → Int32) × (Nat → Int32)) :=
  if (2 : Int32) ≤ v1 then
    ob2 (f_X12_draw m_draws (10 : Int32)) fun r_1 m_draws_2 =>
    if m_spiteful ≤ r_1 then
      some (m_draws_2, m_letters, m_stack, m_now)
    else
      gd (inB (66 : Int32) 250) <|
      bnd (mn (9 : Int32) ((m_now (66 : Int32).toNatClampNeg) + (1 : Int32))) fun n_5 =>
      gd (inB (66 : Int32) 250) <|
      bnd (upd m_now (66 : Int32).toNatClampNeg n_5) fun m_now_7 =>
      some (m_draws_2, m_letters, m_stack, m_now_7)
  else
    ob2 (f_X12_draw m_draws m_gloves) fun r_8 m_draws_9 =>
    ob2 (f_X12_draw m_draws_9 m_gloves) fun r_11 m_draws_12 =>
    ob1 (f_X12_areTwo m_gloves m_glove r_8 r_11) fun r_14 =>
    if r_14 = (0 : Int32) then
      b_X12_drawDay_56 m_gloves m_matters m_holding m_spiteful m_code m_value m_clauses m_testFrom m_sumFrom m_sumTo m_glove m_matter k2 m_draws_12 m_letters m_stack m_now v1
    else
      ob1 (f_X12_isFree m_now r_8) fun r_16 =>
      if r_16 = (0 : Int32) then
        b_X12_drawDay_56 m_gloves m_matters m_holding m_spiteful m_code m_value m_clauses m_testFrom m_sumFrom m_sumTo m_glove m_matter k2 m_draws_12 m_letters m_stack m_now v1
      else
        ob1 (f_X12_isFree m_now r_11) fun r_18 =>
        if r_18 = (0 : Int32) then
          b_X12_drawDay_56 m_gloves m_matters m_holding m_spiteful m_code m_value m_clauses m_testFrom m_sumFrom m_sumTo m_glove m_matter k2 m_draws_12 m_letters m_stack m_now v1
        else
          ob3 (f_X12_meetNow m_matters m_holding m_code m_value m_clauses m_testFrom m_sumFrom m_sumTo m_glove m_matter m_letters m_stack m_now r_8 r_11) fun m_letters_20 m_stack_21 m_now_22 =>
          b_X12_drawDay_56 m_gloves m_matters m_holding m_spiteful m_code m_value m_clauses m_testFrom m_sumFrom m_sumTo m_glove m_matter k2 m_draws_12 m_letters_20 m_stack_21 m_now_22 v1
noncomputable def f_X12_drawDay_2 (m_gloves : Int32) (m_matters : Int32) (m_holding : Int32) (m_spiteful : Int32) (m_code : Nat → Int32) (m_value : Nat → Int32) (m_clauses : Nat → Int32) (m_testFrom : Nat → Int32) (m_sumFrom : Nat → Int32) (m_sumTo : Nat → Int32) (m_glove : Nat → Int32) (m_matter : Nat → Int32) : Nat → Int64 → (Nat → Int32) → (Nat → Int32) → (Nat → Int32) → Int32 → Option (Int64 × (Nat → Int32) × (Nat → Int32) × (Nat → Int32))
  | 0, _, _, _, _, _ => none
  | n + 1, m_draws, m_letters, m_stack, m_now, v1 => b_X12_drawDay_2 m_gloves m_matters m_holding m_spiteful m_code m_value m_clauses m_testFrom m_sumFrom m_sumTo m_glove m_matter (f_X12_drawDay_2 m_gloves m_matters m_holding m_spiteful m_code m_value m_clauses m_testFrom m_sumFrom m_sumTo m_glove m_matter n) m_draws m_letters m_stack m_now v1
noncomputable def b_X12_drawDay_0 (m_gloves : Int32) (m_matters : Int32) (m_holding : Int32) (m_spiteful : Int32) (m_code : Nat → Int32) (m_value : Nat → Int32) (m_clauses : Nat → Int32) (m_testFrom : Nat → Int32) (m_sumFrom : Nat → Int32) (m_sumTo : Nat → Int32) (m_glove : Nat → Int32) (m_matter : Nat → Int32) (m_draws : Int64) (m_letters : Nat → Int32) (m_stack : Nat → Int32) (m_now : Nat → Int32) : Option (Int64 × (Nat → Int32) × (Nat → Int32) × (Nat → Int32)) :=
  f_X12_drawDay_2 m_gloves m_matters m_holding m_spiteful m_code m_value m_clauses m_testFrom m_sumFrom m_sumTo m_glove m_matter fu m_draws m_letters m_stack m_now (0 : Int32)
noncomputable def f_X12_drawDay (m_gloves : Int32) (m_matters : Int32) (m_holding : Int32) (m_spiteful : Int32) (m_code : Nat → Int32) (m_value : Nat → Int32) (m_clauses : Nat → Int32) (m_testFrom : Nat → Int32) (m_sumFrom : Nat → Int32) (m_sumTo : Nat → Int32) (m_glove : Nat → Int32) (m_matter : Nat → Int32) (m_draws : Int64) (m_letters : Nat → Int32) (m_stack : Nat → Int32) (m_now : Nat → Int32) : Option (Int64 × (Nat → Int32) × (Nat → Int32) × (Nat → Int32)) := b_X12_drawDay_0 m_gloves m_matters m_holding m_spiteful m_code m_value m_clauses m_testFrom m_sumFrom m_sumTo m_glove m_matter m_draws m_letters m_stack m_now
noncomputable def b_X12_years_25 (m_gloves : Int32) (m_matters : Int32) (m_holding : Int32) (m_spiteful : Int32) (m_code : Nat → Int32) (m_value : Nat → Int32) (m_clauses : Nat → Int32) (m_testFrom : Nat → Int32) (m_sumFrom : Nat → Int32) (m_sumTo : Nat → Int32) (m_glove : Nat → Int32) (m_matter : Nat → Int32) (k25 : Int32 → Int64 → (Nat → Int32) → (Nat → Int32) → (Nat → Int32) → (Nat → Int32) → Int32 → Int32 → Option (Int32 × Int32 × Int64 × (Nat → Int32) × (Nat → Int32) × (Nat → Int32) × (Nat → Int32))) (m_acts : Int32) (m_draws : Int64) (m_letters : Nat → Int32) (m_stack : Nat → Int32) (m_now : Nat → Int32) (m_kept : Nat → Int32) (v1 : Int32) (v4 : Int32) : Option (Int32 × Int32 × Int64 × (Nat → Int32) × (Nat → Int32) × (Nat → Int32) × (Nat → Int32)) :=
  if v1 ≤ v4 then
    gd (inB (68 : Int32) 250) <|
    some ((m_now (68 : Int32).toNatClampNeg), m_acts, m_draws, m_letters, m_stack, m_now, m_kept)
  else
    ob2 (f_X12_keep m_now m_acts m_kept) fun m_acts_2 m_kept_3 =>
    ob4 (f_X12_drawDay m_gloves m_matters m_holding m_spiteful m_code m_value m_clauses m_testFrom m_sumFrom m_sumTo m_glove m_matter m_draws m_letters m_stack m_now) fun m_draws_5 m_letters_6 m_stack_7 m_now_8 =>
    ob1 (f_X12_passDay m_gloves m_glove m_now_8) fun m_now_10 =>
    bnd (v4 + (1 : Int32)) fun v4_12 =>
    k25 m_acts_2 m_draws_5 m_letters_6 m_stack_7 m_now_10 m_kept_3 v1 v4_12
noncomputable def f_X12_years_25 (m_gloves : Int32) (m_matters : Int32) (m_holding : Int32) (m_spiteful : Int32) (m_code : Nat → Int32) (m_value : Nat → Int32) (m_clauses : Nat → Int32) (m_testFrom : Nat → Int32) (m_sumFrom : Nat → Int32) (m_sumTo : Nat → Int32) (m_glove : Nat → Int32) (m_matter : Nat → Int32) : Nat → Int32 → Int64 → (Nat → Int32) → (Nat → Int32) → (Nat → Int32) → (Nat → Int32) → Int32 → Int32 → Option (Int32 × Int32 × Int64 × (Nat → Int32) × (Nat → Int32) × (Nat → Int32) × (Nat → Int32))
  | 0, _, _, _, _, _, _, _, _ => none
  | n + 1, m_acts, m_draws, m_letters, m_stack, m_now, m_kept, v1, v4 => b_X12_years_25 m_gloves m_matters m_holding m_spiteful m_code m_value m_clauses m_testFrom m_sumFrom m_sumTo m_glove m_matter (f_X12_years_25 m_gloves m_matters m_holding m_spiteful m_code m_value m_clauses m_testFrom m_sumFrom m_sumTo m_glove m_matter n) m_acts m_draws m_letters m_stack m_now m_kept v1 v4
noncomputable def b_X12_years_0 (m_gloves : Int32) (m_matters : Int32) (m_holding : Int32) (m_spiteful : Int32) (m_code : Nat → Int32) (m_value : Nat → Int32) (m_clauses : Nat → Int32) (m_testFrom : Nat → Int32) (m_sumFrom : Nat → Int32) (m_sumTo : Nat → Int32) (m_glove : Nat → Int32) (m_matter : Nat → Int32) (m_acts : Int32) (m_draws : Int64) (m_letters : Nat → Int32) (m_stack : Nat → Int32) (m_now : Nat → Int32) (m_kept : Nat → Int32) (v1 : Int32) (v2 : Int64) : Option (Int32 × Int32 × Int64 × (Nat → Int32) × (Nat → Int32) × (Nat → Int32) × (Nat → Int32)) :=
  if m_gloves = (0 : Int32) then
    some ((-1 : Int32), m_acts, m_draws, m_letters, m_stack, m_now, m_kept)
  else
    ob1 (f_X12_areDays m_now v1) fun r_1 =>
    if r_1 = (0 : Int32) then
      some ((-1 : Int32), m_acts, m_draws, m_letters, m_stack, m_now, m_kept)
    else
      f_X12_years_25 m_gloves m_matters m_holding m_spiteful m_code m_value m_clauses m_testFrom m_sumFrom m_sumTo m_glove m_matter fu m_acts v2 m_letters m_stack m_now m_kept v1 (0 : Int32)
noncomputable def f_X12_years (m_gloves : Int32) (m_matters : Int32) (m_holding : Int32) (m_spiteful : Int32) (m_code : Nat → Int32) (m_value : Nat → Int32) (m_clauses : Nat → Int32) (m_testFrom : Nat → Int32) (m_sumFrom : Nat → Int32) (m_sumTo : Nat → Int32) (m_glove : Nat → Int32) (m_matter : Nat → Int32) (m_acts : Int32) (m_draws : Int64) (m_letters : Nat → Int32) (m_stack : Nat → Int32) (m_now : Nat → Int32) (m_kept : Nat → Int32) (p1 : Int32) (p2 : Int64) : Option (Int32 × Int32 × Int64 × (Nat → Int32) × (Nat → Int32) × (Nat → Int32) × (Nat → Int32)) := b_X12_years_0 m_gloves m_matters m_holding m_spiteful m_code m_value m_clauses m_testFrom m_sumFrom m_sumTo m_glove m_matter m_acts m_draws m_letters m_stack m_now m_kept p1 p2
noncomputable def b_X12_status_0 (m_refused : Nat → Int32) (v1 : Int32) : Option (Int32) :=
  ob1 (f_X12_in v1 (0 : Int32) (4 : Int32)) fun r_1 =>
  if r_1 = (0 : Int32) then
    some (-1 : Int32)
  else
    gd (inB v1 5) <|
    some (m_refused v1.toNatClampNeg)
noncomputable def f_X12_status (m_refused : Nat → Int32) (p1 : Int32) : Option (Int32) := b_X12_status_0 m_refused p1
noncomputable def b_X12_undo_21 (m_kept : Nat → Int32) (k21 : Int32 → (Nat → Int32) → Int32 → Option (Int32 × Int32 × (Nat → Int32))) (m_acts : Int32) (m_now : Nat → Int32) (v1 : Int32) : Option (Int32 × Int32 × (Nat → Int32)) :=
  if (250 : Int32) ≤ v1 then
    some (m_acts, m_acts, m_now)
  else
    bnd (((250 : Int32) * m_acts) + v1) fun i_1 =>
    gd (inB i_1 10000) <|
    gd (inB v1 250) <|
    bnd (upd m_now v1.toNatClampNeg (m_kept i_1.toNatClampNeg)) fun m_now_4 =>
    bnd (v1 + (1 : Int32)) fun v1_5 =>
    k21 m_acts m_now_4 v1_5
noncomputable def f_X12_undo_21 (m_kept : Nat → Int32) : Nat → Int32 → (Nat → Int32) → Int32 → Option (Int32 × Int32 × (Nat → Int32))
  | 0, _, _, _ => none
  | n + 1, m_acts, m_now, v1 => b_X12_undo_21 m_kept (f_X12_undo_21 m_kept n) m_acts m_now v1
noncomputable def b_X12_undo_0 (m_kept : Nat → Int32) (m_acts : Int32) (m_now : Nat → Int32) : Option (Int32 × Int32 × (Nat → Int32)) :=
  if m_acts = (0 : Int32) then
    some ((-1 : Int32), m_acts, m_now)
  else
    bnd (m_acts - (1 : Int32)) fun acts_1 =>
    f_X12_undo_21 m_kept fu acts_1 m_now (0 : Int32)
noncomputable def f_X12_undo (m_kept : Nat → Int32) (m_acts : Int32) (m_now : Nat → Int32) : Option (Int32 × Int32 × (Nat → Int32)) := b_X12_undo_0 m_kept m_acts m_now
noncomputable def b_X12_log_0 (m_now : Nat → Int32) (v1 : Int32) (v2 : Int32) : Option (Int32) :=
  gd (inB (69 : Int32) 250) <|
  ob1 (f_X12_in v1 (0 : Int32) ((m_now (69 : Int32).toNatClampNeg) - (1 : Int32))) fun r_2 =>
  if r_2 = (0 : Int32) then
    some (-1 : Int32)
  else
    ob1 (f_X12_in v2 (0 : Int32) (2 : Int32)) fun r_4 =>
    if r_4 = (0 : Int32) then
      some (-1 : Int32)
    else
      gd (inB (69 : Int32) 250) <|
      bnd ((3 : Int32) * (((m_now (69 : Int32).toNatClampNeg) - (1 : Int32)) - v1)) fun n_7 =>
      bnd (((70 : Int32) + n_7) + v2) fun i_8 =>
      gd (inB i_8 250) <|
      some (m_now i_8.toNatClampNeg)
noncomputable def f_X12_log (m_now : Nat → Int32) (p1 : Int32) (p2 : Int32) : Option (Int32) := b_X12_log_0 m_now p1 p2
noncomputable def b_X12_rises_0 (m_gloves : Int32) (m_holding : Int32) (m_code : Nat → Int32) (m_value : Nat → Int32) (m_clauses : Nat → Int32) (m_testFrom : Nat → Int32) (m_sumFrom : Nat → Int32) (m_sumTo : Nat → Int32) (m_glove : Nat → Int32) (m_now : Nat → Int32) (m_letters : Nat → Int32) (m_stack : Nat → Int32) (v1 : Int32) (v2 : Int32) : Option (Int32 × (Nat → Int32) × (Nat → Int32)) :=
  ob1 (f_X12_areTwo m_gloves m_glove v1 v2) fun r_1 =>
  if r_1 = (0 : Int32) then
    some ((-1000000 : Int32), m_letters, m_stack)
  else
    ob3 (f_X12_riseOf m_holding m_code m_value m_clauses m_testFrom m_sumFrom m_sumTo m_glove m_now m_letters m_stack v1 v2) fun r_3 m_letters_4 m_stack_5 =>
    some (r_3, m_letters_4, m_stack_5)
noncomputable def f_X12_rises (m_gloves : Int32) (m_holding : Int32) (m_code : Nat → Int32) (m_value : Nat → Int32) (m_clauses : Nat → Int32) (m_testFrom : Nat → Int32) (m_sumFrom : Nat → Int32) (m_sumTo : Nat → Int32) (m_glove : Nat → Int32) (m_now : Nat → Int32) (m_letters : Nat → Int32) (m_stack : Nat → Int32) (p1 : Int32) (p2 : Int32) : Option (Int32 × (Nat → Int32) × (Nat → Int32)) := b_X12_rises_0 m_gloves m_holding m_code m_value m_clauses m_testFrom m_sumFrom m_sumTo m_glove m_now m_letters m_stack p1 p2
noncomputable def b_X12_later_36 (m_gloves : Int32) (m_holding : Int32) (m_code : Nat → Int32) (m_value : Nat → Int32) (m_clauses : Nat → Int32) (m_testFrom : Nat → Int32) (m_sumFrom : Nat → Int32) (m_sumTo : Nat → Int32) (m_glove : Nat → Int32) (m_now : Nat → Int32) (k36 : (Nat → Int32) → (Nat → Int32) → Int32 → Int32 → Int32 → Int32 → Int32 → Option (Int32 × (Nat → Int32) × (Nat → Int32))) (m_letters : Nat → Int32) (m_stack : Nat → Int32) (v1 : Int32) (v2 : Int32) (v3 : Int32) (v4 : Int32) (v5 : Int32) : Option (Int32 × (Nat → Int32) × (Nat → Int32)) :=
  if v3 ≤ v5 then
    some (v4, m_letters, m_stack)
  else
    gd (inB (68 : Int32) 250) <|
    ob3 (f_X12_riseFrom m_holding m_code m_value m_clauses m_testFrom m_sumFrom m_sumTo m_glove m_now m_letters m_stack v1 v2 v4 ((m_now (68 : Int32).toNatClampNeg) + v5)) fun r_2 m_letters_3 m_stack_4 =>
    ob1 (f_X12_held (v4 + r_2)) fun r_6 =>
    bnd (v5 + (1 : Int32)) fun v5_8 =>
    k36 m_letters_3 m_stack_4 v1 v2 v3 r_6 v5_8
noncomputable def f_X12_later_36 (m_gloves : Int32) (m_holding : Int32) (m_code : Nat → Int32) (m_value : Nat → Int32) (m_clauses : Nat → Int32) (m_testFrom : Nat → Int32) (m_sumFrom : Nat → Int32) (m_sumTo : Nat → Int32) (m_glove : Nat → Int32) (m_now : Nat → Int32) : Nat → (Nat → Int32) → (Nat → Int32) → Int32 → Int32 → Int32 → Int32 → Int32 → Option (Int32 × (Nat → Int32) × (Nat → Int32))
  | 0, _, _, _, _, _, _, _ => none
  | n + 1, m_letters, m_stack, v1, v2, v3, v4, v5 => b_X12_later_36 m_gloves m_holding m_code m_value m_clauses m_testFrom m_sumFrom m_sumTo m_glove m_now (f_X12_later_36 m_gloves m_holding m_code m_value m_clauses m_testFrom m_sumFrom m_sumTo m_glove m_now n) m_letters m_stack v1 v2 v3 v4 v5
noncomputable def b_X12_later_0 (m_gloves : Int32) (m_holding : Int32) (m_code : Nat → Int32) (m_value : Nat → Int32) (m_clauses : Nat → Int32) (m_testFrom : Nat → Int32) (m_sumFrom : Nat → Int32) (m_sumTo : Nat → Int32) (m_glove : Nat → Int32) (m_now : Nat → Int32) (m_letters : Nat → Int32) (m_stack : Nat → Int32) (v1 : Int32) (v2 : Int32) (v3 : Int32) : Option (Int32 × (Nat → Int32) × (Nat → Int32)) :=
  ob1 (f_X12_areTwo m_gloves m_glove v1 v2) fun r_1 =>
  if r_1 = (0 : Int32) then
    some ((-1 : Int32), m_letters, m_stack)
  else
    ob1 (f_X12_in v3 (0 : Int32) (60 : Int32)) fun r_3 =>
    if r_3 = (0 : Int32) then
      some ((-1 : Int32), m_letters, m_stack)
    else
      ob1 (f_X12_pairAt v1 v2) fun r_5 =>
      gd (inB r_5 250) <|
      bnd (m_now r_5.toNatClampNeg) fun v4_8 =>
      f_X12_later_36 m_gloves m_holding m_code m_value m_clauses m_testFrom m_sumFrom m_sumTo m_glove m_now fu m_letters m_stack v1 v2 v3 v4_8 (0 : Int32)
noncomputable def f_X12_later (m_gloves : Int32) (m_holding : Int32) (m_code : Nat → Int32) (m_value : Nat → Int32) (m_clauses : Nat → Int32) (m_testFrom : Nat → Int32) (m_sumFrom : Nat → Int32) (m_sumTo : Nat → Int32) (m_glove : Nat → Int32) (m_now : Nat → Int32) (m_letters : Nat → Int32) (m_stack : Nat → Int32) (p1 : Int32) (p2 : Int32) (p3 : Int32) : Option (Int32 × (Nat → Int32) × (Nat → Int32)) := b_X12_later_0 m_gloves m_holding m_code m_value m_clauses m_testFrom m_sumFrom m_sumTo m_glove m_now m_letters m_stack p1 p2 p3
noncomputable def b_X12_daysTo_60 (m_holding : Int32) (m_code : Nat → Int32) (m_value : Nat → Int32) (m_clauses : Nat → Int32) (m_testFrom : Nat → Int32) (m_sumFrom : Nat → Int32) (m_sumTo : Nat → Int32) (m_glove : Nat → Int32) (m_now : Nat → Int32) (m_letters : Nat → Int32) (m_stack : Nat → Int32) (v3 : Int32) (v4 : Int32) (v5 : Int32) : Option (Int32 × (Nat → Int32) × (Nat → Int32)) :=
  if v4 < v3 then
    some ((-1 : Int32), m_letters, m_stack)
  else
    some (v5, m_letters, m_stack)
noncomputable def b_X12_daysTo_15 (m_holding : Int32) (m_code : Nat → Int32) (m_value : Nat → Int32) (m_clauses : Nat → Int32) (m_testFrom : Nat → Int32) (m_sumFrom : Nat → Int32) (m_sumTo : Nat → Int32) (m_glove : Nat → Int32) (m_now : Nat → Int32) (k15 : (Nat → Int32) → (Nat → Int32) → Int32 → Int32 → Int32 → Int32 → Int32 → Option (Int32 × (Nat → Int32) × (Nat → Int32))) (m_letters : Nat → Int32) (m_stack : Nat → Int32) (v1 : Int32) (v2 : Int32) (v3 : Int32) (v4 : Int32) (v5 : Int32) : Option (Int32 × (Nat → Int32) × (Nat → Int32)) :=
  if v3 ≤ v4 then
    b_X12_daysTo_60 m_holding m_code m_value m_clauses m_testFrom m_sumFrom m_sumTo m_glove m_now m_letters m_stack v3 v4 v5
  else
    if (60 : Int32) ≤ v5 then
      b_X12_daysTo_60 m_holding m_code m_value m_clauses m_testFrom m_sumFrom m_sumTo m_glove m_now m_letters m_stack v3 v4 v5
    else
      gd (inB (68 : Int32) 250) <|
      ob3 (f_X12_riseFrom m_holding m_code m_value m_clauses m_testFrom m_sumFrom m_sumTo m_glove m_now m_letters m_stack v1 v2 v4 ((m_now (68 : Int32).toNatClampNeg) + v5)) fun r_2 m_letters_3 m_stack_4 =>
      ob1 (f_X12_held (v4 + r_2)) fun r_6 =>
      bnd (v5 + (1 : Int32)) fun v5_8 =>
      k15 m_letters_3 m_stack_4 v1 v2 v3 r_6 v5_8
noncomputable def f_X12_daysTo_15 (m_holding : Int32) (m_code : Nat → Int32) (m_value : Nat → Int32) (m_clauses : Nat → Int32) (m_testFrom : Nat → Int32) (m_sumFrom : Nat → Int32) (m_sumTo : Nat → Int32) (m_glove : Nat → Int32) (m_now : Nat → Int32) : Nat → (Nat → Int32) → (Nat → Int32) → Int32 → Int32 → Int32 → Int32 → Int32 → Option (Int32 × (Nat → Int32) × (Nat → Int32))
  | 0, _, _, _, _, _, _, _ => none
  | n + 1, m_letters, m_stack, v1, v2, v3, v4, v5 => b_X12_daysTo_15 m_holding m_code m_value m_clauses m_testFrom m_sumFrom m_sumTo m_glove m_now (f_X12_daysTo_15 m_holding m_code m_value m_clauses m_testFrom m_sumFrom m_sumTo m_glove m_now n) m_letters m_stack v1 v2 v3 v4 v5
noncomputable def b_X12_daysTo_0 (m_holding : Int32) (m_code : Nat → Int32) (m_value : Nat → Int32) (m_clauses : Nat → Int32) (m_testFrom : Nat → Int32) (m_sumFrom : Nat → Int32) (m_sumTo : Nat → Int32) (m_glove : Nat → Int32) (m_now : Nat → Int32) (m_letters : Nat → Int32) (m_stack : Nat → Int32) (v1 : Int32) (v2 : Int32) (v3 : Int32) : Option (Int32 × (Nat → Int32) × (Nat → Int32)) :=
  ob1 (f_X12_pairAt v1 v2) fun r_1 =>
  gd (inB r_1 250) <|
  bnd (m_now r_1.toNatClampNeg) fun v4_4 =>
  f_X12_daysTo_15 m_holding m_code m_value m_clauses m_testFrom m_sumFrom m_sumTo m_glove m_now fu m_letters m_stack v1 v2 v3 v4_4 (0 : Int32)
noncomputable def f_X12_daysTo (m_holding : Int32) (m_code : Nat → Int32) (m_value : Nat → Int32) (m_clauses : Nat → Int32) (m_testFrom : Nat → Int32) (m_sumFrom : Nat → Int32) (m_sumTo : Nat → Int32) (m_glove : Nat → Int32) (m_now : Nat → Int32) (m_letters : Nat → Int32) (m_stack : Nat → Int32) (p1 : Int32) (p2 : Int32) (p3 : Int32) : Option (Int32 × (Nat → Int32) × (Nat → Int32)) := b_X12_daysTo_0 m_holding m_code m_value m_clauses m_testFrom m_sumFrom m_sumTo m_glove m_now m_letters m_stack p1 p2 p3
noncomputable def b_X12_soonest_116 (m_gloves : Int32) (m_matters : Int32) (m_holding : Int32) (m_code : Nat → Int32) (m_value : Nat → Int32) (m_clauses : Nat → Int32) (m_testFrom : Nat → Int32) (m_sumFrom : Nat → Int32) (m_sumTo : Nat → Int32) (m_glove : Nat → Int32) (m_matter : Nat → Int32) (m_now : Nat → Int32) (k27 : (Nat → Int32) → (Nat → Int32) → Int32 → Int32 → Int32 → Int32 → Int32 → Option (Int32 × (Nat → Int32) × (Nat → Int32))) (k42 : (Nat → Int32) → (Nat → Int32) → Int32 → Int32 → Int32 → Int32 → Int32 → Int32 → Option (Int32 × (Nat → Int32) × (Nat → Int32))) (m_letters : Nat → Int32) (m_stack : Nat → Int32) (v1 : Int32) (v2 : Int32) (v3 : Int32) (v4 : Int32) (v5 : Int32) (v6 : Int32) : Option (Int32 × (Nat → Int32) × (Nat → Int32)) :=
  bnd (v6 + (1 : Int32)) fun v6_1 =>
  k42 m_letters m_stack v1 v2 v3 v4 v5 v6_1
noncomputable def b_X12_soonest_104 (m_gloves : Int32) (m_matters : Int32) (m_holding : Int32) (m_code : Nat → Int32) (m_value : Nat → Int32) (m_clauses : Nat → Int32) (m_testFrom : Nat → Int32) (m_sumFrom : Nat → Int32) (m_sumTo : Nat → Int32) (m_glove : Nat → Int32) (m_matter : Nat → Int32) (m_now : Nat → Int32) (k27 : (Nat → Int32) → (Nat → Int32) → Int32 → Int32 → Int32 → Int32 → Int32 → Option (Int32 × (Nat → Int32) × (Nat → Int32))) (k42 : (Nat → Int32) → (Nat → Int32) → Int32 → Int32 → Int32 → Int32 → Int32 → Int32 → Option (Int32 × (Nat → Int32) × (Nat → Int32))) (m_letters : Nat → Int32) (m_stack : Nat → Int32) (v1 : Int32) (v2 : Int32) (v5 : Int32) (v6 : Int32) (v7 : Int32) : Option (Int32 × (Nat → Int32) × (Nat → Int32)) :=
  ob1 (f_X12_codeOf v5 v6) fun r_1 =>
  b_X12_soonest_116 m_gloves m_matters m_holding m_code m_value m_clauses m_testFrom m_sumFrom m_sumTo m_glove m_matter m_now k27 k42 m_letters m_stack v1 v2 r_1 v7 v5 v6
noncomputable def b_X12_soonest_84 (m_gloves : Int32) (m_matters : Int32) (m_holding : Int32) (m_code : Nat → Int32) (m_value : Nat → Int32) (m_clauses : Nat → Int32) (m_testFrom : Nat → Int32) (m_sumFrom : Nat → Int32) (m_sumTo : Nat → Int32) (m_glove : Nat → Int32) (m_matter : Nat → Int32) (m_now : Nat → Int32) (k27 : (Nat → Int32) → (Nat → Int32) → Int32 → Int32 → Int32 → Int32 → Int32 → Option (Int32 × (Nat → Int32) × (Nat → Int32))) (k42 : (Nat → Int32) → (Nat → Int32) → Int32 → Int32 → Int32 → Int32 → Int32 → Int32 → Option (Int32 × (Nat → Int32) × (Nat → Int32))) (m_letters : Nat → Int32) (m_stack : Nat → Int32) (v1 : Int32) (v2 : Int32) (v3 : Int32) (v4 : Int32) (v5 : Int32) (v6 : Int32) (t0 : Int32) : Option (Int32 × (Nat → Int32) × (Nat → Int32)) :=
  if t0 = (-1 : Int32) then
    b_X12_soonest_116 m_gloves m_matters m_holding m_code m_value m_clauses m_testFrom m_sumFrom m_sumTo m_glove m_matter m_now k27 k42 m_letters m_stack v1 v2 v3 v4 v5 v6
  else
    if v3 = (-1 : Int32) then
      b_X12_soonest_104 m_gloves m_matters m_holding m_code m_value m_clauses m_testFrom m_sumFrom m_sumTo m_glove m_matter m_now k27 k42 m_letters m_stack v1 v2 v5 v6 t0
    else
      if v4 ≤ t0 then
        b_X12_soonest_116 m_gloves m_matters m_holding m_code m_value m_clauses m_testFrom m_sumFrom m_sumTo m_glove m_matter m_now k27 k42 m_letters m_stack v1 v2 v3 v4 v5 v6
      else
        b_X12_soonest_104 m_gloves m_matters m_holding m_code m_value m_clauses m_testFrom m_sumFrom m_sumTo m_glove m_matter m_now k27 k42 m_letters m_stack v1 v2 v5 v6 t0
noncomputable def b_X12_soonest_42 (m_gloves : Int32) (m_matters : Int32) (m_holding : Int32) (m_code : Nat → Int32) (m_value : Nat → Int32) (m_clauses : Nat → Int32) (m_testFrom : Nat → Int32) (m_sumFrom : Nat → Int32) (m_sumTo : Nat → Int32) (m_glove : Nat → Int32) (m_matter : Nat → Int32) (m_now : Nat → Int32) (k27 : (Nat → Int32) → (Nat → Int32) → Int32 → Int32 → Int32 → Int32 → Int32 → Option (Int32 × (Nat → Int32) × (Nat → Int32))) (k42 : (Nat → Int32) → (Nat → Int32) → Int32 → Int32 → Int32 → Int32 → Int32 → Int32 → Option (Int32 × (Nat → Int32) × (Nat → Int32))) (m_letters : Nat → Int32) (m_stack : Nat → Int32) (v1 : Int32) (v2 : Int32) (v3 : Int32) (v4 : Int32) (v5 : Int32) (v6 : Int32) : Option (Int32 × (Nat → Int32) × (Nat → Int32)) :=
  if m_gloves ≤ v6 then
    bnd (v5 + (1 : Int32)) fun v5_1 =>
    k27 m_letters m_stack v1 v2 v3 v4 v5_1
  else
    ob1 (f_X12_areTwo m_gloves m_glove v5 v6) fun r_2 =>
    if r_2 = (0 : Int32) then
      b_X12_soonest_84 m_gloves m_matters m_holding m_code m_value m_clauses m_testFrom m_sumFrom m_sumTo m_glove m_matter m_now k27 k42 m_letters m_stack v1 v2 v3 v4 v5 v6 (-1 : Int32)
    else
      bnd (((2 : Int32) * v1) + (1 : Int32)) fun i_4 =>
      gd (inB i_4 10) <|
      ob3 (f_X12_daysTo m_holding m_code m_value m_clauses m_testFrom m_sumFrom m_sumTo m_glove m_now m_letters m_stack v5 v6 (m_matter i_4.toNatClampNeg)) fun r_6 m_letters_7 m_stack_8 =>
      b_X12_soonest_84 m_gloves m_matters m_holding m_code m_value m_clauses m_testFrom m_sumFrom m_sumTo m_glove m_matter m_now k27 k42 m_letters_7 m_stack_8 v1 v2 v3 v4 v5 v6 r_6
noncomputable def f_X12_soonest_42 (m_gloves : Int32) (m_matters : Int32) (m_holding : Int32) (m_code : Nat → Int32) (m_value : Nat → Int32) (m_clauses : Nat → Int32) (m_testFrom : Nat → Int32) (m_sumFrom : Nat → Int32) (m_sumTo : Nat → Int32) (m_glove : Nat → Int32) (m_matter : Nat → Int32) (m_now : Nat → Int32) (k27 : (Nat → Int32) → (Nat → Int32) → Int32 → Int32 → Int32 → Int32 → Int32 → Option (Int32 × (Nat → Int32) × (Nat → Int32))) : Nat → (Nat → Int32) → (Nat → Int32) → Int32 → Int32 → Int32 → Int32 → Int32 → Int32 → Option (Int32 × (Nat → Int32) × (Nat → Int32))
  | 0, _, _, _, _, _, _, _, _ => none
  | n + 1, m_letters, m_stack, v1, v2, v3, v4, v5, v6 => b_X12_soonest_42 m_gloves m_matters m_holding m_code m_value m_clauses m_testFrom m_sumFrom m_sumTo m_glove m_matter m_now k27 (f_X12_soonest_42 m_gloves m_matters m_holding m_code m_value m_clauses m_testFrom m_sumFrom m_sumTo m_glove m_matter m_now k27 n) m_letters m_stack v1 v2 v3 v4 v5 v6
noncomputable def b_X12_soonest_137 (m_gloves : Int32) (m_matters : Int32) (m_holding : Int32) (m_code : Nat → Int32) (m_value : Nat → Int32) (m_clauses : Nat → Int32) (m_testFrom : Nat → Int32) (m_sumFrom : Nat → Int32) (m_sumTo : Nat → Int32) (m_glove : Nat → Int32) (m_matter : Nat → Int32) (m_now : Nat → Int32) (m_letters : Nat → Int32) (m_stack : Nat → Int32) (v3 : Int32) : Option (Int32 × (Nat → Int32) × (Nat → Int32)) :=
  some (v3, m_letters, m_stack)
noncomputable def b_X12_soonest_27 (m_gloves : Int32) (m_matters : Int32) (m_holding : Int32) (m_code : Nat → Int32) (m_value : Nat → Int32) (m_clauses : Nat → Int32) (m_testFrom : Nat → Int32) (m_sumFrom : Nat → Int32) (m_sumTo : Nat → Int32) (m_glove : Nat → Int32) (m_matter : Nat → Int32) (m_now : Nat → Int32) (k27 : (Nat → Int32) → (Nat → Int32) → Int32 → Int32 → Int32 → Int32 → Int32 → Option (Int32 × (Nat → Int32) × (Nat → Int32))) (m_letters : Nat → Int32) (m_stack : Nat → Int32) (v1 : Int32) (v2 : Int32) (v3 : Int32) (v4 : Int32) (v5 : Int32) : Option (Int32 × (Nat → Int32) × (Nat → Int32)) :=
  if m_gloves ≤ v5 then
    if v3 = (-1 : Int32) then
      b_X12_soonest_137 m_gloves m_matters m_holding m_code m_value m_clauses m_testFrom m_sumFrom m_sumTo m_glove m_matter m_now m_letters m_stack v3
    else
      if v2 = (0 : Int32) then
        b_X12_soonest_137 m_gloves m_matters m_holding m_code m_value m_clauses m_testFrom m_sumFrom m_sumTo m_glove m_matter m_now m_letters m_stack v3
      else
        some (v4, m_letters, m_stack)
  else
    bnd (v5 + (1 : Int32)) fun v6_1 =>
    f_X12_soonest_42 m_gloves m_matters m_holding m_code m_value m_clauses m_testFrom m_sumFrom m_sumTo m_glove m_matter m_now k27 fu m_letters m_stack v1 v2 v3 v4 v5 v6_1
noncomputable def f_X12_soonest_27 (m_gloves : Int32) (m_matters : Int32) (m_holding : Int32) (m_code : Nat → Int32) (m_value : Nat → Int32) (m_clauses : Nat → Int32) (m_testFrom : Nat → Int32) (m_sumFrom : Nat → Int32) (m_sumTo : Nat → Int32) (m_glove : Nat → Int32) (m_matter : Nat → Int32) (m_now : Nat → Int32) : Nat → (Nat → Int32) → (Nat → Int32) → Int32 → Int32 → Int32 → Int32 → Int32 → Option (Int32 × (Nat → Int32) × (Nat → Int32))
  | 0, _, _, _, _, _, _, _ => none
  | n + 1, m_letters, m_stack, v1, v2, v3, v4, v5 => b_X12_soonest_27 m_gloves m_matters m_holding m_code m_value m_clauses m_testFrom m_sumFrom m_sumTo m_glove m_matter m_now (f_X12_soonest_27 m_gloves m_matters m_holding m_code m_value m_clauses m_testFrom m_sumFrom m_sumTo m_glove m_matter m_now n) m_letters m_stack v1 v2 v3 v4 v5
noncomputable def b_X12_soonest_0 (m_gloves : Int32) (m_matters : Int32) (m_holding : Int32) (m_code : Nat → Int32) (m_value : Nat → Int32) (m_clauses : Nat → Int32) (m_testFrom : Nat → Int32) (m_sumFrom : Nat → Int32) (m_sumTo : Nat → Int32) (m_glove : Nat → Int32) (m_matter : Nat → Int32) (m_now : Nat → Int32) (m_letters : Nat → Int32) (m_stack : Nat → Int32) (v1 : Int32) (v2 : Int32) : Option (Int32 × (Nat → Int32) × (Nat → Int32)) :=
  ob1 (f_X12_isMatter m_matters v1) fun r_1 =>
  if r_1 = (0 : Int32) then
    some ((-1 : Int32), m_letters, m_stack)
  else
    ob1 (f_X12_in v2 (0 : Int32) (1 : Int32)) fun r_3 =>
    if r_3 = (0 : Int32) then
      some ((-1 : Int32), m_letters, m_stack)
    else
      f_X12_soonest_27 m_gloves m_matters m_holding m_code m_value m_clauses m_testFrom m_sumFrom m_sumTo m_glove m_matter m_now fu m_letters m_stack v1 v2 (-1 : Int32) (0 : Int32) (0 : Int32)
noncomputable def f_X12_soonest (m_gloves : Int32) (m_matters : Int32) (m_holding : Int32) (m_code : Nat → Int32) (m_value : Nat → Int32) (m_clauses : Nat → Int32) (m_testFrom : Nat → Int32) (m_sumFrom : Nat → Int32) (m_sumTo : Nat → Int32) (m_glove : Nat → Int32) (m_matter : Nat → Int32) (m_now : Nat → Int32) (m_letters : Nat → Int32) (m_stack : Nat → Int32) (p1 : Int32) (p2 : Int32) : Option (Int32 × (Nat → Int32) × (Nat → Int32)) := b_X12_soonest_0 m_gloves m_matters m_holding m_code m_value m_clauses m_testFrom m_sumFrom m_sumTo m_glove m_matter m_now m_letters m_stack p1 p2
noncomputable def b_X12_tryPairs_41 (F_X12_tryPairs : Int32 → Int32 → (Nat → Int32) → (Nat → Int32) → (Nat → Int32) → (Nat → Int32) → (Nat → Int32) → (Nat → Int32) → (Nat → Int32) → (Nat → Int32) → Int32 → Int32 → Int32 → (Nat → Int32) → (Nat → Int32) → Int32 → Int32 → Int32 → Int32 → Option (Int32 × Int32 × Int32 × (Nat → Int32) × (Nat → Int32))) (m_gloves : Int32) (m_holding : Int32) (m_code : Nat → Int32) (m_value : Nat → Int32) (m_clauses : Nat → Int32) (m_testFrom : Nat → Int32) (m_sumFrom : Nat → Int32) (m_sumTo : Nat → Int32) (m_glove : Nat → Int32) (m_now : Nat → Int32) (m_bestRow : Int32) (m_bestRise : Int32) (m_isFound : Int32) (m_letters : Nat → Int32) (m_stack : Nat → Int32) (v3 : Int32) (v4 : Int32) : Option (Int32 × Int32 × Int32 × (Nat → Int32) × (Nat → Int32)) :=
  some (v3, v4, (1 : Int32), m_letters, m_stack)
noncomputable def b_X12_tryPairs_75 (F_X12_tryPairs : Int32 → Int32 → (Nat → Int32) → (Nat → Int32) → (Nat → Int32) → (Nat → Int32) → (Nat → Int32) → (Nat → Int32) → (Nat → Int32) → (Nat → Int32) → Int32 → Int32 → Int32 → (Nat → Int32) → (Nat → Int32) → Int32 → Int32 → Int32 → Int32 → Option (Int32 × Int32 × Int32 × (Nat → Int32) × (Nat → Int32))) (m_gloves : Int32) (m_holding : Int32) (m_code : Nat → Int32) (m_value : Nat → Int32) (m_clauses : Nat → Int32) (m_testFrom : Nat → Int32) (m_sumFrom : Nat → Int32) (m_sumTo : Nat → Int32) (m_glove : Nat → Int32) (m_now : Nat → Int32) (m_bestRow : Int32) (m_bestRise : Int32) (m_isFound : Int32) (m_letters : Nat → Int32) (m_stack : Nat → Int32) (v1 : Int32) (v2 : Int32) (v3 : Int32) (v4 : Int32) : Option (Int32 × Int32 × Int32 × (Nat → Int32) × (Nat → Int32)) :=
  ob5 (F_X12_tryPairs m_gloves m_holding m_code m_value m_clauses m_testFrom m_sumFrom m_sumTo m_glove m_now m_bestRow m_bestRise m_isFound m_letters m_stack (v1 + (1 : Int32)) v2 v3 v4) fun m_bestRow_1 m_bestRise_2 m_isFound_3 m_letters_4 m_stack_5 =>
  some (m_bestRow_1, m_bestRise_2, m_isFound_3, m_letters_4, m_stack_5)
noncomputable def b_X12_tryPairs_157 (F_X12_tryPairs : Int32 → Int32 → (Nat → Int32) → (Nat → Int32) → (Nat → Int32) → (Nat → Int32) → (Nat → Int32) → (Nat → Int32) → (Nat → Int32) → (Nat → Int32) → Int32 → Int32 → Int32 → (Nat → Int32) → (Nat → Int32) → Int32 → Int32 → Int32 → Int32 → Option (Int32 × Int32 × Int32 × (Nat → Int32) × (Nat → Int32))) (m_gloves : Int32) (m_holding : Int32) (m_code : Nat → Int32) (m_value : Nat → Int32) (m_clauses : Nat → Int32) (m_testFrom : Nat → Int32) (m_sumFrom : Nat → Int32) (m_sumTo : Nat → Int32) (m_glove : Nat → Int32) (m_now : Nat → Int32) (k90 : Int32 → Int32 → Int32 → (Nat → Int32) → (Nat → Int32) → Int32 → Int32 → Int32 → Int32 → Int32 → Option (Int32 × Int32 × Int32 × (Nat → Int32) × (Nat → Int32))) (m_bestRow : Int32) (m_bestRise : Int32) (m_isFound : Int32) (m_letters : Nat → Int32) (m_stack : Nat → Int32) (v1 : Int32) (v2 : Int32) (v3 : Int32) (v4 : Int32) (v5 : Int32) : Option (Int32 × Int32 × Int32 × (Nat → Int32) × (Nat → Int32)) :=
  bnd (v5 + (1 : Int32)) fun v5_1 =>
  k90 m_bestRow m_bestRise m_isFound m_letters m_stack v1 v2 v3 v4 v5_1
noncomputable def b_X12_tryPairs_90 (F_X12_tryPairs : Int32 → Int32 → (Nat → Int32) → (Nat → Int32) → (Nat → Int32) → (Nat → Int32) → (Nat → Int32) → (Nat → Int32) → (Nat → Int32) → (Nat → Int32) → Int32 → Int32 → Int32 → (Nat → Int32) → (Nat → Int32) → Int32 → Int32 → Int32 → Int32 → Option (Int32 × Int32 × Int32 × (Nat → Int32) × (Nat → Int32))) (m_gloves : Int32) (m_holding : Int32) (m_code : Nat → Int32) (m_value : Nat → Int32) (m_clauses : Nat → Int32) (m_testFrom : Nat → Int32) (m_sumFrom : Nat → Int32) (m_sumTo : Nat → Int32) (m_glove : Nat → Int32) (m_now : Nat → Int32) (k90 : Int32 → Int32 → Int32 → (Nat → Int32) → (Nat → Int32) → Int32 → Int32 → Int32 → Int32 → Int32 → Option (Int32 × Int32 × Int32 × (Nat → Int32) × (Nat → Int32))) (m_bestRow : Int32) (m_bestRise : Int32) (m_isFound : Int32) (m_letters : Nat → Int32) (m_stack : Nat → Int32) (v1 : Int32) (v2 : Int32) (v3 : Int32) (v4 : Int32) (v5 : Int32) : Option (Int32 × Int32 × Int32 × (Nat → Int32) × (Nat → Int32)) :=
  if m_gloves ≤ v5 then
    ob5 (F_X12_tryPairs m_gloves m_holding m_code m_value m_clauses m_testFrom m_sumFrom m_sumTo m_glove m_now m_bestRow m_bestRise m_isFound m_letters m_stack (v1 + (1 : Int32)) v2 (((10 : Int32) * v3) + (9 : Int32)) v4) fun m_bestRow_1 m_bestRise_2 m_isFound_3 m_letters_4 m_stack_5 =>
    some (m_bestRow_1, m_bestRise_2, m_isFound_3, m_letters_4, m_stack_5)
  else
    ob1 (f_X12_areTwo m_gloves m_glove v1 v5) fun r_7 =>
    if r_7 = (0 : Int32) then
      b_X12_tryPairs_157 F_X12_tryPairs m_gloves m_holding m_code m_value m_clauses m_testFrom m_sumFrom m_sumTo m_glove m_now k90 m_bestRow m_bestRise m_isFound m_letters m_stack v1 v2 v3 v4 v5
    else
      ob1 (f_X12_isFree m_now v5) fun r_9 =>
      if r_9 = (0 : Int32) then
        b_X12_tryPairs_157 F_X12_tryPairs m_gloves m_holding m_code m_value m_clauses m_testFrom m_sumFrom m_sumTo m_glove m_now k90 m_bestRow m_bestRise m_isFound m_letters m_stack v1 v2 v3 v4 v5
      else
        ob1 (f_X12_has v2 v5) fun r_11 =>
        if r_11 = (0 : Int32) then
          ob3 (f_X12_riseOf m_holding m_code m_value m_clauses m_testFrom m_sumFrom m_sumTo m_glove m_now m_letters m_stack v1 v5) fun r_13 m_letters_14 m_stack_15 =>
          ob5 (F_X12_tryPairs m_gloves m_holding m_code m_value m_clauses m_testFrom m_sumFrom m_sumTo m_glove m_now m_bestRow m_bestRise m_isFound m_letters_14 m_stack_15 (v1 + (1 : Int32)) (v2 ||| ((1 : Int32) <<< (v5 &&& (31 : Int32)))) (((10 : Int32) * v3) + v5) (v4 + r_13)) fun m_bestRow_17 m_bestRise_18 m_isFound_19 m_letters_20 m_stack_21 =>
          b_X12_tryPairs_157 F_X12_tryPairs m_gloves m_holding m_code m_value m_clauses m_testFrom m_sumFrom m_sumTo m_glove m_now k90 m_bestRow_17 m_bestRise_18 m_isFound_19 m_letters_20 m_stack_21 v1 v2 v3 v4 v5
        else
          b_X12_tryPairs_157 F_X12_tryPairs m_gloves m_holding m_code m_value m_clauses m_testFrom m_sumFrom m_sumTo m_glove m_now k90 m_bestRow m_bestRise m_isFound m_letters m_stack v1 v2 v3 v4 v5
noncomputable def f_X12_tryPairs_90 (F_X12_tryPairs : Int32 → Int32 → (Nat → Int32) → (Nat → Int32) → (Nat → Int32) → (Nat → Int32) → (Nat → Int32) → (Nat → Int32) → (Nat → Int32) → (Nat → Int32) → Int32 → Int32 → Int32 → (Nat → Int32) → (Nat → Int32) → Int32 → Int32 → Int32 → Int32 → Option (Int32 × Int32 × Int32 × (Nat → Int32) × (Nat → Int32))) (m_gloves : Int32) (m_holding : Int32) (m_code : Nat → Int32) (m_value : Nat → Int32) (m_clauses : Nat → Int32) (m_testFrom : Nat → Int32) (m_sumFrom : Nat → Int32) (m_sumTo : Nat → Int32) (m_glove : Nat → Int32) (m_now : Nat → Int32) : Nat → Int32 → Int32 → Int32 → (Nat → Int32) → (Nat → Int32) → Int32 → Int32 → Int32 → Int32 → Int32 → Option (Int32 × Int32 × Int32 × (Nat → Int32) × (Nat → Int32))
  | 0, _, _, _, _, _, _, _, _, _, _ => none
  | n + 1, m_bestRow, m_bestRise, m_isFound, m_letters, m_stack, v1, v2, v3, v4, v5 => b_X12_tryPairs_90 F_X12_tryPairs m_gloves m_holding m_code m_value m_clauses m_testFrom m_sumFrom m_sumTo m_glove m_now (f_X12_tryPairs_90 F_X12_tryPairs m_gloves m_holding m_code m_value m_clauses m_testFrom m_sumFrom m_sumTo m_glove m_now n) m_bestRow m_bestRise m_isFound m_letters m_stack v1 v2 v3 v4 v5
noncomputable def b_X12_tryPairs_0 (F_X12_tryPairs : Int32 → Int32 → (Nat → Int32) → (Nat → Int32) → (Nat → Int32) → (Nat → Int32) → (Nat → Int32) → (Nat → Int32) → (Nat → Int32) → (Nat → Int32) → Int32 → Int32 → Int32 → (Nat → Int32) → (Nat → Int32) → Int32 → Int32 → Int32 → Int32 → Option (Int32 × Int32 × Int32 × (Nat → Int32) × (Nat → Int32))) (m_gloves : Int32) (m_holding : Int32) (m_code : Nat → Int32) (m_value : Nat → Int32) (m_clauses : Nat → Int32) (m_testFrom : Nat → Int32) (m_sumFrom : Nat → Int32) (m_sumTo : Nat → Int32) (m_glove : Nat → Int32) (m_now : Nat → Int32) (m_bestRow : Int32) (m_bestRise : Int32) (m_isFound : Int32) (m_letters : Nat → Int32) (m_stack : Nat → Int32) (v1 : Int32) (v2 : Int32) (v3 : Int32) (v4 : Int32) : Option (Int32 × Int32 × Int32 × (Nat → Int32) × (Nat → Int32)) :=
  if v1 = m_gloves then
    if m_isFound = (0 : Int32) then
      b_X12_tryPairs_41 F_X12_tryPairs m_gloves m_holding m_code m_value m_clauses m_testFrom m_sumFrom m_sumTo m_glove m_now m_bestRow m_bestRise m_isFound m_letters m_stack v3 v4
    else
      if m_bestRise < v4 then
        b_X12_tryPairs_41 F_X12_tryPairs m_gloves m_holding m_code m_value m_clauses m_testFrom m_sumFrom m_sumTo m_glove m_now m_bestRow m_bestRise m_isFound m_letters m_stack v3 v4
      else
        if v4 = m_bestRise then
          if m_bestRow ≤ v3 then
            some (m_bestRow, m_bestRise, m_isFound, m_letters, m_stack)
          else
            b_X12_tryPairs_41 F_X12_tryPairs m_gloves m_holding m_code m_value m_clauses m_testFrom m_sumFrom m_sumTo m_glove m_now m_bestRow m_bestRise m_isFound m_letters m_stack v3 v4
        else
          some (m_bestRow, m_bestRise, m_isFound, m_letters, m_stack)
  else
    ob1 (f_X12_of m_glove v1 (0 : Int32)) fun r_1 =>
    if r_1 = (0 : Int32) then
      ob1 (f_X12_isFree m_now v1) fun r_3 =>
      if r_3 = (0 : Int32) then
        b_X12_tryPairs_75 F_X12_tryPairs m_gloves m_holding m_code m_value m_clauses m_testFrom m_sumFrom m_sumTo m_glove m_now m_bestRow m_bestRise m_isFound m_letters m_stack v1 v2 v3 v4
      else
        f_X12_tryPairs_90 F_X12_tryPairs m_gloves m_holding m_code m_value m_clauses m_testFrom m_sumFrom m_sumTo m_glove m_now fu m_bestRow m_bestRise m_isFound m_letters m_stack v1 v2 v3 v4 (0 : Int32)
    else
      b_X12_tryPairs_75 F_X12_tryPairs m_gloves m_holding m_code m_value m_clauses m_testFrom m_sumFrom m_sumTo m_glove m_now m_bestRow m_bestRise m_isFound m_letters m_stack v1 v2 v3 v4
noncomputable def g_X12_tryPairs (F_X12_tryPairs : Int32 → Int32 → (Nat → Int32) → (Nat → Int32) → (Nat → Int32) → (Nat → Int32) → (Nat → Int32) → (Nat → Int32) → (Nat → Int32) → (Nat → Int32) → Int32 → Int32 → Int32 → (Nat → Int32) → (Nat → Int32) → Int32 → Int32 → Int32 → Int32 → Option (Int32 × Int32 × Int32 × (Nat → Int32) × (Nat → Int32))) (m_gloves : Int32) (m_holding : Int32) (m_code : Nat → Int32) (m_value : Nat → Int32) (m_clauses : Nat → Int32) (m_testFrom : Nat → Int32) (m_sumFrom : Nat → Int32) (m_sumTo : Nat → Int32) (m_glove : Nat → Int32) (m_now : Nat → Int32) (m_bestRow : Int32) (m_bestRise : Int32) (m_isFound : Int32) (m_letters : Nat → Int32) (m_stack : Nat → Int32) (p1 : Int32) (p2 : Int32) (p3 : Int32) (p4 : Int32) : Option (Int32 × Int32 × Int32 × (Nat → Int32) × (Nat → Int32)) := b_X12_tryPairs_0 F_X12_tryPairs m_gloves m_holding m_code m_value m_clauses m_testFrom m_sumFrom m_sumTo m_glove m_now m_bestRow m_bestRise m_isFound m_letters m_stack p1 p2 p3 p4
noncomputable def rc_X12_tryPairs : Nat → Int32 → Int32 → (Nat → Int32) → (Nat → Int32) → (Nat → Int32) → (Nat → Int32) → (Nat → Int32) → (Nat → Int32) → (Nat → Int32) → (Nat → Int32) → Int32 → Int32 → Int32 → (Nat → Int32) → (Nat → Int32) → Int32 → Int32 → Int32 → Int32 → Option (Int32 × Int32 × Int32 × (Nat → Int32) × (Nat → Int32))
  | 0 => fun _ _ _ _ _ _ _ _ _ _ _ _ _ _ _ _ _ _ _ => none
  | d + 1 => g_X12_tryPairs (rc_X12_tryPairs d)
noncomputable def f_X12_tryPairs (d : Nat) : Int32 → Int32 → (Nat → Int32) → (Nat → Int32) → (Nat → Int32) → (Nat → Int32) → (Nat → Int32) → (Nat → Int32) → (Nat → Int32) → (Nat → Int32) → Int32 → Int32 → Int32 → (Nat → Int32) → (Nat → Int32) → Int32 → Int32 → Int32 → Int32 → Option (Int32 × Int32 × Int32 × (Nat → Int32) × (Nat → Int32)) := (rc_X12_tryPairs d)
noncomputable def b_X12_freeOfFirst_35 (m_gloves : Int32) (m_glove : Nat → Int32) (m_now : Nat → Int32) (k4 : Int32 → Int32 → Option (Int32)) (v2 : Int32) (t0 : Int32) (t1 : Int32) : Option (Int32) :=
  bnd (t0 + t1) fun v1_1 =>
  bnd (v2 + (1 : Int32)) fun v2_2 =>
  k4 v1_1 v2_2
noncomputable def b_X12_freeOfFirst_34 (m_gloves : Int32) (m_glove : Nat → Int32) (m_now : Nat → Int32) (k4 : Int32 → Int32 → Option (Int32)) (v2 : Int32) (t0 : Int32) : Option (Int32) :=
  b_X12_freeOfFirst_35 m_gloves m_glove m_now k4 v2 t0 (0 : Int32)
noncomputable def b_X12_freeOfFirst_4 (m_gloves : Int32) (m_glove : Nat → Int32) (m_now : Nat → Int32) (k4 : Int32 → Int32 → Option (Int32)) (v1 : Int32) (v2 : Int32) : Option (Int32) :=
  if m_gloves ≤ v2 then
    some v1
  else
    ob1 (f_X12_of m_glove v2 (0 : Int32)) fun r_1 =>
    if r_1 = (0 : Int32) then
      ob1 (f_X12_isFree m_now v2) fun r_3 =>
      if r_3 = (0 : Int32) then
        b_X12_freeOfFirst_34 m_gloves m_glove m_now k4 v2 v1
      else
        b_X12_freeOfFirst_35 m_gloves m_glove m_now k4 v2 v1 (1 : Int32)
    else
      b_X12_freeOfFirst_34 m_gloves m_glove m_now k4 v2 v1
noncomputable def f_X12_freeOfFirst_4 (m_gloves : Int32) (m_glove : Nat → Int32) (m_now : Nat → Int32) : Nat → Int32 → Int32 → Option (Int32)
  | 0, _, _ => none
  | n + 1, v1, v2 => b_X12_freeOfFirst_4 m_gloves m_glove m_now (f_X12_freeOfFirst_4 m_gloves m_glove m_now n) v1 v2
noncomputable def b_X12_freeOfFirst_0 (m_gloves : Int32) (m_glove : Nat → Int32) (m_now : Nat → Int32) : Option (Int32) :=
  f_X12_freeOfFirst_4 m_gloves m_glove m_now fu (0 : Int32) (0 : Int32)
noncomputable def f_X12_freeOfFirst (m_gloves : Int32) (m_glove : Nat → Int32) (m_now : Nat → Int32) : Option (Int32) := b_X12_freeOfFirst_0 m_gloves m_glove m_now 
noncomputable def b_X12_layPairs_0 (m_gloves : Int32) (m_holding : Int32) (m_code : Nat → Int32) (m_value : Nat → Int32) (m_clauses : Nat → Int32) (m_testFrom : Nat → Int32) (m_sumFrom : Nat → Int32) (m_sumTo : Nat → Int32) (m_glove : Nat → Int32) (m_now : Nat → Int32) (m_bestRow : Int32) (m_bestRise : Int32) (m_isFound : Int32) (m_letters : Nat → Int32) (m_stack : Nat → Int32) : Option (Int32 × Int32 × Int32 × (Nat → Int32) × (Nat → Int32)) :=
  ob5 (f_X12_tryPairs 60 m_gloves m_holding m_code m_value m_clauses m_testFrom m_sumFrom m_sumTo m_glove m_now m_bestRow m_bestRise (0 : Int32) m_letters m_stack (0 : Int32) (0 : Int32) (0 : Int32) (0 : Int32)) fun m_bestRow_1 m_bestRise_2 m_isFound_3 m_letters_4 m_stack_5 =>
  some (m_bestRow_1, m_bestRise_2, m_isFound_3, m_letters_4, m_stack_5)
noncomputable def f_X12_layPairs (m_gloves : Int32) (m_holding : Int32) (m_code : Nat → Int32) (m_value : Nat → Int32) (m_clauses : Nat → Int32) (m_testFrom : Nat → Int32) (m_sumFrom : Nat → Int32) (m_sumTo : Nat → Int32) (m_glove : Nat → Int32) (m_now : Nat → Int32) (m_bestRow : Int32) (m_bestRise : Int32) (m_isFound : Int32) (m_letters : Nat → Int32) (m_stack : Nat → Int32) : Option (Int32 × Int32 × Int32 × (Nat → Int32) × (Nat → Int32)) := b_X12_layPairs_0 m_gloves m_holding m_code m_value m_clauses m_testFrom m_sumFrom m_sumTo m_glove m_now m_bestRow m_bestRise m_isFound m_letters m_stack
noncomputable def b_X12_pairs_16 (m_gloves : Int32) (m_holding : Int32) (m_code : Nat → Int32) (m_value : Nat → Int32) (m_clauses : Nat → Int32) (m_testFrom : Nat → Int32) (m_sumFrom : Nat → Int32) (m_sumTo : Nat → Int32) (m_glove : Nat → Int32) (m_now : Nat → Int32) (m_bestRow : Int32) (m_bestRise : Int32) (m_isFound : Int32) (m_letters : Nat → Int32) (m_stack : Nat → Int32) : Option (Int32 × Int32 × Int32 × Int32 × (Nat → Int32) × (Nat → Int32)) :=
  some ((-1000000 : Int32), m_bestRow, m_bestRise, m_isFound, m_letters, m_stack)
noncomputable def b_X12_pairs_0 (m_gloves : Int32) (m_holding : Int32) (m_code : Nat → Int32) (m_value : Nat → Int32) (m_clauses : Nat → Int32) (m_testFrom : Nat → Int32) (m_sumFrom : Nat → Int32) (m_sumTo : Nat → Int32) (m_glove : Nat → Int32) (m_now : Nat → Int32) (m_bestRow : Int32) (m_bestRise : Int32) (m_isFound : Int32) (m_letters : Nat → Int32) (m_stack : Nat → Int32) (v1 : Int32) : Option (Int32 × Int32 × Int32 × Int32 × (Nat → Int32) × (Nat → Int32)) :=
  if m_gloves = (0 : Int32) then
    b_X12_pairs_16 m_gloves m_holding m_code m_value m_clauses m_testFrom m_sumFrom m_sumTo m_glove m_now m_bestRow m_bestRise m_isFound m_letters m_stack
  else
    ob1 (f_X12_in v1 (0 : Int32) (1 : Int32)) fun r_1 =>
    if r_1 = (0 : Int32) then
      b_X12_pairs_16 m_gloves m_holding m_code m_value m_clauses m_testFrom m_sumFrom m_sumTo m_glove m_now m_bestRow m_bestRise m_isFound m_letters m_stack
    else
      ob5 (f_X12_layPairs m_gloves m_holding m_code m_value m_clauses m_testFrom m_sumFrom m_sumTo m_glove m_now m_bestRow m_bestRise m_isFound m_letters m_stack) fun m_bestRow_3 m_bestRise_4 m_isFound_5 m_letters_6 m_stack_7 =>
      if v1 = (1 : Int32) then
        some (m_bestRise_4, m_bestRow_3, m_bestRise_4, m_isFound_5, m_letters_6, m_stack_7)
      else
        ob1 (f_X12_freeOfFirst m_gloves m_glove m_now) fun r_9 =>
        if r_9 = (0 : Int32) then
          some ((-1 : Int32), m_bestRow_3, m_bestRise_4, m_isFound_5, m_letters_6, m_stack_7)
        else
          some (m_bestRow_3, m_bestRow_3, m_bestRise_4, m_isFound_5, m_letters_6, m_stack_7)
noncomputable def f_X12_pairs (m_gloves : Int32) (m_holding : Int32) (m_code : Nat → Int32) (m_value : Nat → Int32) (m_clauses : Nat → Int32) (m_testFrom : Nat → Int32) (m_sumFrom : Nat → Int32) (m_sumTo : Nat → Int32) (m_glove : Nat → Int32) (m_now : Nat → Int32) (m_bestRow : Int32) (m_bestRise : Int32) (m_isFound : Int32) (m_letters : Nat → Int32) (m_stack : Nat → Int32) (p1 : Int32) : Option (Int32 × Int32 × Int32 × Int32 × (Nat → Int32) × (Nat → Int32)) := b_X12_pairs_0 m_gloves m_holding m_code m_value m_clauses m_testFrom m_sumFrom m_sumTo m_glove m_now m_bestRow m_bestRise m_isFound m_letters m_stack p1
noncomputable def b_X12_doAllKnow_41 (m_gloves : Int32) (m_now : Nat → Int32) (k4 : Int32 → Int32 → Option (Int32)) (v2 : Int32) (t0 : Int32) : Option (Int32) :=
  bnd (v2 + (1 : Int32)) fun v2_1 =>
  k4 t0 v2_1
noncomputable def b_X12_doAllKnow_40 (m_gloves : Int32) (m_now : Nat → Int32) (k4 : Int32 → Int32 → Option (Int32)) (v2 : Int32) : Option (Int32) :=
  b_X12_doAllKnow_41 m_gloves m_now k4 v2 (0 : Int32)
noncomputable def b_X12_doAllKnow_4 (m_gloves : Int32) (m_now : Nat → Int32) (k4 : Int32 → Int32 → Option (Int32)) (v1 : Int32) (v2 : Int32) : Option (Int32) :=
  if m_gloves ≤ v2 then
    gd (isZ v1) <|
    some v1
  else
    if v1 = (0 : Int32) then
      b_X12_doAllKnow_40 m_gloves m_now k4 v2
    else
      gd (inB ((48 : Int32) + v2) 250) <|
      bnd (((1 : Int32) <<< (m_gloves &&& (31 : Int32))) - (1 : Int32)) fun n_3 =>
      if (m_now ((48 : Int32) + v2).toNatClampNeg) = n_3 then
        b_X12_doAllKnow_41 m_gloves m_now k4 v2 (1 : Int32)
      else
        b_X12_doAllKnow_40 m_gloves m_now k4 v2
noncomputable def f_X12_doAllKnow_4 (m_gloves : Int32) (m_now : Nat → Int32) : Nat → Int32 → Int32 → Option (Int32)
  | 0, _, _ => none
  | n + 1, v1, v2 => b_X12_doAllKnow_4 m_gloves m_now (f_X12_doAllKnow_4 m_gloves m_now n) v1 v2
noncomputable def b_X12_doAllKnow_0 (m_gloves : Int32) (m_now : Nat → Int32) : Option (Int32) :=
  f_X12_doAllKnow_4 m_gloves m_now fu (1 : Int32) (0 : Int32)
noncomputable def f_X12_doAllKnow (m_gloves : Int32) (m_now : Nat → Int32) : Option (Int32) := b_X12_doAllKnow_0 m_gloves m_now 
noncomputable def b_X12_meetPairs_74 (m_gloves : Int32) (m_matters : Int32) (m_holding : Int32) (m_code : Nat → Int32) (m_value : Nat → Int32) (m_clauses : Nat → Int32) (m_testFrom : Nat → Int32) (m_sumFrom : Nat → Int32) (m_sumTo : Nat → Int32) (m_glove : Nat → Int32) (m_matter : Nat → Int32) (k16 : Int32 → Int32 → Int32 → (Nat → Int32) → (Nat → Int32) → (Nat → Int32) → (Nat → Int32) → Int32 → Int32 → Option (Int32 × Int32 × Int32 × (Nat → Int32) × (Nat → Int32) × (Nat → Int32) × (Nat → Int32))) (m_bestRow : Int32) (m_bestRise : Int32) (m_isFound : Int32) (m_letters : Nat → Int32) (m_stack : Nat → Int32) (m_now : Nat → Int32) (m_with : Nat → Int32) (v2 : Int32) (t0 : Int32) : Option (Int32 × Int32 × Int32 × (Nat → Int32) × (Nat → Int32) × (Nat → Int32) × (Nat → Int32)) :=
  bnd (v2 + (-1 : Int32)) fun v2_1 =>
  k16 m_bestRow m_bestRise m_isFound m_letters m_stack m_now m_with t0 v2_1
noncomputable def b_X12_meetPairs_61 (m_gloves : Int32) (m_matters : Int32) (m_holding : Int32) (m_code : Nat → Int32) (m_value : Nat → Int32) (m_clauses : Nat → Int32) (m_testFrom : Nat → Int32) (m_sumFrom : Nat → Int32) (m_sumTo : Nat → Int32) (m_glove : Nat → Int32) (m_matter : Nat → Int32) (k16 : Int32 → Int32 → Int32 → (Nat → Int32) → (Nat → Int32) → (Nat → Int32) → (Nat → Int32) → Int32 → Int32 → Option (Int32 × Int32 × Int32 × (Nat → Int32) × (Nat → Int32) × (Nat → Int32) × (Nat → Int32))) (m_bestRow : Int32) (m_bestRise : Int32) (m_isFound : Int32) (m_letters : Nat → Int32) (m_stack : Nat → Int32) (m_now : Nat → Int32) (m_with : Nat → Int32) (v1 : Int32) (v2 : Int32) (v3 : Int32) (t1 : Int32) (t2 : Int32) : Option (Int32 × Int32 × Int32 × (Nat → Int32) × (Nat → Int32) × (Nat → Int32) × (Nat → Int32)) :=
  gd (inB t1 6) <|
  bnd (upd m_with t1.toNatClampNeg t2) fun m_with_2 =>
  if v3 = (0 : Int32) then
    b_X12_meetPairs_74 m_gloves m_matters m_holding m_code m_value m_clauses m_testFrom m_sumFrom m_sumTo m_glove m_matter k16 m_bestRow m_bestRise m_isFound m_letters m_stack m_now m_with_2 v2 v1
  else
    b_X12_meetPairs_74 m_gloves m_matters m_holding m_code m_value m_clauses m_testFrom m_sumFrom m_sumTo m_glove m_matter k16 m_bestRow m_bestRise m_isFound m_letters m_stack m_now m_with_2 v2 (v1 / (10 : Int32))
noncomputable def b_X12_meetPairs_42 (m_gloves : Int32) (m_matters : Int32) (m_holding : Int32) (m_code : Nat → Int32) (m_value : Nat → Int32) (m_clauses : Nat → Int32) (m_testFrom : Nat → Int32) (m_sumFrom : Nat → Int32) (m_sumTo : Nat → Int32) (m_glove : Nat → Int32) (m_matter : Nat → Int32) (k16 : Int32 → Int32 → Int32 → (Nat → Int32) → (Nat → Int32) → (Nat → Int32) → (Nat → Int32) → Int32 → Int32 → Option (Int32 × Int32 × Int32 × (Nat → Int32) × (Nat → Int32) × (Nat → Int32) × (Nat → Int32))) (m_bestRow : Int32) (m_bestRise : Int32) (m_isFound : Int32) (m_letters : Nat → Int32) (m_stack : Nat → Int32) (m_now : Nat → Int32) (m_with : Nat → Int32) (v1 : Int32) (v2 : Int32) (t0 : Int32) : Option (Int32 × Int32 × Int32 × (Nat → Int32) × (Nat → Int32) × (Nat → Int32) × (Nat → Int32)) :=
  if t0 = (0 : Int32) then
    b_X12_meetPairs_61 m_gloves m_matters m_holding m_code m_value m_clauses m_testFrom m_sumFrom m_sumTo m_glove m_matter k16 m_bestRow m_bestRise m_isFound m_letters m_stack m_now m_with v1 v2 t0 v2 (9 : Int32)
  else
    bnd (rem v1 (10 : Int32)) fun n_1 =>
    b_X12_meetPairs_61 m_gloves m_matters m_holding m_code m_value m_clauses m_testFrom m_sumFrom m_sumTo m_glove m_matter k16 m_bestRow m_bestRise m_isFound m_letters m_stack m_now m_with v1 v2 t0 v2 n_1
noncomputable def b_X12_meetPairs_41 (m_gloves : Int32) (m_matters : Int32) (m_holding : Int32) (m_code : Nat → Int32) (m_value : Nat → Int32) (m_clauses : Nat → Int32) (m_testFrom : Nat → Int32) (m_sumFrom : Nat → Int32) (m_sumTo : Nat → Int32) (m_glove : Nat → Int32) (m_matter : Nat → Int32) (k16 : Int32 → Int32 → Int32 → (Nat → Int32) → (Nat → Int32) → (Nat → Int32) → (Nat → Int32) → Int32 → Int32 → Option (Int32 × Int32 × Int32 × (Nat → Int32) × (Nat → Int32) × (Nat → Int32) × (Nat → Int32))) (m_bestRow : Int32) (m_bestRise : Int32) (m_isFound : Int32) (m_letters : Nat → Int32) (m_stack : Nat → Int32) (m_now : Nat → Int32) (m_with : Nat → Int32) (v1 : Int32) (v2 : Int32) : Option (Int32 × Int32 × Int32 × (Nat → Int32) × (Nat → Int32) × (Nat → Int32) × (Nat → Int32)) :=
  b_X12_meetPairs_42 m_gloves m_matters m_holding m_code m_value m_clauses m_testFrom m_sumFrom m_sumTo m_glove m_matter k16 m_bestRow m_bestRise m_isFound m_letters m_stack m_now m_with v1 v2 (0 : Int32)
noncomputable def b_X12_meetPairs_113 (m_gloves : Int32) (m_matters : Int32) (m_holding : Int32) (m_code : Nat → Int32) (m_value : Nat → Int32) (m_clauses : Nat → Int32) (m_testFrom : Nat → Int32) (m_sumFrom : Nat → Int32) (m_sumTo : Nat → Int32) (m_glove : Nat → Int32) (m_matter : Nat → Int32) (k83 : Int32 → Int32 → Int32 → (Nat → Int32) → (Nat → Int32) → (Nat → Int32) → (Nat → Int32) → Int32 → Option (Int32 × Int32 × Int32 × (Nat → Int32) × (Nat → Int32) × (Nat → Int32) × (Nat → Int32))) (m_bestRow : Int32) (m_bestRise : Int32) (m_isFound : Int32) (m_letters : Nat → Int32) (m_stack : Nat → Int32) (m_now : Nat → Int32) (m_with : Nat → Int32) (v2 : Int32) : Option (Int32 × Int32 × Int32 × (Nat → Int32) × (Nat → Int32) × (Nat → Int32) × (Nat → Int32)) :=
  bnd (v2 + (1 : Int32)) fun v2_1 =>
  k83 m_bestRow m_bestRise m_isFound m_letters m_stack m_now m_with v2_1
noncomputable def b_X12_meetPairs_83 (m_gloves : Int32) (m_matters : Int32) (m_holding : Int32) (m_code : Nat → Int32) (m_value : Nat → Int32) (m_clauses : Nat → Int32) (m_testFrom : Nat → Int32) (m_sumFrom : Nat → Int32) (m_sumTo : Nat → Int32) (m_glove : Nat → Int32) (m_matter : Nat → Int32) (k83 : Int32 → Int32 → Int32 → (Nat → Int32) → (Nat → Int32) → (Nat → Int32) → (Nat → Int32) → Int32 → Option (Int32 × Int32 × Int32 × (Nat → Int32) × (Nat → Int32) × (Nat → Int32) × (Nat → Int32))) (m_bestRow : Int32) (m_bestRise : Int32) (m_isFound : Int32) (m_letters : Nat → Int32) (m_stack : Nat → Int32) (m_now : Nat → Int32) (m_with : Nat → Int32) (v2 : Int32) : Option (Int32 × Int32 × Int32 × (Nat → Int32) × (Nat → Int32) × (Nat → Int32) × (Nat → Int32)) :=
  if m_gloves ≤ v2 then
    some (m_bestRow, m_bestRise, m_isFound, m_letters, m_stack, m_now, m_with)
  else
    gd (inB v2 6) <|
    if (m_with v2.toNatClampNeg) = (9 : Int32) then
      b_X12_meetPairs_113 m_gloves m_matters m_holding m_code m_value m_clauses m_testFrom m_sumFrom m_sumTo m_glove m_matter k83 m_bestRow m_bestRise m_isFound m_letters m_stack m_now m_with v2
    else
      gd (inB v2 6) <|
      ob3 (f_X12_meetNow m_matters m_holding m_code m_value m_clauses m_testFrom m_sumFrom m_sumTo m_glove m_matter m_letters m_stack m_now v2 (m_with v2.toNatClampNeg)) fun m_letters_3 m_stack_4 m_now_5 =>
      b_X12_meetPairs_113 m_gloves m_matters m_holding m_code m_value m_clauses m_testFrom m_sumFrom m_sumTo m_glove m_matter k83 m_bestRow m_bestRise m_isFound m_letters_3 m_stack_4 m_now_5 m_with v2
noncomputable def f_X12_meetPairs_83 (m_gloves : Int32) (m_matters : Int32) (m_holding : Int32) (m_code : Nat → Int32) (m_value : Nat → Int32) (m_clauses : Nat → Int32) (m_testFrom : Nat → Int32) (m_sumFrom : Nat → Int32) (m_sumTo : Nat → Int32) (m_glove : Nat → Int32) (m_matter : Nat → Int32) : Nat → Int32 → Int32 → Int32 → (Nat → Int32) → (Nat → Int32) → (Nat → Int32) → (Nat → Int32) → Int32 → Option (Int32 × Int32 × Int32 × (Nat → Int32) × (Nat → Int32) × (Nat → Int32) × (Nat → Int32))
  | 0, _, _, _, _, _, _, _, _ => none
  | n + 1, m_bestRow, m_bestRise, m_isFound, m_letters, m_stack, m_now, m_with, v2 => b_X12_meetPairs_83 m_gloves m_matters m_holding m_code m_value m_clauses m_testFrom m_sumFrom m_sumTo m_glove m_matter (f_X12_meetPairs_83 m_gloves m_matters m_holding m_code m_value m_clauses m_testFrom m_sumFrom m_sumTo m_glove m_matter n) m_bestRow m_bestRise m_isFound m_letters m_stack m_now m_with v2
noncomputable def b_X12_meetPairs_16 (m_gloves : Int32) (m_matters : Int32) (m_holding : Int32) (m_code : Nat → Int32) (m_value : Nat → Int32) (m_clauses : Nat → Int32) (m_testFrom : Nat → Int32) (m_sumFrom : Nat → Int32) (m_sumTo : Nat → Int32) (m_glove : Nat → Int32) (m_matter : Nat → Int32) (k16 : Int32 → Int32 → Int32 → (Nat → Int32) → (Nat → Int32) → (Nat → Int32) → (Nat → Int32) → Int32 → Int32 → Option (Int32 × Int32 × Int32 × (Nat → Int32) × (Nat → Int32) × (Nat → Int32) × (Nat → Int32))) (m_bestRow : Int32) (m_bestRise : Int32) (m_isFound : Int32) (m_letters : Nat → Int32) (m_stack : Nat → Int32) (m_now : Nat → Int32) (m_with : Nat → Int32) (v1 : Int32) (v2 : Int32) : Option (Int32 × Int32 × Int32 × (Nat → Int32) × (Nat → Int32) × (Nat → Int32) × (Nat → Int32)) :=
  if v2 < (0 : Int32) then
    f_X12_meetPairs_83 m_gloves m_matters m_holding m_code m_value m_clauses m_testFrom m_sumFrom m_sumTo m_glove m_matter fu m_bestRow m_bestRise m_isFound m_letters m_stack m_now m_with (0 : Int32)
  else
    ob1 (f_X12_of m_glove v2 (0 : Int32)) fun r_1 =>
    if r_1 = (0 : Int32) then
      ob1 (f_X12_isFree m_now v2) fun r_3 =>
      if r_3 = (0 : Int32) then
        b_X12_meetPairs_41 m_gloves m_matters m_holding m_code m_value m_clauses m_testFrom m_sumFrom m_sumTo m_glove m_matter k16 m_bestRow m_bestRise m_isFound m_letters m_stack m_now m_with v1 v2
      else
        b_X12_meetPairs_42 m_gloves m_matters m_holding m_code m_value m_clauses m_testFrom m_sumFrom m_sumTo m_glove m_matter k16 m_bestRow m_bestRise m_isFound m_letters m_stack m_now m_with v1 v2 (1 : Int32)
    else
      b_X12_meetPairs_41 m_gloves m_matters m_holding m_code m_value m_clauses m_testFrom m_sumFrom m_sumTo m_glove m_matter k16 m_bestRow m_bestRise m_isFound m_letters m_stack m_now m_with v1 v2
noncomputable def f_X12_meetPairs_16 (m_gloves : Int32) (m_matters : Int32) (m_holding : Int32) (m_code : Nat → Int32) (m_value : Nat → Int32) (m_clauses : Nat → Int32) (m_testFrom : Nat → Int32) (m_sumFrom : Nat → Int32) (m_sumTo : Nat → Int32) (m_glove : Nat → Int32) (m_matter : Nat → Int32) : Nat → Int32 → Int32 → Int32 → (Nat → Int32) → (Nat → Int32) → (Nat → Int32) → (Nat → Int32) → Int32 → Int32 → Option (Int32 × Int32 × Int32 × (Nat → Int32) × (Nat → Int32) × (Nat → Int32) × (Nat → Int32))
  | 0, _, _, _, _, _, _, _, _, _ => none
  | n + 1, m_bestRow, m_bestRise, m_isFound, m_letters, m_stack, m_now, m_with, v1, v2 => b_X12_meetPairs_16 m_gloves m_matters m_holding m_code m_value m_clauses m_testFrom m_sumFrom m_sumTo m_glove m_matter (f_X12_meetPairs_16 m_gloves m_matters m_holding m_code m_value m_clauses m_testFrom m_sumFrom m_sumTo m_glove m_matter n) m_bestRow m_bestRise m_isFound m_letters m_stack m_now m_with v1 v2
noncomputable def b_X12_meetPairs_0 (m_gloves : Int32) (m_matters : Int32) (m_holding : Int32) (m_code : Nat → Int32) (m_value : Nat → Int32) (m_clauses : Nat → Int32) (m_testFrom : Nat → Int32) (m_sumFrom : Nat → Int32) (m_sumTo : Nat → Int32) (m_glove : Nat → Int32) (m_matter : Nat → Int32) (m_bestRow : Int32) (m_bestRise : Int32) (m_isFound : Int32) (m_letters : Nat → Int32) (m_stack : Nat → Int32) (m_now : Nat → Int32) (m_with : Nat → Int32) : Option (Int32 × Int32 × Int32 × (Nat → Int32) × (Nat → Int32) × (Nat → Int32) × (Nat → Int32)) :=
  ob5 (f_X12_layPairs m_gloves m_holding m_code m_value m_clauses m_testFrom m_sumFrom m_sumTo m_glove m_now m_bestRow m_bestRise m_isFound m_letters m_stack) fun m_bestRow_1 m_bestRise_2 m_isFound_3 m_letters_4 m_stack_5 =>
  bnd (m_gloves - (1 : Int32)) fun v2_7 =>
  f_X12_meetPairs_16 m_gloves m_matters m_holding m_code m_value m_clauses m_testFrom m_sumFrom m_sumTo m_glove m_matter fu m_bestRow_1 m_bestRise_2 m_isFound_3 m_letters_4 m_stack_5 m_now m_with m_bestRow_1 v2_7
noncomputable def f_X12_meetPairs (m_gloves : Int32) (m_matters : Int32) (m_holding : Int32) (m_code : Nat → Int32) (m_value : Nat → Int32) (m_clauses : Nat → Int32) (m_testFrom : Nat → Int32) (m_sumFrom : Nat → Int32) (m_sumTo : Nat → Int32) (m_glove : Nat → Int32) (m_matter : Nat → Int32) (m_bestRow : Int32) (m_bestRise : Int32) (m_isFound : Int32) (m_letters : Nat → Int32) (m_stack : Nat → Int32) (m_now : Nat → Int32) (m_with : Nat → Int32) : Option (Int32 × Int32 × Int32 × (Nat → Int32) × (Nat → Int32) × (Nat → Int32) × (Nat → Int32)) := b_X12_meetPairs_0 m_gloves m_matters m_holding m_code m_value m_clauses m_testFrom m_sumFrom m_sumTo m_glove m_matter m_bestRow m_bestRise m_isFound m_letters m_stack m_now m_with
noncomputable def b_X12_allKnow_71 (m_gloves : Int32) (m_matters : Int32) (m_holding : Int32) (m_code : Nat → Int32) (m_value : Nat → Int32) (m_clauses : Nat → Int32) (m_testFrom : Nat → Int32) (m_sumFrom : Nat → Int32) (m_sumTo : Nat → Int32) (m_glove : Nat → Int32) (m_matter : Nat → Int32) (k71 : Int32 → Int32 → Int32 → (Nat → Int32) → (Nat → Int32) → (Nat → Int32) → (Nat → Int32) → (Nat → Int32) → Int32 → Int32 → Int32 → Option (Int32 × Int32 × Int32 × Int32 × (Nat → Int32) × (Nat → Int32) × (Nat → Int32) × (Nat → Int32) × (Nat → Int32))) (m_bestRow : Int32) (m_bestRise : Int32) (m_isFound : Int32) (m_letters : Nat → Int32) (m_stack : Nat → Int32) (m_now : Nat → Int32) (m_with : Nat → Int32) (m_aside : Nat → Int32) (v1 : Int32) (v2 : Int32) (v3 : Int32) : Option (Int32 × Int32 × Int32 × Int32 × (Nat → Int32) × (Nat → Int32) × (Nat → Int32) × (Nat → Int32) × (Nat → Int32)) :=
  if (69 : Int32) ≤ v3 then
    if v2 = (0 : Int32) then
      some ((-1 : Int32), m_bestRow, m_bestRise, m_isFound, m_letters, m_stack, m_now, m_with, m_aside)
    else
      some (v1, m_bestRow, m_bestRise, m_isFound, m_letters, m_stack, m_now, m_with, m_aside)
  else
    gd (inB v3 69) <|
    gd (inB v3 250) <|
    bnd (upd m_now v3.toNatClampNeg (m_aside v3.toNatClampNeg)) fun m_now_3 =>
    bnd (v3 + (1 : Int32)) fun v3_4 =>
    k71 m_bestRow m_bestRise m_isFound m_letters m_stack m_now_3 m_with m_aside v1 v2 v3_4
noncomputable def f_X12_allKnow_71 (m_gloves : Int32) (m_matters : Int32) (m_holding : Int32) (m_code : Nat → Int32) (m_value : Nat → Int32) (m_clauses : Nat → Int32) (m_testFrom : Nat → Int32) (m_sumFrom : Nat → Int32) (m_sumTo : Nat → Int32) (m_glove : Nat → Int32) (m_matter : Nat → Int32) : Nat → Int32 → Int32 → Int32 → (Nat → Int32) → (Nat → Int32) → (Nat → Int32) → (Nat → Int32) → (Nat → Int32) → Int32 → Int32 → Int32 → Option (Int32 × Int32 × Int32 × Int32 × (Nat → Int32) × (Nat → Int32) × (Nat → Int32) × (Nat → Int32) × (Nat → Int32))
  | 0, _, _, _, _, _, _, _, _, _, _, _ => none
  | n + 1, m_bestRow, m_bestRise, m_isFound, m_letters, m_stack, m_now, m_with, m_aside, v1, v2, v3 => b_X12_allKnow_71 m_gloves m_matters m_holding m_code m_value m_clauses m_testFrom m_sumFrom m_sumTo m_glove m_matter (f_X12_allKnow_71 m_gloves m_matters m_holding m_code m_value m_clauses m_testFrom m_sumFrom m_sumTo m_glove m_matter n) m_bestRow m_bestRise m_isFound m_letters m_stack m_now m_with m_aside v1 v2 v3
noncomputable def b_X12_allKnow_64 (m_gloves : Int32) (m_matters : Int32) (m_holding : Int32) (m_code : Nat → Int32) (m_value : Nat → Int32) (m_clauses : Nat → Int32) (m_testFrom : Nat → Int32) (m_sumFrom : Nat → Int32) (m_sumTo : Nat → Int32) (m_glove : Nat → Int32) (m_matter : Nat → Int32) (m_bestRow : Int32) (m_bestRise : Int32) (m_isFound : Int32) (m_letters : Nat → Int32) (m_stack : Nat → Int32) (m_now : Nat → Int32) (m_with : Nat → Int32) (m_aside : Nat → Int32) (v1 : Int32) : Option (Int32 × Int32 × Int32 × Int32 × (Nat → Int32) × (Nat → Int32) × (Nat → Int32) × (Nat → Int32) × (Nat → Int32)) :=
  ob1 (f_X12_doAllKnow m_gloves m_now) fun r_1 =>
  f_X12_allKnow_71 m_gloves m_matters m_holding m_code m_value m_clauses m_testFrom m_sumFrom m_sumTo m_glove m_matter fu m_bestRow m_bestRise m_isFound m_letters m_stack m_now m_with m_aside v1 r_1 (0 : Int32)
noncomputable def b_X12_allKnow_37 (m_gloves : Int32) (m_matters : Int32) (m_holding : Int32) (m_code : Nat → Int32) (m_value : Nat → Int32) (m_clauses : Nat → Int32) (m_testFrom : Nat → Int32) (m_sumFrom : Nat → Int32) (m_sumTo : Nat → Int32) (m_glove : Nat → Int32) (m_matter : Nat → Int32) (k37 : Int32 → Int32 → Int32 → (Nat → Int32) → (Nat → Int32) → (Nat → Int32) → (Nat → Int32) → (Nat → Int32) → Int32 → Option (Int32 × Int32 × Int32 × Int32 × (Nat → Int32) × (Nat → Int32) × (Nat → Int32) × (Nat → Int32) × (Nat → Int32))) (m_bestRow : Int32) (m_bestRise : Int32) (m_isFound : Int32) (m_letters : Nat → Int32) (m_stack : Nat → Int32) (m_now : Nat → Int32) (m_with : Nat → Int32) (m_aside : Nat → Int32) (v1 : Int32) : Option (Int32 × Int32 × Int32 × Int32 × (Nat → Int32) × (Nat → Int32) × (Nat → Int32) × (Nat → Int32) × (Nat → Int32)) :=
  if (30 : Int32) ≤ v1 then
    b_X12_allKnow_64 m_gloves m_matters m_holding m_code m_value m_clauses m_testFrom m_sumFrom m_sumTo m_glove m_matter m_bestRow m_bestRise m_isFound m_letters m_stack m_now m_with m_aside v1
  else
    ob1 (f_X12_doAllKnow m_gloves m_now) fun r_1 =>
    if r_1 = (0 : Int32) then
      ob7 (f_X12_meetPairs m_gloves m_matters m_holding m_code m_value m_clauses m_testFrom m_sumFrom m_sumTo m_glove m_matter m_bestRow m_bestRise m_isFound m_letters m_stack m_now m_with) fun m_bestRow_3 m_bestRise_4 m_isFound_5 m_letters_6 m_stack_7 m_now_8 m_with_9 =>
      ob1 (f_X12_live m_gloves m_glove m_now_8) fun m_now_11 =>
      bnd (v1 + (1 : Int32)) fun v1_13 =>
      k37 m_bestRow_3 m_bestRise_4 m_isFound_5 m_letters_6 m_stack_7 m_now_11 m_with_9 m_aside v1_13
    else
      b_X12_allKnow_64 m_gloves m_matters m_holding m_code m_value m_clauses m_testFrom m_sumFrom m_sumTo m_glove m_matter m_bestRow m_bestRise m_isFound m_letters m_stack m_now m_with m_aside v1
noncomputable def f_X12_allKnow_37 (m_gloves : Int32) (m_matters : Int32) (m_holding : Int32) (m_code : Nat → Int32) (m_value : Nat → Int32) (m_clauses : Nat → Int32) (m_testFrom : Nat → Int32) (m_sumFrom : Nat → Int32) (m_sumTo : Nat → Int32) (m_glove : Nat → Int32) (m_matter : Nat → Int32) : Nat → Int32 → Int32 → Int32 → (Nat → Int32) → (Nat → Int32) → (Nat → Int32) → (Nat → Int32) → (Nat → Int32) → Int32 → Option (Int32 × Int32 × Int32 × Int32 × (Nat → Int32) × (Nat → Int32) × (Nat → Int32) × (Nat → Int32) × (Nat → Int32))
  | 0, _, _, _, _, _, _, _, _, _ => none
  | n + 1, m_bestRow, m_bestRise, m_isFound, m_letters, m_stack, m_now, m_with, m_aside, v1 => b_X12_allKnow_37 m_gloves m_matters m_holding m_code m_value m_clauses m_testFrom m_sumFrom m_sumTo m_glove m_matter (f_X12_allKnow_37 m_gloves m_matters m_holding m_code m_value m_clauses m_testFrom m_sumFrom m_sumTo m_glove m_matter n) m_bestRow m_bestRise m_isFound m_letters m_stack m_now m_with m_aside v1
noncomputable def b_X12_allKnow_11 (m_gloves : Int32) (m_matters : Int32) (m_holding : Int32) (m_code : Nat → Int32) (m_value : Nat → Int32) (m_clauses : Nat → Int32) (m_testFrom : Nat → Int32) (m_sumFrom : Nat → Int32) (m_sumTo : Nat → Int32) (m_glove : Nat → Int32) (m_matter : Nat → Int32) (k11 : Int32 → Int32 → Int32 → (Nat → Int32) → (Nat → Int32) → (Nat → Int32) → (Nat → Int32) → (Nat → Int32) → Int32 → Option (Int32 × Int32 × Int32 × Int32 × (Nat → Int32) × (Nat → Int32) × (Nat → Int32) × (Nat → Int32) × (Nat → Int32))) (m_bestRow : Int32) (m_bestRise : Int32) (m_isFound : Int32) (m_letters : Nat → Int32) (m_stack : Nat → Int32) (m_now : Nat → Int32) (m_with : Nat → Int32) (m_aside : Nat → Int32) (v1 : Int32) : Option (Int32 × Int32 × Int32 × Int32 × (Nat → Int32) × (Nat → Int32) × (Nat → Int32) × (Nat → Int32) × (Nat → Int32)) :=
  if (69 : Int32) ≤ v1 then
    f_X12_allKnow_37 m_gloves m_matters m_holding m_code m_value m_clauses m_testFrom m_sumFrom m_sumTo m_glove m_matter fu m_bestRow m_bestRise m_isFound m_letters m_stack m_now m_with m_aside (0 : Int32)
  else
    gd (inB v1 250) <|
    gd (inB v1 69) <|
    bnd (upd m_aside v1.toNatClampNeg (m_now v1.toNatClampNeg)) fun m_aside_3 =>
    bnd (v1 + (1 : Int32)) fun v1_4 =>
    k11 m_bestRow m_bestRise m_isFound m_letters m_stack m_now m_with m_aside_3 v1_4
noncomputable def f_X12_allKnow_11 (m_gloves : Int32) (m_matters : Int32) (m_holding : Int32) (m_code : Nat → Int32) (m_value : Nat → Int32) (m_clauses : Nat → Int32) (m_testFrom : Nat → Int32) (m_sumFrom : Nat → Int32) (m_sumTo : Nat → Int32) (m_glove : Nat → Int32) (m_matter : Nat → Int32) : Nat → Int32 → Int32 → Int32 → (Nat → Int32) → (Nat → Int32) → (Nat → Int32) → (Nat → Int32) → (Nat → Int32) → Int32 → Option (Int32 × Int32 × Int32 × Int32 × (Nat → Int32) × (Nat → Int32) × (Nat → Int32) × (Nat → Int32) × (Nat → Int32))
  | 0, _, _, _, _, _, _, _, _, _ => none
  | n + 1, m_bestRow, m_bestRise, m_isFound, m_letters, m_stack, m_now, m_with, m_aside, v1 => b_X12_allKnow_11 m_gloves m_matters m_holding m_code m_value m_clauses m_testFrom m_sumFrom m_sumTo m_glove m_matter (f_X12_allKnow_11 m_gloves m_matters m_holding m_code m_value m_clauses m_testFrom m_sumFrom m_sumTo m_glove m_matter n) m_bestRow m_bestRise m_isFound m_letters m_stack m_now m_with m_aside v1
noncomputable def b_X12_allKnow_0 (m_gloves : Int32) (m_matters : Int32) (m_holding : Int32) (m_code : Nat → Int32) (m_value : Nat → Int32) (m_clauses : Nat → Int32) (m_testFrom : Nat → Int32) (m_sumFrom : Nat → Int32) (m_sumTo : Nat → Int32) (m_glove : Nat → Int32) (m_matter : Nat → Int32) (m_bestRow : Int32) (m_bestRise : Int32) (m_isFound : Int32) (m_letters : Nat → Int32) (m_stack : Nat → Int32) (m_now : Nat → Int32) (m_with : Nat → Int32) (m_aside : Nat → Int32) : Option (Int32 × Int32 × Int32 × Int32 × (Nat → Int32) × (Nat → Int32) × (Nat → Int32) × (Nat → Int32) × (Nat → Int32)) :=
  if m_gloves = (0 : Int32) then
    some ((-1 : Int32), m_bestRow, m_bestRise, m_isFound, m_letters, m_stack, m_now, m_with, m_aside)
  else
    f_X12_allKnow_11 m_gloves m_matters m_holding m_code m_value m_clauses m_testFrom m_sumFrom m_sumTo m_glove m_matter fu m_bestRow m_bestRise m_isFound m_letters m_stack m_now m_with m_aside (0 : Int32)
noncomputable def f_X12_allKnow (m_gloves : Int32) (m_matters : Int32) (m_holding : Int32) (m_code : Nat → Int32) (m_value : Nat → Int32) (m_clauses : Nat → Int32) (m_testFrom : Nat → Int32) (m_sumFrom : Nat → Int32) (m_sumTo : Nat → Int32) (m_glove : Nat → Int32) (m_matter : Nat → Int32) (m_bestRow : Int32) (m_bestRise : Int32) (m_isFound : Int32) (m_letters : Nat → Int32) (m_stack : Nat → Int32) (m_now : Nat → Int32) (m_with : Nat → Int32) (m_aside : Nat → Int32) : Option (Int32 × Int32 × Int32 × Int32 × (Nat → Int32) × (Nat → Int32) × (Nat → Int32) × (Nat → Int32) × (Nat → Int32)) := b_X12_allKnow_0 m_gloves m_matters m_holding m_code m_value m_clauses m_testFrom m_sumFrom m_sumTo m_glove m_matter m_bestRow m_bestRise m_isFound m_letters m_stack m_now m_with m_aside
noncomputable def b_X12_seen_0 (m_gloves : Int32) (m_glove : Nat → Int32) (m_noted : Int32) (m_noteOne : Nat → Int32) (m_noteOther : Nat → Int32) (m_noteRise : Nat → Int32) (m_noteIs : Nat → Int32) (v1 : Int32) (v2 : Int32) (v3 : Int32) (v4 : Int32) : Option (Int32 × Int32 × (Nat → Int32) × (Nat → Int32) × (Nat → Int32) × (Nat → Int32)) :=
  ob1 (f_X12_areTwo m_gloves m_glove v1 v2) fun r_1 =>
  if r_1 = (0 : Int32) then
    some ((-1 : Int32), m_noted, m_noteOne, m_noteOther, m_noteRise, m_noteIs)
  else
    ob1 (f_X12_in v3 (-9 : Int32) (9 : Int32)) fun r_3 =>
    if r_3 = (0 : Int32) then
      some ((-1 : Int32), m_noted, m_noteOne, m_noteOther, m_noteRise, m_noteIs)
    else
      if m_noted = (10 : Int32) then
        some ((-1 : Int32), m_noted, m_noteOne, m_noteOther, m_noteRise, m_noteIs)
      else
        gd (inB m_noted 10) <|
        bnd (upd m_noteOne m_noted.toNatClampNeg v1) fun m_noteOne_6 =>
        gd (inB m_noted 10) <|
        bnd (upd m_noteOther m_noted.toNatClampNeg v2) fun m_noteOther_8 =>
        gd (inB m_noted 10) <|
        bnd (upd m_noteRise m_noted.toNatClampNeg v3) fun m_noteRise_10 =>
        gd (inB m_noted 10) <|
        bnd (upd m_noteIs m_noted.toNatClampNeg (vp_nar .boolean v4)) fun m_noteIs_12 =>
        bnd (m_noted + (1 : Int32)) fun noted_13 =>
        some (noted_13, noted_13, m_noteOne_6, m_noteOther_8, m_noteRise_10, m_noteIs_12)
noncomputable def f_X12_seen (m_gloves : Int32) (m_glove : Nat → Int32) (m_noted : Int32) (m_noteOne : Nat → Int32) (m_noteOther : Nat → Int32) (m_noteRise : Nat → Int32) (m_noteIs : Nat → Int32) (p1 : Int32) (p2 : Int32) (p3 : Int32) (p4 : Int32) : Option (Int32 × Int32 × (Nat → Int32) × (Nat → Int32) × (Nat → Int32) × (Nat → Int32)) := b_X12_seen_0 m_gloves m_glove m_noted m_noteOne m_noteOther m_noteRise m_noteIs p1 p2 p3 p4
noncomputable def b_X12_toldRise_0 (m_holding : Int32) (m_code : Nat → Int32) (m_value : Nat → Int32) (m_clauses : Nat → Int32) (m_testFrom : Nat → Int32) (m_sumFrom : Nat → Int32) (m_sumTo : Nat → Int32) (m_rule : Nat → Int32) (m_glove : Nat → Int32) (m_letters : Nat → Int32) (m_stack : Nat → Int32) (v1 : Int32) (v2 : Int32) (v3 : Int32) : Option (Int32 × (Nat → Int32) × (Nat → Int32)) :=
  ob1 (f_X12_of m_glove v2 (1 : Int32)) fun r_1 =>
  ob1 (f_X12_of m_glove v1 (2 : Int32)) fun r_3 =>
  ob1 (f_X12_of m_glove v2 (2 : Int32)) fun r_5 =>
  ob1 (f_X12_areAllies m_glove v1 v2) fun r_7 =>
  gd (inB (0 : Int32) 2) <|
  ob3 (f_X12_riseBy m_holding m_code m_value m_clauses m_testFrom m_sumFrom m_sumTo m_letters m_stack (v3 + r_1) (r_3 + r_5) (0 : Int32) r_7 (m_rule (0 : Int32).toNatClampNeg) (0 : Int32)) fun r_10 m_letters_11 m_stack_12 =>
  some (r_10, m_letters_11, m_stack_12)
noncomputable def f_X12_toldRise (m_holding : Int32) (m_code : Nat → Int32) (m_value : Nat → Int32) (m_clauses : Nat → Int32) (m_testFrom : Nat → Int32) (m_sumFrom : Nat → Int32) (m_sumTo : Nat → Int32) (m_rule : Nat → Int32) (m_glove : Nat → Int32) (m_letters : Nat → Int32) (m_stack : Nat → Int32) (p1 : Int32) (p2 : Int32) (p3 : Int32) : Option (Int32 × (Nat → Int32) × (Nat → Int32)) := b_X12_toldRise_0 m_holding m_code m_value m_clauses m_testFrom m_sumFrom m_sumTo m_rule m_glove m_letters m_stack p1 p2 p3
noncomputable def b_X12_isFreedom_90 (m_holding : Int32) (m_noted : Int32) (m_code : Nat → Int32) (m_value : Nat → Int32) (m_clauses : Nat → Int32) (m_testFrom : Nat → Int32) (m_sumFrom : Nat → Int32) (m_sumTo : Nat → Int32) (m_rule : Nat → Int32) (m_glove : Nat → Int32) (m_noteOne : Nat → Int32) (m_noteOther : Nat → Int32) (m_noteRise : Nat → Int32) (m_noteIs : Nat → Int32) (k2 : (Nat → Int32) → (Nat → Int32) → Int32 → Int32 → Int32 → Option (Int32 × (Nat → Int32) × (Nat → Int32))) (m_letters : Nat → Int32) (m_stack : Nat → Int32) (v1 : Int32) (v2 : Int32) (v3 : Int32) : Option (Int32 × (Nat → Int32) × (Nat → Int32)) :=
  bnd (v3 + (1 : Int32)) fun v3_1 =>
  k2 m_letters m_stack v1 v2 v3_1
noncomputable def b_X12_isFreedom_79 (m_holding : Int32) (m_noted : Int32) (m_code : Nat → Int32) (m_value : Nat → Int32) (m_clauses : Nat → Int32) (m_testFrom : Nat → Int32) (m_sumFrom : Nat → Int32) (m_sumTo : Nat → Int32) (m_rule : Nat → Int32) (m_glove : Nat → Int32) (m_noteOne : Nat → Int32) (m_noteOther : Nat → Int32) (m_noteRise : Nat → Int32) (m_noteIs : Nat → Int32) (k2 : (Nat → Int32) → (Nat → Int32) → Int32 → Int32 → Int32 → Option (Int32 × (Nat → Int32) × (Nat → Int32))) (m_letters : Nat → Int32) (m_stack : Nat → Int32) (v1 : Int32) (v2 : Int32) (v3 : Int32) (t0 : Int32) : Option (Int32 × (Nat → Int32) × (Nat → Int32)) :=
  gd (inB v3 10) <|
  if t0 = (m_noteIs v3.toNatClampNeg) then
    b_X12_isFreedom_90 m_holding m_noted m_code m_value m_clauses m_testFrom m_sumFrom m_sumTo m_rule m_glove m_noteOne m_noteOther m_noteRise m_noteIs k2 m_letters m_stack v1 v2 v3
  else
    some ((0 : Int32), m_letters, m_stack)
noncomputable def b_X12_isFreedom_55 (m_holding : Int32) (m_noted : Int32) (m_code : Nat → Int32) (m_value : Nat → Int32) (m_clauses : Nat → Int32) (m_testFrom : Nat → Int32) (m_sumFrom : Nat → Int32) (m_sumTo : Nat → Int32) (m_rule : Nat → Int32) (m_glove : Nat → Int32) (m_noteOne : Nat → Int32) (m_noteOther : Nat → Int32) (m_noteRise : Nat → Int32) (m_noteIs : Nat → Int32) (k2 : (Nat → Int32) → (Nat → Int32) → Int32 → Int32 → Int32 → Option (Int32 × (Nat → Int32) × (Nat → Int32))) (m_letters : Nat → Int32) (m_stack : Nat → Int32) (v1 : Int32) (v2 : Int32) (v3 : Int32) (t0 : Int32) : Option (Int32 × (Nat → Int32) × (Nat → Int32)) :=
  ob3 (f_X12_toldRise m_holding m_code m_value m_clauses m_testFrom m_sumFrom m_sumTo m_rule m_glove m_letters m_stack v1 t0 v2) fun r_1 m_letters_2 m_stack_3 =>
  gd (inB v3 10) <|
  if r_1 < (m_noteRise v3.toNatClampNeg) then
    b_X12_isFreedom_79 m_holding m_noted m_code m_value m_clauses m_testFrom m_sumFrom m_sumTo m_rule m_glove m_noteOne m_noteOther m_noteRise m_noteIs k2 m_letters_2 m_stack_3 v1 v2 v3 (0 : Int32)
  else
    b_X12_isFreedom_79 m_holding m_noted m_code m_value m_clauses m_testFrom m_sumFrom m_sumTo m_rule m_glove m_noteOne m_noteOther m_noteRise m_noteIs k2 m_letters_2 m_stack_3 v1 v2 v3 (1 : Int32)
noncomputable def b_X12_isFreedom_30 (m_holding : Int32) (m_noted : Int32) (m_code : Nat → Int32) (m_value : Nat → Int32) (m_clauses : Nat → Int32) (m_testFrom : Nat → Int32) (m_sumFrom : Nat → Int32) (m_sumTo : Nat → Int32) (m_rule : Nat → Int32) (m_glove : Nat → Int32) (m_noteOne : Nat → Int32) (m_noteOther : Nat → Int32) (m_noteRise : Nat → Int32) (m_noteIs : Nat → Int32) (k2 : (Nat → Int32) → (Nat → Int32) → Int32 → Int32 → Int32 → Option (Int32 × (Nat → Int32) × (Nat → Int32))) (m_letters : Nat → Int32) (m_stack : Nat → Int32) (v1 : Int32) (v2 : Int32) (v3 : Int32) : Option (Int32 × (Nat → Int32) × (Nat → Int32)) :=
  gd (inB v3 10) <|
  if (m_noteOne v3.toNatClampNeg) = v1 then
    gd (inB v3 10) <|
    b_X12_isFreedom_55 m_holding m_noted m_code m_value m_clauses m_testFrom m_sumFrom m_sumTo m_rule m_glove m_noteOne m_noteOther m_noteRise m_noteIs k2 m_letters m_stack v1 v2 v3 (m_noteOther v3.toNatClampNeg)
  else
    gd (inB v3 10) <|
    b_X12_isFreedom_55 m_holding m_noted m_code m_value m_clauses m_testFrom m_sumFrom m_sumTo m_rule m_glove m_noteOne m_noteOther m_noteRise m_noteIs k2 m_letters m_stack v1 v2 v3 (m_noteOne v3.toNatClampNeg)
noncomputable def b_X12_isFreedom_2 (m_holding : Int32) (m_noted : Int32) (m_code : Nat → Int32) (m_value : Nat → Int32) (m_clauses : Nat → Int32) (m_testFrom : Nat → Int32) (m_sumFrom : Nat → Int32) (m_sumTo : Nat → Int32) (m_rule : Nat → Int32) (m_glove : Nat → Int32) (m_noteOne : Nat → Int32) (m_noteOther : Nat → Int32) (m_noteRise : Nat → Int32) (m_noteIs : Nat → Int32) (k2 : (Nat → Int32) → (Nat → Int32) → Int32 → Int32 → Int32 → Option (Int32 × (Nat → Int32) × (Nat → Int32))) (m_letters : Nat → Int32) (m_stack : Nat → Int32) (v1 : Int32) (v2 : Int32) (v3 : Int32) : Option (Int32 × (Nat → Int32) × (Nat → Int32)) :=
  if m_noted ≤ v3 then
    some ((1 : Int32), m_letters, m_stack)
  else
    gd (inB v3 10) <|
    if (m_noteOne v3.toNatClampNeg) = v1 then
      b_X12_isFreedom_30 m_holding m_noted m_code m_value m_clauses m_testFrom m_sumFrom m_sumTo m_rule m_glove m_noteOne m_noteOther m_noteRise m_noteIs k2 m_letters m_stack v1 v2 v3
    else
      gd (inB v3 10) <|
      if (m_noteOther v3.toNatClampNeg) = v1 then
        b_X12_isFreedom_30 m_holding m_noted m_code m_value m_clauses m_testFrom m_sumFrom m_sumTo m_rule m_glove m_noteOne m_noteOther m_noteRise m_noteIs k2 m_letters m_stack v1 v2 v3
      else
        b_X12_isFreedom_90 m_holding m_noted m_code m_value m_clauses m_testFrom m_sumFrom m_sumTo m_rule m_glove m_noteOne m_noteOther m_noteRise m_noteIs k2 m_letters m_stack v1 v2 v3
noncomputable def f_X12_isFreedom_2 (m_holding : Int32) (m_noted : Int32) (m_code : Nat → Int32) (m_value : Nat → Int32) (m_clauses : Nat → Int32) (m_testFrom : Nat → Int32) (m_sumFrom : Nat → Int32) (m_sumTo : Nat → Int32) (m_rule : Nat → Int32) (m_glove : Nat → Int32) (m_noteOne : Nat → Int32) (m_noteOther : Nat → Int32) (m_noteRise : Nat → Int32) (m_noteIs : Nat → Int32) : Nat → (Nat → Int32) → (Nat → Int32) → Int32 → Int32 → Int32 → Option (Int32 × (Nat → Int32) × (Nat → Int32))
  | 0, _, _, _, _, _ => none
  | n + 1, m_letters, m_stack, v1, v2, v3 => b_X12_isFreedom_2 m_holding m_noted m_code m_value m_clauses m_testFrom m_sumFrom m_sumTo m_rule m_glove m_noteOne m_noteOther m_noteRise m_noteIs (f_X12_isFreedom_2 m_holding m_noted m_code m_value m_clauses m_testFrom m_sumFrom m_sumTo m_rule m_glove m_noteOne m_noteOther m_noteRise m_noteIs n) m_letters m_stack v1 v2 v3
noncomputable def b_X12_isFreedom_0 (m_holding : Int32) (m_noted : Int32) (m_code : Nat → Int32) (m_value : Nat → Int32) (m_clauses : Nat → Int32) (m_testFrom : Nat → Int32) (m_sumFrom : Nat → Int32) (m_sumTo : Nat → Int32) (m_rule : Nat → Int32) (m_glove : Nat → Int32) (m_noteOne : Nat → Int32) (m_noteOther : Nat → Int32) (m_noteRise : Nat → Int32) (m_noteIs : Nat → Int32) (m_letters : Nat → Int32) (m_stack : Nat → Int32) (v1 : Int32) (v2 : Int32) : Option (Int32 × (Nat → Int32) × (Nat → Int32)) :=
  f_X12_isFreedom_2 m_holding m_noted m_code m_value m_clauses m_testFrom m_sumFrom m_sumTo m_rule m_glove m_noteOne m_noteOther m_noteRise m_noteIs fu m_letters m_stack v1 v2 (0 : Int32)
noncomputable def f_X12_isFreedom (m_holding : Int32) (m_noted : Int32) (m_code : Nat → Int32) (m_value : Nat → Int32) (m_clauses : Nat → Int32) (m_testFrom : Nat → Int32) (m_sumFrom : Nat → Int32) (m_sumTo : Nat → Int32) (m_rule : Nat → Int32) (m_glove : Nat → Int32) (m_noteOne : Nat → Int32) (m_noteOther : Nat → Int32) (m_noteRise : Nat → Int32) (m_noteIs : Nat → Int32) (m_letters : Nat → Int32) (m_stack : Nat → Int32) (p1 : Int32) (p2 : Int32) : Option (Int32 × (Nat → Int32) × (Nat → Int32)) := b_X12_isFreedom_0 m_holding m_noted m_code m_value m_clauses m_testFrom m_sumFrom m_sumTo m_rule m_glove m_noteOne m_noteOther m_noteRise m_noteIs m_letters m_stack p1 p2
noncomputable def b_X12_fits_48 (m_gloves : Int32) (m_holding : Int32) (m_noted : Int32) (m_code : Nat → Int32) (m_value : Nat → Int32) (m_clauses : Nat → Int32) (m_testFrom : Nat → Int32) (m_sumFrom : Nat → Int32) (m_sumTo : Nat → Int32) (m_rule : Nat → Int32) (m_glove : Nat → Int32) (m_noteOne : Nat → Int32) (m_noteOther : Nat → Int32) (m_noteRise : Nat → Int32) (m_noteIs : Nat → Int32) (k20 : (Nat → Int32) → (Nat → Int32) → Int32 → Int32 → Int32 → Int32 → Option (Int32 × (Nat → Int32) × (Nat → Int32))) (m_letters : Nat → Int32) (m_stack : Nat → Int32) (v1 : Int32) (v2 : Int32) (v3 : Int32) (v4 : Int32) : Option (Int32 × (Nat → Int32) × (Nat → Int32)) :=
  bnd (v4 + (1 : Int32)) fun v4_1 =>
  k20 m_letters m_stack v1 v2 v3 v4_1
noncomputable def b_X12_fits_20 (m_gloves : Int32) (m_holding : Int32) (m_noted : Int32) (m_code : Nat → Int32) (m_value : Nat → Int32) (m_clauses : Nat → Int32) (m_testFrom : Nat → Int32) (m_sumFrom : Nat → Int32) (m_sumTo : Nat → Int32) (m_rule : Nat → Int32) (m_glove : Nat → Int32) (m_noteOne : Nat → Int32) (m_noteOther : Nat → Int32) (m_noteRise : Nat → Int32) (m_noteIs : Nat → Int32) (k20 : (Nat → Int32) → (Nat → Int32) → Int32 → Int32 → Int32 → Int32 → Option (Int32 × (Nat → Int32) × (Nat → Int32))) (m_letters : Nat → Int32) (m_stack : Nat → Int32) (v1 : Int32) (v2 : Int32) (v3 : Int32) (v4 : Int32) : Option (Int32 × (Nat → Int32) × (Nat → Int32)) :=
  if (9 : Int32) < v4 then
    if v2 = (-1 : Int32) then
      some (v3, m_letters, m_stack)
    else
      some ((-1 : Int32), m_letters, m_stack)
  else
    ob3 (f_X12_isFreedom m_holding m_noted m_code m_value m_clauses m_testFrom m_sumFrom m_sumTo m_rule m_glove m_noteOne m_noteOther m_noteRise m_noteIs m_letters m_stack v1 v4) fun r_1 m_letters_2 m_stack_3 =>
    if r_1 = (0 : Int32) then
      b_X12_fits_48 m_gloves m_holding m_noted m_code m_value m_clauses m_testFrom m_sumFrom m_sumTo m_rule m_glove m_noteOne m_noteOther m_noteRise m_noteIs k20 m_letters_2 m_stack_3 v1 v2 v3 v4
    else
      if v3 = v2 then
        some (v4, m_letters_2, m_stack_3)
      else
        bnd (v3 + (1 : Int32)) fun v3_5 =>
        b_X12_fits_48 m_gloves m_holding m_noted m_code m_value m_clauses m_testFrom m_sumFrom m_sumTo m_rule m_glove m_noteOne m_noteOther m_noteRise m_noteIs k20 m_letters_2 m_stack_3 v1 v2 v3_5 v4
noncomputable def f_X12_fits_20 (m_gloves : Int32) (m_holding : Int32) (m_noted : Int32) (m_code : Nat → Int32) (m_value : Nat → Int32) (m_clauses : Nat → Int32) (m_testFrom : Nat → Int32) (m_sumFrom : Nat → Int32) (m_sumTo : Nat → Int32) (m_rule : Nat → Int32) (m_glove : Nat → Int32) (m_noteOne : Nat → Int32) (m_noteOther : Nat → Int32) (m_noteRise : Nat → Int32) (m_noteIs : Nat → Int32) : Nat → (Nat → Int32) → (Nat → Int32) → Int32 → Int32 → Int32 → Int32 → Option (Int32 × (Nat → Int32) × (Nat → Int32))
  | 0, _, _, _, _, _, _ => none
  | n + 1, m_letters, m_stack, v1, v2, v3, v4 => b_X12_fits_20 m_gloves m_holding m_noted m_code m_value m_clauses m_testFrom m_sumFrom m_sumTo m_rule m_glove m_noteOne m_noteOther m_noteRise m_noteIs (f_X12_fits_20 m_gloves m_holding m_noted m_code m_value m_clauses m_testFrom m_sumFrom m_sumTo m_rule m_glove m_noteOne m_noteOther m_noteRise m_noteIs n) m_letters m_stack v1 v2 v3 v4
noncomputable def b_X12_fits_0 (m_gloves : Int32) (m_holding : Int32) (m_noted : Int32) (m_code : Nat → Int32) (m_value : Nat → Int32) (m_clauses : Nat → Int32) (m_testFrom : Nat → Int32) (m_sumFrom : Nat → Int32) (m_sumTo : Nat → Int32) (m_rule : Nat → Int32) (m_glove : Nat → Int32) (m_noteOne : Nat → Int32) (m_noteOther : Nat → Int32) (m_noteRise : Nat → Int32) (m_noteIs : Nat → Int32) (m_letters : Nat → Int32) (m_stack : Nat → Int32) (v1 : Int32) (v2 : Int32) : Option (Int32 × (Nat → Int32) × (Nat → Int32)) :=
  ob1 (f_X12_isGlove m_gloves v1) fun r_1 =>
  if r_1 = (0 : Int32) then
    some ((-1 : Int32), m_letters, m_stack)
  else
    if (-1 : Int32) ≤ v2 then
      f_X12_fits_20 m_gloves m_holding m_noted m_code m_value m_clauses m_testFrom m_sumFrom m_sumTo m_rule m_glove m_noteOne m_noteOther m_noteRise m_noteIs fu m_letters m_stack v1 v2 (0 : Int32) (0 : Int32)
    else
      some ((-1 : Int32), m_letters, m_stack)
noncomputable def f_X12_fits (m_gloves : Int32) (m_holding : Int32) (m_noted : Int32) (m_code : Nat → Int32) (m_value : Nat → Int32) (m_clauses : Nat → Int32) (m_testFrom : Nat → Int32) (m_sumFrom : Nat → Int32) (m_sumTo : Nat → Int32) (m_rule : Nat → Int32) (m_glove : Nat → Int32) (m_noteOne : Nat → Int32) (m_noteOther : Nat → Int32) (m_noteRise : Nat → Int32) (m_noteIs : Nat → Int32) (m_letters : Nat → Int32) (m_stack : Nat → Int32) (p1 : Int32) (p2 : Int32) : Option (Int32 × (Nat → Int32) × (Nat → Int32)) := b_X12_fits_0 m_gloves m_holding m_noted m_code m_value m_clauses m_testFrom m_sumFrom m_sumTo m_rule m_glove m_noteOne m_noteOther m_noteRise m_noteIs m_letters m_stack p1 p2
noncomputable def b_X12_ask_105 (m_gloves : Int32) (m_holding : Int32) (m_noted : Int32) (m_code : Nat → Int32) (m_value : Nat → Int32) (m_clauses : Nat → Int32) (m_testFrom : Nat → Int32) (m_sumFrom : Nat → Int32) (m_sumTo : Nat → Int32) (m_rule : Nat → Int32) (m_glove : Nat → Int32) (m_noteOne : Nat → Int32) (m_noteOther : Nat → Int32) (m_noteRise : Nat → Int32) (m_noteIs : Nat → Int32) (k39 : (Nat → Int32) → (Nat → Int32) → Int32 → Int32 → Int32 → Int32 → Int32 → Option (Int32 × (Nat → Int32) × (Nat → Int32))) (k54 : (Nat → Int32) → (Nat → Int32) → Int32 → Int32 → Int32 → Int32 → Int32 → Int32 → Int32 → Option (Int32 × (Nat → Int32) × (Nat → Int32))) (m_letters : Nat → Int32) (m_stack : Nat → Int32) (v1 : Int32) (v2 : Int32) (v3 : Int32) (v4 : Int32) (v5 : Int32) (v7 : Int32) (t0 : Int32) (t1 : Int32) : Option (Int32 × (Nat → Int32) × (Nat → Int32)) :=
  bnd (t0 + t1) fun v6_1 =>
  bnd (v7 + (1 : Int32)) fun v7_2 =>
  k54 m_letters m_stack v1 v2 v3 v4 v5 v6_1 v7_2
noncomputable def b_X12_ask_83 (m_gloves : Int32) (m_holding : Int32) (m_noted : Int32) (m_code : Nat → Int32) (m_value : Nat → Int32) (m_clauses : Nat → Int32) (m_testFrom : Nat → Int32) (m_sumFrom : Nat → Int32) (m_sumTo : Nat → Int32) (m_rule : Nat → Int32) (m_glove : Nat → Int32) (m_noteOne : Nat → Int32) (m_noteOther : Nat → Int32) (m_noteRise : Nat → Int32) (m_noteIs : Nat → Int32) (k39 : (Nat → Int32) → (Nat → Int32) → Int32 → Int32 → Int32 → Int32 → Int32 → Option (Int32 × (Nat → Int32) × (Nat → Int32))) (k54 : (Nat → Int32) → (Nat → Int32) → Int32 → Int32 → Int32 → Int32 → Int32 → Int32 → Int32 → Option (Int32 × (Nat → Int32) × (Nat → Int32))) (m_letters : Nat → Int32) (m_stack : Nat → Int32) (v1 : Int32) (v2 : Int32) (v3 : Int32) (v4 : Int32) (v5 : Int32) (v7 : Int32) (t0 : Int32) : Option (Int32 × (Nat → Int32) × (Nat → Int32)) :=
  b_X12_ask_105 m_gloves m_holding m_noted m_code m_value m_clauses m_testFrom m_sumFrom m_sumTo m_rule m_glove m_noteOne m_noteOther m_noteRise m_noteIs k39 k54 m_letters m_stack v1 v2 v3 v4 v5 v7 t0 (0 : Int32)
noncomputable def b_X12_ask_149 (m_gloves : Int32) (m_holding : Int32) (m_noted : Int32) (m_code : Nat → Int32) (m_value : Nat → Int32) (m_clauses : Nat → Int32) (m_testFrom : Nat → Int32) (m_sumFrom : Nat → Int32) (m_sumTo : Nat → Int32) (m_rule : Nat → Int32) (m_glove : Nat → Int32) (m_noteOne : Nat → Int32) (m_noteOther : Nat → Int32) (m_noteRise : Nat → Int32) (m_noteIs : Nat → Int32) (k39 : (Nat → Int32) → (Nat → Int32) → Int32 → Int32 → Int32 → Int32 → Int32 → Option (Int32 × (Nat → Int32) × (Nat → Int32))) (m_letters : Nat → Int32) (m_stack : Nat → Int32) (v1 : Int32) (v2 : Int32) (v3 : Int32) (v4 : Int32) (v5 : Int32) : Option (Int32 × (Nat → Int32) × (Nat → Int32)) :=
  bnd (v5 + (1 : Int32)) fun v5_1 =>
  k39 m_letters m_stack v1 v2 v3 v4 v5_1
noncomputable def b_X12_ask_139 (m_gloves : Int32) (m_holding : Int32) (m_noted : Int32) (m_code : Nat → Int32) (m_value : Nat → Int32) (m_clauses : Nat → Int32) (m_testFrom : Nat → Int32) (m_sumFrom : Nat → Int32) (m_sumTo : Nat → Int32) (m_rule : Nat → Int32) (m_glove : Nat → Int32) (m_noteOne : Nat → Int32) (m_noteOther : Nat → Int32) (m_noteRise : Nat → Int32) (m_noteIs : Nat → Int32) (k39 : (Nat → Int32) → (Nat → Int32) → Int32 → Int32 → Int32 → Int32 → Int32 → Option (Int32 × (Nat → Int32) × (Nat → Int32))) (m_letters : Nat → Int32) (m_stack : Nat → Int32) (v1 : Int32) (v2 : Int32) (v5 : Int32) (v6 : Int32) : Option (Int32 × (Nat → Int32) × (Nat → Int32)) :=
  bnd (ab v6) fun n_1 =>
  b_X12_ask_149 m_gloves m_holding m_noted m_code m_value m_clauses m_testFrom m_sumFrom m_sumTo m_rule m_glove m_noteOne m_noteOther m_noteRise m_noteIs k39 m_letters m_stack v1 v2 v5 n_1 v5
noncomputable def b_X12_ask_54 (m_gloves : Int32) (m_holding : Int32) (m_noted : Int32) (m_code : Nat → Int32) (m_value : Nat → Int32) (m_clauses : Nat → Int32) (m_testFrom : Nat → Int32) (m_sumFrom : Nat → Int32) (m_sumTo : Nat → Int32) (m_rule : Nat → Int32) (m_glove : Nat → Int32) (m_noteOne : Nat → Int32) (m_noteOther : Nat → Int32) (m_noteRise : Nat → Int32) (m_noteIs : Nat → Int32) (k39 : (Nat → Int32) → (Nat → Int32) → Int32 → Int32 → Int32 → Int32 → Int32 → Option (Int32 × (Nat → Int32) × (Nat → Int32))) (k54 : (Nat → Int32) → (Nat → Int32) → Int32 → Int32 → Int32 → Int32 → Int32 → Int32 → Int32 → Option (Int32 × (Nat → Int32) × (Nat → Int32))) (m_letters : Nat → Int32) (m_stack : Nat → Int32) (v1 : Int32) (v2 : Int32) (v3 : Int32) (v4 : Int32) (v5 : Int32) (v6 : Int32) (v7 : Int32) : Option (Int32 × (Nat → Int32) × (Nat → Int32)) :=
  if (9 : Int32) < v7 then
    ob1 (f_X12_areTwo m_gloves m_glove v1 v5) fun r_1 =>
    if r_1 = (0 : Int32) then
      b_X12_ask_149 m_gloves m_holding m_noted m_code m_value m_clauses m_testFrom m_sumFrom m_sumTo m_rule m_glove m_noteOne m_noteOther m_noteRise m_noteIs k39 m_letters m_stack v1 v2 v3 v4 v5
    else
      if v3 = (-1 : Int32) then
        b_X12_ask_139 m_gloves m_holding m_noted m_code m_value m_clauses m_testFrom m_sumFrom m_sumTo m_rule m_glove m_noteOne m_noteOther m_noteRise m_noteIs k39 m_letters m_stack v1 v2 v5 v6
      else
        bnd (ab v6) fun n_3 =>
        if v4 ≤ n_3 then
          b_X12_ask_149 m_gloves m_holding m_noted m_code m_value m_clauses m_testFrom m_sumFrom m_sumTo m_rule m_glove m_noteOne m_noteOther m_noteRise m_noteIs k39 m_letters m_stack v1 v2 v3 v4 v5
        else
          b_X12_ask_139 m_gloves m_holding m_noted m_code m_value m_clauses m_testFrom m_sumFrom m_sumTo m_rule m_glove m_noteOne m_noteOther m_noteRise m_noteIs k39 m_letters m_stack v1 v2 v5 v6
  else
    ob1 (f_X12_areTwo m_gloves m_glove v1 v5) fun r_4 =>
    if r_4 = (0 : Int32) then
      b_X12_ask_83 m_gloves m_holding m_noted m_code m_value m_clauses m_testFrom m_sumFrom m_sumTo m_rule m_glove m_noteOne m_noteOther m_noteRise m_noteIs k39 k54 m_letters m_stack v1 v2 v3 v4 v5 v7 v6
    else
      ob3 (f_X12_isFreedom m_holding m_noted m_code m_value m_clauses m_testFrom m_sumFrom m_sumTo m_rule m_glove m_noteOne m_noteOther m_noteRise m_noteIs m_letters m_stack v1 v7) fun r_6 m_letters_7 m_stack_8 =>
      if r_6 = (0 : Int32) then
        b_X12_ask_83 m_gloves m_holding m_noted m_code m_value m_clauses m_testFrom m_sumFrom m_sumTo m_rule m_glove m_noteOne m_noteOther m_noteRise m_noteIs k39 k54 m_letters_7 m_stack_8 v1 v2 v3 v4 v5 v7 v6
      else
        ob3 (f_X12_toldRise m_holding m_code m_value m_clauses m_testFrom m_sumFrom m_sumTo m_rule m_glove m_letters_7 m_stack_8 v1 v5 v7) fun r_10 m_letters_11 m_stack_12 =>
        if r_10 < v2 then
          b_X12_ask_105 m_gloves m_holding m_noted m_code m_value m_clauses m_testFrom m_sumFrom m_sumTo m_rule m_glove m_noteOne m_noteOther m_noteRise m_noteIs k39 k54 m_letters_11 m_stack_12 v1 v2 v3 v4 v5 v7 v6 (-1 : Int32)
        else
          b_X12_ask_105 m_gloves m_holding m_noted m_code m_value m_clauses m_testFrom m_sumFrom m_sumTo m_rule m_glove m_noteOne m_noteOther m_noteRise m_noteIs k39 k54 m_letters_11 m_stack_12 v1 v2 v3 v4 v5 v7 v6 (1 : Int32)
noncomputable def f_X12_ask_54 (m_gloves : Int32) (m_holding : Int32) (m_noted : Int32) (m_code : Nat → Int32) (m_value : Nat → Int32) (m_clauses : Nat → Int32) (m_testFrom : Nat → Int32) (m_sumFrom : Nat → Int32) (m_sumTo : Nat → Int32) (m_rule : Nat → Int32) (m_glove : Nat → Int32) (m_noteOne : Nat → Int32) (m_noteOther : Nat → Int32) (m_noteRise : Nat → Int32) (m_noteIs : Nat → Int32) (k39 : (Nat → Int32) → (Nat → Int32) → Int32 → Int32 → Int32 → Int32 → Int32 → Option (Int32 × (Nat → Int32) × (Nat → Int32))) : Nat → (Nat → Int32) → (Nat → Int32) → Int32 → Int32 → Int32 → Int32 → Int32 → Int32 → Int32 → Option (Int32 × (Nat → Int32) × (Nat → Int32))
  | 0, _, _, _, _, _, _, _, _, _ => none
  | n + 1, m_letters, m_stack, v1, v2, v3, v4, v5, v6, v7 => b_X12_ask_54 m_gloves m_holding m_noted m_code m_value m_clauses m_testFrom m_sumFrom m_sumTo m_rule m_glove m_noteOne m_noteOther m_noteRise m_noteIs k39 (f_X12_ask_54 m_gloves m_holding m_noted m_code m_value m_clauses m_testFrom m_sumFrom m_sumTo m_rule m_glove m_noteOne m_noteOther m_noteRise m_noteIs k39 n) m_letters m_stack v1 v2 v3 v4 v5 v6 v7
noncomputable def b_X12_ask_39 (m_gloves : Int32) (m_holding : Int32) (m_noted : Int32) (m_code : Nat → Int32) (m_value : Nat → Int32) (m_clauses : Nat → Int32) (m_testFrom : Nat → Int32) (m_sumFrom : Nat → Int32) (m_sumTo : Nat → Int32) (m_rule : Nat → Int32) (m_glove : Nat → Int32) (m_noteOne : Nat → Int32) (m_noteOther : Nat → Int32) (m_noteRise : Nat → Int32) (m_noteIs : Nat → Int32) (k39 : (Nat → Int32) → (Nat → Int32) → Int32 → Int32 → Int32 → Int32 → Int32 → Option (Int32 × (Nat → Int32) × (Nat → Int32))) (m_letters : Nat → Int32) (m_stack : Nat → Int32) (v1 : Int32) (v2 : Int32) (v3 : Int32) (v4 : Int32) (v5 : Int32) : Option (Int32 × (Nat → Int32) × (Nat → Int32)) :=
  if m_gloves ≤ v5 then
    some (v3, m_letters, m_stack)
  else
    f_X12_ask_54 m_gloves m_holding m_noted m_code m_value m_clauses m_testFrom m_sumFrom m_sumTo m_rule m_glove m_noteOne m_noteOther m_noteRise m_noteIs k39 fu m_letters m_stack v1 v2 v3 v4 v5 (0 : Int32) (0 : Int32)
noncomputable def f_X12_ask_39 (m_gloves : Int32) (m_holding : Int32) (m_noted : Int32) (m_code : Nat → Int32) (m_value : Nat → Int32) (m_clauses : Nat → Int32) (m_testFrom : Nat → Int32) (m_sumFrom : Nat → Int32) (m_sumTo : Nat → Int32) (m_rule : Nat → Int32) (m_glove : Nat → Int32) (m_noteOne : Nat → Int32) (m_noteOther : Nat → Int32) (m_noteRise : Nat → Int32) (m_noteIs : Nat → Int32) : Nat → (Nat → Int32) → (Nat → Int32) → Int32 → Int32 → Int32 → Int32 → Int32 → Option (Int32 × (Nat → Int32) × (Nat → Int32))
  | 0, _, _, _, _, _, _, _ => none
  | n + 1, m_letters, m_stack, v1, v2, v3, v4, v5 => b_X12_ask_39 m_gloves m_holding m_noted m_code m_value m_clauses m_testFrom m_sumFrom m_sumTo m_rule m_glove m_noteOne m_noteOther m_noteRise m_noteIs (f_X12_ask_39 m_gloves m_holding m_noted m_code m_value m_clauses m_testFrom m_sumFrom m_sumTo m_rule m_glove m_noteOne m_noteOther m_noteRise m_noteIs n) m_letters m_stack v1 v2 v3 v4 v5
noncomputable def b_X12_ask_0 (m_gloves : Int32) (m_holding : Int32) (m_noted : Int32) (m_code : Nat → Int32) (m_value : Nat → Int32) (m_clauses : Nat → Int32) (m_testFrom : Nat → Int32) (m_sumFrom : Nat → Int32) (m_sumTo : Nat → Int32) (m_rule : Nat → Int32) (m_glove : Nat → Int32) (m_noteOne : Nat → Int32) (m_noteOther : Nat → Int32) (m_noteRise : Nat → Int32) (m_noteIs : Nat → Int32) (m_letters : Nat → Int32) (m_stack : Nat → Int32) (v1 : Int32) (v2 : Int32) : Option (Int32 × (Nat → Int32) × (Nat → Int32)) :=
  ob1 (f_X12_isGlove m_gloves v1) fun r_1 =>
  if r_1 = (0 : Int32) then
    some ((-1 : Int32), m_letters, m_stack)
  else
    ob1 (f_X12_in v2 (-9 : Int32) (9 : Int32)) fun r_3 =>
    if r_3 = (0 : Int32) then
      some ((-1 : Int32), m_letters, m_stack)
    else
      ob3 (f_X12_fits m_gloves m_holding m_noted m_code m_value m_clauses m_testFrom m_sumFrom m_sumTo m_rule m_glove m_noteOne m_noteOther m_noteRise m_noteIs m_letters m_stack v1 (0 : Int32)) fun r_5 m_letters_6 m_stack_7 =>
      if r_5 = (-1 : Int32) then
        some ((-1 : Int32), m_letters_6, m_stack_7)
      else
        f_X12_ask_39 m_gloves m_holding m_noted m_code m_value m_clauses m_testFrom m_sumFrom m_sumTo m_rule m_glove m_noteOne m_noteOther m_noteRise m_noteIs fu m_letters_6 m_stack_7 v1 v2 (-1 : Int32) (0 : Int32) (0 : Int32)
noncomputable def f_X12_ask (m_gloves : Int32) (m_holding : Int32) (m_noted : Int32) (m_code : Nat → Int32) (m_value : Nat → Int32) (m_clauses : Nat → Int32) (m_testFrom : Nat → Int32) (m_sumFrom : Nat → Int32) (m_sumTo : Nat → Int32) (m_rule : Nat → Int32) (m_glove : Nat → Int32) (m_noteOne : Nat → Int32) (m_noteOther : Nat → Int32) (m_noteRise : Nat → Int32) (m_noteIs : Nat → Int32) (m_letters : Nat → Int32) (m_stack : Nat → Int32) (p1 : Int32) (p2 : Int32) : Option (Int32 × (Nat → Int32) × (Nat → Int32)) := b_X12_ask_0 m_gloves m_holding m_noted m_code m_value m_clauses m_testFrom m_sumFrom m_sumTo m_rule m_glove m_noteOne m_noteOther m_noteRise m_noteIs m_letters m_stack p1 p2
noncomputable def b_X12_gloveOf_36 (m_gloves : Int32) (m_glove : Nat → Int32) (k5 : Int32 → Int32 → Int32 → Int32 → Option (Int32)) (v1 : Int32) (v2 : Int32) (v3 : Int32) (v4 : Int32) : Option (Int32) :=
  bnd (v4 + (1 : Int32)) fun v4_1 =>
  k5 v1 v2 v3 v4_1
noncomputable def b_X12_gloveOf_5 (m_gloves : Int32) (m_glove : Nat → Int32) (k5 : Int32 → Int32 → Int32 → Int32 → Option (Int32)) (v1 : Int32) (v2 : Int32) (v3 : Int32) (v4 : Int32) : Option (Int32) :=
  if m_gloves ≤ v4 then
    some (-1 : Int32)
  else
    ob1 (f_X12_of m_glove v4 (0 : Int32)) fun r_1 =>
    if r_1 = v1 then
      if v3 = v2 then
        some v4
      else
        bnd (v3 + (1 : Int32)) fun v3_3 =>
        b_X12_gloveOf_36 m_gloves m_glove k5 v1 v2 v3_3 v4
    else
      b_X12_gloveOf_36 m_gloves m_glove k5 v1 v2 v3 v4
noncomputable def f_X12_gloveOf_5 (m_gloves : Int32) (m_glove : Nat → Int32) : Nat → Int32 → Int32 → Int32 → Int32 → Option (Int32)
  | 0, _, _, _, _ => none
  | n + 1, v1, v2, v3, v4 => b_X12_gloveOf_5 m_gloves m_glove (f_X12_gloveOf_5 m_gloves m_glove n) v1 v2 v3 v4
noncomputable def b_X12_gloveOf_0 (m_gloves : Int32) (m_glove : Nat → Int32) (v1 : Int32) (v2 : Int32) : Option (Int32) :=
  f_X12_gloveOf_5 m_gloves m_glove fu v1 v2 (0 : Int32) (0 : Int32)
noncomputable def f_X12_gloveOf (m_gloves : Int32) (m_glove : Nat → Int32) (p1 : Int32) (p2 : Int32) : Option (Int32) := b_X12_gloveOf_0 m_gloves m_glove p1 p2
noncomputable def b_X12_gameOf_50 (m_gloves : Int32) (m_holding : Int32) (m_code : Nat → Int32) (m_value : Nat → Int32) (m_clauses : Nat → Int32) (m_testFrom : Nat → Int32) (m_sumFrom : Nat → Int32) (m_sumTo : Nat → Int32) (m_glove : Nat → Int32) (m_now : Nat → Int32) (m_letters : Nat → Int32) (m_stack : Nat → Int32) : Option (Int32 × (Nat → Int32) × (Nat → Int32)) :=
  some ((0 : Int32), m_letters, m_stack)
noncomputable def b_X12_gameOf_27 (m_gloves : Int32) (m_holding : Int32) (m_code : Nat → Int32) (m_value : Nat → Int32) (m_clauses : Nat → Int32) (m_testFrom : Nat → Int32) (m_sumFrom : Nat → Int32) (m_sumTo : Nat → Int32) (m_glove : Nat → Int32) (m_now : Nat → Int32) (m_letters : Nat → Int32) (m_stack : Nat → Int32) (v4 : Int32) (v5 : Int32) (t0 : Int32) : Option (Int32 × (Nat → Int32) × (Nat → Int32)) :=
  if t0 = (-1 : Int32) then
    some ((-20 : Int32), m_letters, m_stack)
  else
    if v4 = (-1 : Int32) then
      b_X12_gameOf_50 m_gloves m_holding m_code m_value m_clauses m_testFrom m_sumFrom m_sumTo m_glove m_now m_letters m_stack
    else
      if v5 = (-1 : Int32) then
        b_X12_gameOf_50 m_gloves m_holding m_code m_value m_clauses m_testFrom m_sumFrom m_sumTo m_glove m_now m_letters m_stack
      else
        ob3 (f_X12_riseOf m_holding m_code m_value m_clauses m_testFrom m_sumFrom m_sumTo m_glove m_now m_letters m_stack v4 v5) fun r_1 m_letters_2 m_stack_3 =>
        gd (inB ((36 : Int32) + t0) 250) <|
        bnd (r_1 - ((m_now ((36 : Int32) + t0).toNatClampNeg) / (3 : Int32))) fun n_6 =>
        some (n_6, m_letters_2, m_stack_3)
noncomputable def b_X12_gameOf_0 (m_gloves : Int32) (m_holding : Int32) (m_code : Nat → Int32) (m_value : Nat → Int32) (m_clauses : Nat → Int32) (m_testFrom : Nat → Int32) (m_sumFrom : Nat → Int32) (m_sumTo : Nat → Int32) (m_glove : Nat → Int32) (m_now : Nat → Int32) (m_letters : Nat → Int32) (m_stack : Nat → Int32) (v1 : Int32) (v2 : Int32) (v3 : Int32) : Option (Int32 × (Nat → Int32) × (Nat → Int32)) :=
  ob1 (f_X12_gloveOf m_gloves m_glove (0 : Int32) v1) fun r_1 =>
  ob1 (f_X12_gloveOf m_gloves m_glove (1 : Int32) v2) fun r_3 =>
  if v3 = (0 : Int32) then
    b_X12_gameOf_27 m_gloves m_holding m_code m_value m_clauses m_testFrom m_sumFrom m_sumTo m_glove m_now m_letters m_stack r_1 r_3 r_1
  else
    b_X12_gameOf_27 m_gloves m_holding m_code m_value m_clauses m_testFrom m_sumFrom m_sumTo m_glove m_now m_letters m_stack r_1 r_3 r_3
noncomputable def f_X12_gameOf (m_gloves : Int32) (m_holding : Int32) (m_code : Nat → Int32) (m_value : Nat → Int32) (m_clauses : Nat → Int32) (m_testFrom : Nat → Int32) (m_sumFrom : Nat → Int32) (m_sumTo : Nat → Int32) (m_glove : Nat → Int32) (m_now : Nat → Int32) (m_letters : Nat → Int32) (m_stack : Nat → Int32) (p1 : Int32) (p2 : Int32) (p3 : Int32) : Option (Int32 × (Nat → Int32) × (Nat → Int32)) := b_X12_gameOf_0 m_gloves m_holding m_code m_value m_clauses m_testFrom m_sumFrom m_sumTo m_glove m_now m_letters m_stack p1 p2 p3
noncomputable def b_X12_game_34 (m_gloves : Int32) (m_holding : Int32) (m_code : Nat → Int32) (m_value : Nat → Int32) (m_clauses : Nat → Int32) (m_testFrom : Nat → Int32) (m_sumFrom : Nat → Int32) (m_sumTo : Nat → Int32) (m_glove : Nat → Int32) (m_now : Nat → Int32) (m_letters : Nat → Int32) (m_stack : Nat → Int32) : Option (Int32 × (Nat → Int32) × (Nat → Int32)) :=
  some ((-1000000 : Int32), m_letters, m_stack)
noncomputable def b_X12_game_0 (m_gloves : Int32) (m_holding : Int32) (m_code : Nat → Int32) (m_value : Nat → Int32) (m_clauses : Nat → Int32) (m_testFrom : Nat → Int32) (m_sumFrom : Nat → Int32) (m_sumTo : Nat → Int32) (m_glove : Nat → Int32) (m_now : Nat → Int32) (m_letters : Nat → Int32) (m_stack : Nat → Int32) (v1 : Int32) (v2 : Int32) (v3 : Int32) : Option (Int32 × (Nat → Int32) × (Nat → Int32)) :=
  if m_gloves = (0 : Int32) then
    b_X12_game_34 m_gloves m_holding m_code m_value m_clauses m_testFrom m_sumFrom m_sumTo m_glove m_now m_letters m_stack
  else
    ob1 (f_X12_in v1 (0 : Int32) (4 : Int32)) fun r_1 =>
    if r_1 = (0 : Int32) then
      b_X12_game_34 m_gloves m_holding m_code m_value m_clauses m_testFrom m_sumFrom m_sumTo m_glove m_now m_letters m_stack
    else
      ob1 (f_X12_in v2 (0 : Int32) (4 : Int32)) fun r_3 =>
      if r_3 = (0 : Int32) then
        b_X12_game_34 m_gloves m_holding m_code m_value m_clauses m_testFrom m_sumFrom m_sumTo m_glove m_now m_letters m_stack
      else
        ob1 (f_X12_in v3 (0 : Int32) (1 : Int32)) fun r_5 =>
        if r_5 = (0 : Int32) then
          b_X12_game_34 m_gloves m_holding m_code m_value m_clauses m_testFrom m_sumFrom m_sumTo m_glove m_now m_letters m_stack
        else
          ob3 (f_X12_gameOf m_gloves m_holding m_code m_value m_clauses m_testFrom m_sumFrom m_sumTo m_glove m_now m_letters m_stack v1 v2 v3) fun r_7 m_letters_8 m_stack_9 =>
          some (r_7, m_letters_8, m_stack_9)
noncomputable def f_X12_game (m_gloves : Int32) (m_holding : Int32) (m_code : Nat → Int32) (m_value : Nat → Int32) (m_clauses : Nat → Int32) (m_testFrom : Nat → Int32) (m_sumFrom : Nat → Int32) (m_sumTo : Nat → Int32) (m_glove : Nat → Int32) (m_now : Nat → Int32) (m_letters : Nat → Int32) (m_stack : Nat → Int32) (p1 : Int32) (p2 : Int32) (p3 : Int32) : Option (Int32 × (Nat → Int32) × (Nat → Int32)) := b_X12_game_0 m_gloves m_holding m_code m_value m_clauses m_testFrom m_sumFrom m_sumTo m_glove m_now m_letters m_stack p1 p2 p3
noncomputable def b_X12_manyOf_28 (m_gloves : Int32) (m_glove : Nat → Int32) (k4 : Int32 → Int32 → Int32 → Option (Int32)) (v1 : Int32) (v3 : Int32) (t0 : Int32) (t1 : Int32) : Option (Int32) :=
  bnd (t0 + t1) fun v2_1 =>
  bnd (v3 + (1 : Int32)) fun v3_2 =>
  k4 v1 v2_1 v3_2
noncomputable def b_X12_manyOf_4 (m_gloves : Int32) (m_glove : Nat → Int32) (k4 : Int32 → Int32 → Int32 → Option (Int32)) (v1 : Int32) (v2 : Int32) (v3 : Int32) : Option (Int32) :=
  if m_gloves ≤ v3 then
    some v2
  else
    ob1 (f_X12_of m_glove v3 (0 : Int32)) fun r_1 =>
    if r_1 = v1 then
      b_X12_manyOf_28 m_gloves m_glove k4 v1 v3 v2 (1 : Int32)
    else
      b_X12_manyOf_28 m_gloves m_glove k4 v1 v3 v2 (0 : Int32)
noncomputable def f_X12_manyOf_4 (m_gloves : Int32) (m_glove : Nat → Int32) : Nat → Int32 → Int32 → Int32 → Option (Int32)
  | 0, _, _, _ => none
  | n + 1, v1, v2, v3 => b_X12_manyOf_4 m_gloves m_glove (f_X12_manyOf_4 m_gloves m_glove n) v1 v2 v3
noncomputable def b_X12_manyOf_0 (m_gloves : Int32) (m_glove : Nat → Int32) (v1 : Int32) : Option (Int32) :=
  f_X12_manyOf_4 m_gloves m_glove fu v1 (0 : Int32) (0 : Int32)
noncomputable def f_X12_manyOf (m_gloves : Int32) (m_glove : Nat → Int32) (p1 : Int32) : Option (Int32) := b_X12_manyOf_0 m_gloves m_glove p1
noncomputable def b_X12_leastOf_42 (m_gloves : Int32) (m_holding : Int32) (m_code : Nat → Int32) (m_value : Nat → Int32) (m_clauses : Nat → Int32) (m_testFrom : Nat → Int32) (m_sumFrom : Nat → Int32) (m_sumTo : Nat → Int32) (m_glove : Nat → Int32) (m_now : Nat → Int32) (k6 : (Nat → Int32) → (Nat → Int32) → Int32 → Int32 → Int32 → Int32 → Option (Int32 × (Nat → Int32) × (Nat → Int32))) (m_letters : Nat → Int32) (m_stack : Nat → Int32) (v1 : Int32) (v2 : Int32) (v4 : Int32) (t0 : Int32) (t1 : Int32) : Option (Int32 × (Nat → Int32) × (Nat → Int32)) :=
  bnd (mn t0 t1) fun n_1 =>
  bnd (v4 + (1 : Int32)) fun v4_2 =>
  k6 m_letters m_stack v1 v2 n_1 v4_2
noncomputable def b_X12_leastOf_6 (m_gloves : Int32) (m_holding : Int32) (m_code : Nat → Int32) (m_value : Nat → Int32) (m_clauses : Nat → Int32) (m_testFrom : Nat → Int32) (m_sumFrom : Nat → Int32) (m_sumTo : Nat → Int32) (m_glove : Nat → Int32) (m_now : Nat → Int32) (k6 : (Nat → Int32) → (Nat → Int32) → Int32 → Int32 → Int32 → Int32 → Option (Int32 × (Nat → Int32) × (Nat → Int32))) (m_letters : Nat → Int32) (m_stack : Nat → Int32) (v1 : Int32) (v2 : Int32) (v3 : Int32) (v4 : Int32) : Option (Int32 × (Nat → Int32) × (Nat → Int32)) :=
  ob1 (f_X12_manyOf m_gloves m_glove ((1 : Int32) - v1)) fun r_1 =>
  if r_1 ≤ v4 then
    some (v3, m_letters, m_stack)
  else
    if v1 = (0 : Int32) then
      ob3 (f_X12_gameOf m_gloves m_holding m_code m_value m_clauses m_testFrom m_sumFrom m_sumTo m_glove m_now m_letters m_stack v2 v4 (0 : Int32)) fun r_7 m_letters_8 m_stack_9 =>
      b_X12_leastOf_42 m_gloves m_holding m_code m_value m_clauses m_testFrom m_sumFrom m_sumTo m_glove m_now k6 m_letters_8 m_stack_9 v1 v2 v4 v3 r_7
    else
      ob3 (f_X12_gameOf m_gloves m_holding m_code m_value m_clauses m_testFrom m_sumFrom m_sumTo m_glove m_now m_letters m_stack v4 v2 (1 : Int32)) fun r_3 m_letters_4 m_stack_5 =>
      b_X12_leastOf_42 m_gloves m_holding m_code m_value m_clauses m_testFrom m_sumFrom m_sumTo m_glove m_now k6 m_letters_4 m_stack_5 v1 v2 v4 v3 r_3
noncomputable def f_X12_leastOf_6 (m_gloves : Int32) (m_holding : Int32) (m_code : Nat → Int32) (m_value : Nat → Int32) (m_clauses : Nat → Int32) (m_testFrom : Nat → Int32) (m_sumFrom : Nat → Int32) (m_sumTo : Nat → Int32) (m_glove : Nat → Int32) (m_now : Nat → Int32) : Nat → (Nat → Int32) → (Nat → Int32) → Int32 → Int32 → Int32 → Int32 → Option (Int32 × (Nat → Int32) × (Nat → Int32))
  | 0, _, _, _, _, _, _ => none
  | n + 1, m_letters, m_stack, v1, v2, v3, v4 => b_X12_leastOf_6 m_gloves m_holding m_code m_value m_clauses m_testFrom m_sumFrom m_sumTo m_glove m_now (f_X12_leastOf_6 m_gloves m_holding m_code m_value m_clauses m_testFrom m_sumFrom m_sumTo m_glove m_now n) m_letters m_stack v1 v2 v3 v4
noncomputable def b_X12_leastOf_0 (m_gloves : Int32) (m_holding : Int32) (m_code : Nat → Int32) (m_value : Nat → Int32) (m_clauses : Nat → Int32) (m_testFrom : Nat → Int32) (m_sumFrom : Nat → Int32) (m_sumTo : Nat → Int32) (m_glove : Nat → Int32) (m_now : Nat → Int32) (m_letters : Nat → Int32) (m_stack : Nat → Int32) (v1 : Int32) (v2 : Int32) : Option (Int32 × (Nat → Int32) × (Nat → Int32)) :=
  f_X12_leastOf_6 m_gloves m_holding m_code m_value m_clauses m_testFrom m_sumFrom m_sumTo m_glove m_now fu m_letters m_stack v1 v2 (99 : Int32) (0 : Int32)
noncomputable def f_X12_leastOf (m_gloves : Int32) (m_holding : Int32) (m_code : Nat → Int32) (m_value : Nat → Int32) (m_clauses : Nat → Int32) (m_testFrom : Nat → Int32) (m_sumFrom : Nat → Int32) (m_sumTo : Nat → Int32) (m_glove : Nat → Int32) (m_now : Nat → Int32) (m_letters : Nat → Int32) (m_stack : Nat → Int32) (p1 : Int32) (p2 : Int32) : Option (Int32 × (Nat → Int32) × (Nat → Int32)) := b_X12_leastOf_0 m_gloves m_holding m_code m_value m_clauses m_testFrom m_sumFrom m_sumTo m_glove m_now m_letters m_stack p1 p2
noncomputable def b_X12_sure_16 (m_gloves : Int32) (m_holding : Int32) (m_code : Nat → Int32) (m_value : Nat → Int32) (m_clauses : Nat → Int32) (m_testFrom : Nat → Int32) (m_sumFrom : Nat → Int32) (m_sumTo : Nat → Int32) (m_glove : Nat → Int32) (m_now : Nat → Int32) (m_letters : Nat → Int32) (m_stack : Nat → Int32) : Option (Int32 × (Nat → Int32) × (Nat → Int32)) :=
  some ((-1000000 : Int32), m_letters, m_stack)
noncomputable def b_X12_sure_26 (m_gloves : Int32) (m_holding : Int32) (m_code : Nat → Int32) (m_value : Nat → Int32) (m_clauses : Nat → Int32) (m_testFrom : Nat → Int32) (m_sumFrom : Nat → Int32) (m_sumTo : Nat → Int32) (m_glove : Nat → Int32) (m_now : Nat → Int32) (k26 : (Nat → Int32) → (Nat → Int32) → Int32 → Int32 → Int32 → Option (Int32 × (Nat → Int32) × (Nat → Int32))) (m_letters : Nat → Int32) (m_stack : Nat → Int32) (v1 : Int32) (v2 : Int32) (v3 : Int32) : Option (Int32 × (Nat → Int32) × (Nat → Int32)) :=
  ob1 (f_X12_manyOf m_gloves m_glove v1) fun r_1 =>
  if r_1 ≤ v3 then
    some (v2, m_letters, m_stack)
  else
    ob3 (f_X12_leastOf m_gloves m_holding m_code m_value m_clauses m_testFrom m_sumFrom m_sumTo m_glove m_now m_letters m_stack v1 v3) fun r_3 m_letters_4 m_stack_5 =>
    bnd (mx v2 r_3) fun n_7 =>
    bnd (v3 + (1 : Int32)) fun v3_8 =>
    k26 m_letters_4 m_stack_5 v1 n_7 v3_8
noncomputable def f_X12_sure_26 (m_gloves : Int32) (m_holding : Int32) (m_code : Nat → Int32) (m_value : Nat → Int32) (m_clauses : Nat → Int32) (m_testFrom : Nat → Int32) (m_sumFrom : Nat → Int32) (m_sumTo : Nat → Int32) (m_glove : Nat → Int32) (m_now : Nat → Int32) : Nat → (Nat → Int32) → (Nat → Int32) → Int32 → Int32 → Int32 → Option (Int32 × (Nat → Int32) × (Nat → Int32))
  | 0, _, _, _, _, _ => none
  | n + 1, m_letters, m_stack, v1, v2, v3 => b_X12_sure_26 m_gloves m_holding m_code m_value m_clauses m_testFrom m_sumFrom m_sumTo m_glove m_now (f_X12_sure_26 m_gloves m_holding m_code m_value m_clauses m_testFrom m_sumFrom m_sumTo m_glove m_now n) m_letters m_stack v1 v2 v3
noncomputable def b_X12_sure_0 (m_gloves : Int32) (m_holding : Int32) (m_code : Nat → Int32) (m_value : Nat → Int32) (m_clauses : Nat → Int32) (m_testFrom : Nat → Int32) (m_sumFrom : Nat → Int32) (m_sumTo : Nat → Int32) (m_glove : Nat → Int32) (m_now : Nat → Int32) (m_letters : Nat → Int32) (m_stack : Nat → Int32) (v1 : Int32) : Option (Int32 × (Nat → Int32) × (Nat → Int32)) :=
  if m_gloves = (0 : Int32) then
    b_X12_sure_16 m_gloves m_holding m_code m_value m_clauses m_testFrom m_sumFrom m_sumTo m_glove m_now m_letters m_stack
  else
    ob1 (f_X12_in v1 (0 : Int32) (1 : Int32)) fun r_1 =>
    if r_1 = (0 : Int32) then
      b_X12_sure_16 m_gloves m_holding m_code m_value m_clauses m_testFrom m_sumFrom m_sumTo m_glove m_now m_letters m_stack
    else
      f_X12_sure_26 m_gloves m_holding m_code m_value m_clauses m_testFrom m_sumFrom m_sumTo m_glove m_now fu m_letters m_stack v1 (-1000000 : Int32) (0 : Int32)
noncomputable def f_X12_sure (m_gloves : Int32) (m_holding : Int32) (m_code : Nat → Int32) (m_value : Nat → Int32) (m_clauses : Nat → Int32) (m_testFrom : Nat → Int32) (m_sumFrom : Nat → Int32) (m_sumTo : Nat → Int32) (m_glove : Nat → Int32) (m_now : Nat → Int32) (m_letters : Nat → Int32) (m_stack : Nat → Int32) (p1 : Int32) : Option (Int32 × (Nat → Int32) × (Nat → Int32)) := b_X12_sure_0 m_gloves m_holding m_code m_value m_clauses m_testFrom m_sumFrom m_sumTo m_glove m_now m_letters m_stack p1
noncomputable def b_X12_isRest_42 (m_gloves : Int32) (m_holding : Int32) (m_code : Nat → Int32) (m_value : Nat → Int32) (m_clauses : Nat → Int32) (m_testFrom : Nat → Int32) (m_sumFrom : Nat → Int32) (m_sumTo : Nat → Int32) (m_glove : Nat → Int32) (m_now : Nat → Int32) (k5 : (Nat → Int32) → (Nat → Int32) → Int32 → Int32 → Int32 → Int32 → Option (Int32 × (Nat → Int32) × (Nat → Int32))) (m_letters : Nat → Int32) (m_stack : Nat → Int32) (v1 : Int32) (v2 : Int32) (v4 : Int32) (t0 : Int32) : Option (Int32 × (Nat → Int32) × (Nat → Int32)) :=
  bnd (v4 + (1 : Int32)) fun v4_1 =>
  k5 m_letters m_stack v1 v2 t0 v4_1
noncomputable def b_X12_isRest_41 (m_gloves : Int32) (m_holding : Int32) (m_code : Nat → Int32) (m_value : Nat → Int32) (m_clauses : Nat → Int32) (m_testFrom : Nat → Int32) (m_sumFrom : Nat → Int32) (m_sumTo : Nat → Int32) (m_glove : Nat → Int32) (m_now : Nat → Int32) (k5 : (Nat → Int32) → (Nat → Int32) → Int32 → Int32 → Int32 → Int32 → Option (Int32 × (Nat → Int32) × (Nat → Int32))) (m_letters : Nat → Int32) (m_stack : Nat → Int32) (v1 : Int32) (v2 : Int32) (v4 : Int32) : Option (Int32 × (Nat → Int32) × (Nat → Int32)) :=
  b_X12_isRest_42 m_gloves m_holding m_code m_value m_clauses m_testFrom m_sumFrom m_sumTo m_glove m_now k5 m_letters m_stack v1 v2 v4 (0 : Int32)
noncomputable def b_X12_isRest_89 (m_gloves : Int32) (m_holding : Int32) (m_code : Nat → Int32) (m_value : Nat → Int32) (m_clauses : Nat → Int32) (m_testFrom : Nat → Int32) (m_sumFrom : Nat → Int32) (m_sumTo : Nat → Int32) (m_glove : Nat → Int32) (m_now : Nat → Int32) (k52 : (Nat → Int32) → (Nat → Int32) → Int32 → Int32 → Int32 → Int32 → Option (Int32 × (Nat → Int32) × (Nat → Int32))) (m_letters : Nat → Int32) (m_stack : Nat → Int32) (v1 : Int32) (v2 : Int32) (v4 : Int32) (t0 : Int32) : Option (Int32 × (Nat → Int32) × (Nat → Int32)) :=
  bnd (v4 + (1 : Int32)) fun v4_1 =>
  k52 m_letters m_stack v1 v2 t0 v4_1
noncomputable def b_X12_isRest_88 (m_gloves : Int32) (m_holding : Int32) (m_code : Nat → Int32) (m_value : Nat → Int32) (m_clauses : Nat → Int32) (m_testFrom : Nat → Int32) (m_sumFrom : Nat → Int32) (m_sumTo : Nat → Int32) (m_glove : Nat → Int32) (m_now : Nat → Int32) (k52 : (Nat → Int32) → (Nat → Int32) → Int32 → Int32 → Int32 → Int32 → Option (Int32 × (Nat → Int32) × (Nat → Int32))) (m_letters : Nat → Int32) (m_stack : Nat → Int32) (v1 : Int32) (v2 : Int32) (v4 : Int32) : Option (Int32 × (Nat → Int32) × (Nat → Int32)) :=
  b_X12_isRest_89 m_gloves m_holding m_code m_value m_clauses m_testFrom m_sumFrom m_sumTo m_glove m_now k52 m_letters m_stack v1 v2 v4 (0 : Int32)
noncomputable def b_X12_isRest_52 (m_gloves : Int32) (m_holding : Int32) (m_code : Nat → Int32) (m_value : Nat → Int32) (m_clauses : Nat → Int32) (m_testFrom : Nat → Int32) (m_sumFrom : Nat → Int32) (m_sumTo : Nat → Int32) (m_glove : Nat → Int32) (m_now : Nat → Int32) (k52 : (Nat → Int32) → (Nat → Int32) → Int32 → Int32 → Int32 → Int32 → Option (Int32 × (Nat → Int32) × (Nat → Int32))) (m_letters : Nat → Int32) (m_stack : Nat → Int32) (v1 : Int32) (v2 : Int32) (v3 : Int32) (v4 : Int32) : Option (Int32 × (Nat → Int32) × (Nat → Int32)) :=
  ob1 (f_X12_manyOf m_gloves m_glove (1 : Int32)) fun r_1 =>
  if r_1 ≤ v4 then
    gd (isZ v3) <|
    some (v3, m_letters, m_stack)
  else
    if v3 = (0 : Int32) then
      b_X12_isRest_88 m_gloves m_holding m_code m_value m_clauses m_testFrom m_sumFrom m_sumTo m_glove m_now k52 m_letters m_stack v1 v2 v4
    else
      ob3 (f_X12_gameOf m_gloves m_holding m_code m_value m_clauses m_testFrom m_sumFrom m_sumTo m_glove m_now m_letters m_stack v1 v4 (1 : Int32)) fun r_4 m_letters_5 m_stack_6 =>
      ob3 (f_X12_gameOf m_gloves m_holding m_code m_value m_clauses m_testFrom m_sumFrom m_sumTo m_glove m_now m_letters_5 m_stack_6 v1 v2 (1 : Int32)) fun r_8 m_letters_9 m_stack_10 =>
      if r_8 < r_4 then
        b_X12_isRest_88 m_gloves m_holding m_code m_value m_clauses m_testFrom m_sumFrom m_sumTo m_glove m_now k52 m_letters_9 m_stack_10 v1 v2 v4
      else
        b_X12_isRest_89 m_gloves m_holding m_code m_value m_clauses m_testFrom m_sumFrom m_sumTo m_glove m_now k52 m_letters_9 m_stack_10 v1 v2 v4 (1 : Int32)
noncomputable def f_X12_isRest_52 (m_gloves : Int32) (m_holding : Int32) (m_code : Nat → Int32) (m_value : Nat → Int32) (m_clauses : Nat → Int32) (m_testFrom : Nat → Int32) (m_sumFrom : Nat → Int32) (m_sumTo : Nat → Int32) (m_glove : Nat → Int32) (m_now : Nat → Int32) : Nat → (Nat → Int32) → (Nat → Int32) → Int32 → Int32 → Int32 → Int32 → Option (Int32 × (Nat → Int32) × (Nat → Int32))
  | 0, _, _, _, _, _, _ => none
  | n + 1, m_letters, m_stack, v1, v2, v3, v4 => b_X12_isRest_52 m_gloves m_holding m_code m_value m_clauses m_testFrom m_sumFrom m_sumTo m_glove m_now (f_X12_isRest_52 m_gloves m_holding m_code m_value m_clauses m_testFrom m_sumFrom m_sumTo m_glove m_now n) m_letters m_stack v1 v2 v3 v4
noncomputable def b_X12_isRest_5 (m_gloves : Int32) (m_holding : Int32) (m_code : Nat → Int32) (m_value : Nat → Int32) (m_clauses : Nat → Int32) (m_testFrom : Nat → Int32) (m_sumFrom : Nat → Int32) (m_sumTo : Nat → Int32) (m_glove : Nat → Int32) (m_now : Nat → Int32) (k5 : (Nat → Int32) → (Nat → Int32) → Int32 → Int32 → Int32 → Int32 → Option (Int32 × (Nat → Int32) × (Nat → Int32))) (m_letters : Nat → Int32) (m_stack : Nat → Int32) (v1 : Int32) (v2 : Int32) (v3 : Int32) (v4 : Int32) : Option (Int32 × (Nat → Int32) × (Nat → Int32)) :=
  ob1 (f_X12_manyOf m_gloves m_glove (0 : Int32)) fun r_1 =>
  if r_1 ≤ v4 then
    f_X12_isRest_52 m_gloves m_holding m_code m_value m_clauses m_testFrom m_sumFrom m_sumTo m_glove m_now fu m_letters m_stack v1 v2 v3 (0 : Int32)
  else
    if v3 = (0 : Int32) then
      b_X12_isRest_41 m_gloves m_holding m_code m_value m_clauses m_testFrom m_sumFrom m_sumTo m_glove m_now k5 m_letters m_stack v1 v2 v4
    else
      ob3 (f_X12_gameOf m_gloves m_holding m_code m_value m_clauses m_testFrom m_sumFrom m_sumTo m_glove m_now m_letters m_stack v4 v2 (0 : Int32)) fun r_3 m_letters_4 m_stack_5 =>
      ob3 (f_X12_gameOf m_gloves m_holding m_code m_value m_clauses m_testFrom m_sumFrom m_sumTo m_glove m_now m_letters_4 m_stack_5 v1 v2 (0 : Int32)) fun r_7 m_letters_8 m_stack_9 =>
      if r_7 < r_3 then
        b_X12_isRest_41 m_gloves m_holding m_code m_value m_clauses m_testFrom m_sumFrom m_sumTo m_glove m_now k5 m_letters_8 m_stack_9 v1 v2 v4
      else
        b_X12_isRest_42 m_gloves m_holding m_code m_value m_clauses m_testFrom m_sumFrom m_sumTo m_glove m_now k5 m_letters_8 m_stack_9 v1 v2 v4 (1 : Int32)
noncomputable def f_X12_isRest_5 (m_gloves : Int32) (m_holding : Int32) (m_code : Nat → Int32) (m_value : Nat → Int32) (m_clauses : Nat → Int32) (m_testFrom : Nat → Int32) (m_sumFrom : Nat → Int32) (m_sumTo : Nat → Int32) (m_glove : Nat → Int32) (m_now : Nat → Int32) : Nat → (Nat → Int32) → (Nat → Int32) → Int32 → Int32 → Int32 → Int32 → Option (Int32 × (Nat → Int32) × (Nat → Int32))
  | 0, _, _, _, _, _, _ => none
  | n + 1, m_letters, m_stack, v1, v2, v3, v4 => b_X12_isRest_5 m_gloves m_holding m_code m_value m_clauses m_testFrom m_sumFrom m_sumTo m_glove m_now (f_X12_isRest_5 m_gloves m_holding m_code m_value m_clauses m_testFrom m_sumFrom m_sumTo m_glove m_now n) m_letters m_stack v1 v2 v3 v4
noncomputable def b_X12_isRest_0 (m_gloves : Int32) (m_holding : Int32) (m_code : Nat → Int32) (m_value : Nat → Int32) (m_clauses : Nat → Int32) (m_testFrom : Nat → Int32) (m_sumFrom : Nat → Int32) (m_sumTo : Nat → Int32) (m_glove : Nat → Int32) (m_now : Nat → Int32) (m_letters : Nat → Int32) (m_stack : Nat → Int32) (v1 : Int32) (v2 : Int32) : Option (Int32 × (Nat → Int32) × (Nat → Int32)) :=
  f_X12_isRest_5 m_gloves m_holding m_code m_value m_clauses m_testFrom m_sumFrom m_sumTo m_glove m_now fu m_letters m_stack v1 v2 (1 : Int32) (0 : Int32)
noncomputable def f_X12_isRest (m_gloves : Int32) (m_holding : Int32) (m_code : Nat → Int32) (m_value : Nat → Int32) (m_clauses : Nat → Int32) (m_testFrom : Nat → Int32) (m_sumFrom : Nat → Int32) (m_sumTo : Nat → Int32) (m_glove : Nat → Int32) (m_now : Nat → Int32) (m_letters : Nat → Int32) (m_stack : Nat → Int32) (p1 : Int32) (p2 : Int32) : Option (Int32 × (Nat → Int32) × (Nat → Int32)) := b_X12_isRest_0 m_gloves m_holding m_code m_value m_clauses m_testFrom m_sumFrom m_sumTo m_glove m_now m_letters m_stack p1 p2
noncomputable def b_X12_rests_66 (m_gloves : Int32) (m_holding : Int32) (m_code : Nat → Int32) (m_value : Nat → Int32) (m_clauses : Nat → Int32) (m_testFrom : Nat → Int32) (m_sumFrom : Nat → Int32) (m_sumTo : Nat → Int32) (m_glove : Nat → Int32) (m_now : Nat → Int32) (k18 : (Nat → Int32) → (Nat → Int32) → Int32 → Int32 → Int32 → Option (Int32 × (Nat → Int32) × (Nat → Int32))) (k30 : (Nat → Int32) → (Nat → Int32) → Int32 → Int32 → Int32 → Int32 → Option (Int32 × (Nat → Int32) × (Nat → Int32))) (m_letters : Nat → Int32) (m_stack : Nat → Int32) (v1 : Int32) (v2 : Int32) (v3 : Int32) (v4 : Int32) : Option (Int32 × (Nat → Int32) × (Nat → Int32)) :=
  bnd (v4 + (1 : Int32)) fun v4_1 =>
  k30 m_letters m_stack v1 v2 v3 v4_1
noncomputable def b_X12_rests_30 (m_gloves : Int32) (m_holding : Int32) (m_code : Nat → Int32) (m_value : Nat → Int32) (m_clauses : Nat → Int32) (m_testFrom : Nat → Int32) (m_sumFrom : Nat → Int32) (m_sumTo : Nat → Int32) (m_glove : Nat → Int32) (m_now : Nat → Int32) (k18 : (Nat → Int32) → (Nat → Int32) → Int32 → Int32 → Int32 → Option (Int32 × (Nat → Int32) × (Nat → Int32))) (k30 : (Nat → Int32) → (Nat → Int32) → Int32 → Int32 → Int32 → Int32 → Option (Int32 × (Nat → Int32) × (Nat → Int32))) (m_letters : Nat → Int32) (m_stack : Nat → Int32) (v1 : Int32) (v2 : Int32) (v3 : Int32) (v4 : Int32) : Option (Int32 × (Nat → Int32) × (Nat → Int32)) :=
  ob1 (f_X12_manyOf m_gloves m_glove (1 : Int32)) fun r_1 =>
  if r_1 ≤ v4 then
    bnd (v3 + (1 : Int32)) fun v3_3 =>
    k18 m_letters m_stack v1 v2 v3_3
  else
    ob3 (f_X12_isRest m_gloves m_holding m_code m_value m_clauses m_testFrom m_sumFrom m_sumTo m_glove m_now m_letters m_stack v3 v4) fun r_4 m_letters_5 m_stack_6 =>
    if r_4 = (0 : Int32) then
      b_X12_rests_66 m_gloves m_holding m_code m_value m_clauses m_testFrom m_sumFrom m_sumTo m_glove m_now k18 k30 m_letters_5 m_stack_6 v1 v2 v3 v4
    else
      if v2 = v1 then
        some ((((10 : Int32) * v3) + v4), m_letters_5, m_stack_6)
      else
        bnd (v2 + (1 : Int32)) fun v2_8 =>
        b_X12_rests_66 m_gloves m_holding m_code m_value m_clauses m_testFrom m_sumFrom m_sumTo m_glove m_now k18 k30 m_letters_5 m_stack_6 v1 v2_8 v3 v4
noncomputable def f_X12_rests_30 (m_gloves : Int32) (m_holding : Int32) (m_code : Nat → Int32) (m_value : Nat → Int32) (m_clauses : Nat → Int32) (m_testFrom : Nat → Int32) (m_sumFrom : Nat → Int32) (m_sumTo : Nat → Int32) (m_glove : Nat → Int32) (m_now : Nat → Int32) (k18 : (Nat → Int32) → (Nat → Int32) → Int32 → Int32 → Int32 → Option (Int32 × (Nat → Int32) × (Nat → Int32))) : Nat → (Nat → Int32) → (Nat → Int32) → Int32 → Int32 → Int32 → Int32 → Option (Int32 × (Nat → Int32) × (Nat → Int32))
  | 0, _, _, _, _, _, _ => none
  | n + 1, m_letters, m_stack, v1, v2, v3, v4 => b_X12_rests_30 m_gloves m_holding m_code m_value m_clauses m_testFrom m_sumFrom m_sumTo m_glove m_now k18 (f_X12_rests_30 m_gloves m_holding m_code m_value m_clauses m_testFrom m_sumFrom m_sumTo m_glove m_now k18 n) m_letters m_stack v1 v2 v3 v4
noncomputable def b_X12_rests_18 (m_gloves : Int32) (m_holding : Int32) (m_code : Nat → Int32) (m_value : Nat → Int32) (m_clauses : Nat → Int32) (m_testFrom : Nat → Int32) (m_sumFrom : Nat → Int32) (m_sumTo : Nat → Int32) (m_glove : Nat → Int32) (m_now : Nat → Int32) (k18 : (Nat → Int32) → (Nat → Int32) → Int32 → Int32 → Int32 → Option (Int32 × (Nat → Int32) × (Nat → Int32))) (m_letters : Nat → Int32) (m_stack : Nat → Int32) (v1 : Int32) (v2 : Int32) (v3 : Int32) : Option (Int32 × (Nat → Int32) × (Nat → Int32)) :=
  ob1 (f_X12_manyOf m_gloves m_glove (0 : Int32)) fun r_1 =>
  if r_1 ≤ v3 then
    if v1 = (-1 : Int32) then
      some (v2, m_letters, m_stack)
    else
      some ((-1 : Int32), m_letters, m_stack)
  else
    f_X12_rests_30 m_gloves m_holding m_code m_value m_clauses m_testFrom m_sumFrom m_sumTo m_glove m_now k18 fu m_letters m_stack v1 v2 v3 (0 : Int32)
noncomputable def f_X12_rests_18 (m_gloves : Int32) (m_holding : Int32) (m_code : Nat → Int32) (m_value : Nat → Int32) (m_clauses : Nat → Int32) (m_testFrom : Nat → Int32) (m_sumFrom : Nat → Int32) (m_sumTo : Nat → Int32) (m_glove : Nat → Int32) (m_now : Nat → Int32) : Nat → (Nat → Int32) → (Nat → Int32) → Int32 → Int32 → Int32 → Option (Int32 × (Nat → Int32) × (Nat → Int32))
  | 0, _, _, _, _, _ => none
  | n + 1, m_letters, m_stack, v1, v2, v3 => b_X12_rests_18 m_gloves m_holding m_code m_value m_clauses m_testFrom m_sumFrom m_sumTo m_glove m_now (f_X12_rests_18 m_gloves m_holding m_code m_value m_clauses m_testFrom m_sumFrom m_sumTo m_glove m_now n) m_letters m_stack v1 v2 v3
noncomputable def b_X12_rests_0 (m_gloves : Int32) (m_holding : Int32) (m_code : Nat → Int32) (m_value : Nat → Int32) (m_clauses : Nat → Int32) (m_testFrom : Nat → Int32) (m_sumFrom : Nat → Int32) (m_sumTo : Nat → Int32) (m_glove : Nat → Int32) (m_now : Nat → Int32) (m_letters : Nat → Int32) (m_stack : Nat → Int32) (v1 : Int32) : Option (Int32 × (Nat → Int32) × (Nat → Int32)) :=
  if m_gloves = (0 : Int32) then
    some ((-1 : Int32), m_letters, m_stack)
  else
    if (-1 : Int32) ≤ v1 then
      f_X12_rests_18 m_gloves m_holding m_code m_value m_clauses m_testFrom m_sumFrom m_sumTo m_glove m_now fu m_letters m_stack v1 (0 : Int32) (0 : Int32)
    else
      some ((-1 : Int32), m_letters, m_stack)
noncomputable def f_X12_rests (m_gloves : Int32) (m_holding : Int32) (m_code : Nat → Int32) (m_value : Nat → Int32) (m_clauses : Nat → Int32) (m_testFrom : Nat → Int32) (m_sumFrom : Nat → Int32) (m_sumTo : Nat → Int32) (m_glove : Nat → Int32) (m_now : Nat → Int32) (m_letters : Nat → Int32) (m_stack : Nat → Int32) (p1 : Int32) : Option (Int32 × (Nat → Int32) × (Nat → Int32)) := b_X12_rests_0 m_gloves m_holding m_code m_value m_clauses m_testFrom m_sumFrom m_sumTo m_glove m_now m_letters m_stack p1
noncomputable def b_X12_oddsFrom_124 (F_X12_oddsFrom : Int32 → (Nat → Int32) → (Nat → Int32) → (Nat → Int32) → (Nat → Int32) → (Nat → Int32) → (Nat → Int32) → (Nat → Int32) → (Nat → Int32) → (Nat → Int32) → (Nat → Int32) → Int32 → Int32 → Int32 → Int32 → Int32 → Int32 → Int32 → Int32 → Option (Int32 × (Nat → Int32) × (Nat → Int32))) (m_holding : Int32) (m_code : Nat → Int32) (m_value : Nat → Int32) (m_clauses : Nat → Int32) (m_testFrom : Nat → Int32) (m_sumFrom : Nat → Int32) (m_sumTo : Nat → Int32) (m_glove : Nat → Int32) (m_now : Nat → Int32) (k27 : (Nat → Int32) → (Nat → Int32) → Int32 → Int32 → Int32 → Int32 → Int32 → Int32 → Int32 → Int32 → Int32 → Int32 → Int32 → Option (Int32 × (Nat → Int32) × (Nat → Int32))) (m_letters : Nat → Int32) (m_stack : Nat → Int32) (v1 : Int32) (v2 : Int32) (v3 : Int32) (v4 : Int32) (v5 : Int32) (v6 : Int32) (v7 : Int32) (v8 : Int32) (v9 : Int32) (v11 : Int32) (t0 : Int32) (t1 : Int32) : Option (Int32 × (Nat → Int32) × (Nat → Int32)) :=
  bnd (t0 + t1) fun v10_1 =>
  bnd (v11 + (1 : Int32)) fun v11_2 =>
  k27 m_letters m_stack v1 v2 v3 v4 v5 v6 v7 v8 v9 v10_1 v11_2
noncomputable def b_X12_oddsFrom_88 (F_X12_oddsFrom : Int32 → (Nat → Int32) → (Nat → Int32) → (Nat → Int32) → (Nat → Int32) → (Nat → Int32) → (Nat → Int32) → (Nat → Int32) → (Nat → Int32) → (Nat → Int32) → (Nat → Int32) → Int32 → Int32 → Int32 → Int32 → Int32 → Int32 → Int32 → Int32 → Option (Int32 × (Nat → Int32) × (Nat → Int32))) (m_holding : Int32) (m_code : Nat → Int32) (m_value : Nat → Int32) (m_clauses : Nat → Int32) (m_testFrom : Nat → Int32) (m_sumFrom : Nat → Int32) (m_sumTo : Nat → Int32) (m_glove : Nat → Int32) (m_now : Nat → Int32) (k27 : (Nat → Int32) → (Nat → Int32) → Int32 → Int32 → Int32 → Int32 → Int32 → Int32 → Int32 → Int32 → Int32 → Int32 → Int32 → Option (Int32 × (Nat → Int32) × (Nat → Int32))) (m_letters : Nat → Int32) (m_stack : Nat → Int32) (v1 : Int32) (v2 : Int32) (v3 : Int32) (v4 : Int32) (v5 : Int32) (v6 : Int32) (v7 : Int32) (v8 : Int32) (v9 : Int32) (v10 : Int32) (v11 : Int32) (v12 : Int32) (t0 : Int32) : Option (Int32 × (Nat → Int32) × (Nat → Int32)) :=
  if v12 < v3 then
    ob3 (F_X12_oddsFrom m_holding m_code m_value m_clauses m_testFrom m_sumFrom m_sumTo m_glove m_now m_letters m_stack v1 v2 v3 (v4 + (1 : Int32)) (v5 - (1 : Int32)) v12 v7 t0) fun r_1 m_letters_2 m_stack_3 =>
    b_X12_oddsFrom_124 F_X12_oddsFrom m_holding m_code m_value m_clauses m_testFrom m_sumFrom m_sumTo m_glove m_now k27 m_letters_2 m_stack_3 v1 v2 v3 v4 v5 v6 v7 v8 v9 v11 v10 r_1
  else
    b_X12_oddsFrom_124 F_X12_oddsFrom m_holding m_code m_value m_clauses m_testFrom m_sumFrom m_sumTo m_glove m_now k27 m_letters m_stack v1 v2 v3 v4 v5 v6 v7 v8 v9 v11 v10 t0
noncomputable def b_X12_oddsFrom_70 (F_X12_oddsFrom : Int32 → (Nat → Int32) → (Nat → Int32) → (Nat → Int32) → (Nat → Int32) → (Nat → Int32) → (Nat → Int32) → (Nat → Int32) → (Nat → Int32) → (Nat → Int32) → (Nat → Int32) → Int32 → Int32 → Int32 → Int32 → Int32 → Int32 → Int32 → Int32 → Option (Int32 × (Nat → Int32) × (Nat → Int32))) (m_holding : Int32) (m_code : Nat → Int32) (m_value : Nat → Int32) (m_clauses : Nat → Int32) (m_testFrom : Nat → Int32) (m_sumFrom : Nat → Int32) (m_sumTo : Nat → Int32) (m_glove : Nat → Int32) (m_now : Nat → Int32) (k27 : (Nat → Int32) → (Nat → Int32) → Int32 → Int32 → Int32 → Int32 → Int32 → Int32 → Int32 → Int32 → Int32 → Int32 → Int32 → Option (Int32 × (Nat → Int32) × (Nat → Int32))) (m_letters : Nat → Int32) (m_stack : Nat → Int32) (v1 : Int32) (v2 : Int32) (v3 : Int32) (v4 : Int32) (v5 : Int32) (v6 : Int32) (v7 : Int32) (v8 : Int32) (v9 : Int32) (v10 : Int32) (v11 : Int32) (t0 : Int32) : Option (Int32 × (Nat → Int32) × (Nat → Int32)) :=
  if v11 = (1 : Int32) then
    b_X12_oddsFrom_88 F_X12_oddsFrom m_holding m_code m_value m_clauses m_testFrom m_sumFrom m_sumTo m_glove m_now k27 m_letters m_stack v1 v2 v3 v4 v5 v6 v7 v8 v9 v10 v11 t0 v9
  else
    b_X12_oddsFrom_88 F_X12_oddsFrom m_holding m_code m_value m_clauses m_testFrom m_sumFrom m_sumTo m_glove m_now k27 m_letters m_stack v1 v2 v3 v4 v5 v6 v7 v8 v9 v10 v11 t0 (v8 - v9)
noncomputable def b_X12_oddsFrom_27 (F_X12_oddsFrom : Int32 → (Nat → Int32) → (Nat → Int32) → (Nat → Int32) → (Nat → Int32) → (Nat → Int32) → (Nat → Int32) → (Nat → Int32) → (Nat → Int32) → (Nat → Int32) → (Nat → Int32) → Int32 → Int32 → Int32 → Int32 → Int32 → Int32 → Int32 → Int32 → Option (Int32 × (Nat → Int32) × (Nat → Int32))) (m_holding : Int32) (m_code : Nat → Int32) (m_value : Nat → Int32) (m_clauses : Nat → Int32) (m_testFrom : Nat → Int32) (m_sumFrom : Nat → Int32) (m_sumTo : Nat → Int32) (m_glove : Nat → Int32) (m_now : Nat → Int32) (k27 : (Nat → Int32) → (Nat → Int32) → Int32 → Int32 → Int32 → Int32 → Int32 → Int32 → Int32 → Int32 → Int32 → Int32 → Int32 → Option (Int32 × (Nat → Int32) × (Nat → Int32))) (m_letters : Nat → Int32) (m_stack : Nat → Int32) (v1 : Int32) (v2 : Int32) (v3 : Int32) (v4 : Int32) (v5 : Int32) (v6 : Int32) (v7 : Int32) (v8 : Int32) (v9 : Int32) (v10 : Int32) (v11 : Int32) : Option (Int32 × (Nat → Int32) × (Nat → Int32)) :=
  if (2 : Int32) ≤ v11 then
    some (v10, m_letters, m_stack)
  else
    if v11 = (1 : Int32) then
      b_X12_oddsFrom_70 F_X12_oddsFrom m_holding m_code m_value m_clauses m_testFrom m_sumFrom m_sumTo m_glove m_now k27 m_letters m_stack v1 v2 v3 v4 v5 v6 v7 v8 v9 v10 v11 (v6 / (2 : Int32))
    else
      gd (inB (68 : Int32) 250) <|
      ob3 (f_X12_riseFrom m_holding m_code m_value m_clauses m_testFrom m_sumFrom m_sumTo m_glove m_now m_letters m_stack v1 v2 v6 ((m_now (68 : Int32).toNatClampNeg) + v4)) fun r_2 m_letters_3 m_stack_4 =>
      ob1 (f_X12_held (v6 + r_2)) fun r_6 =>
      b_X12_oddsFrom_70 F_X12_oddsFrom m_holding m_code m_value m_clauses m_testFrom m_sumFrom m_sumTo m_glove m_now k27 m_letters_3 m_stack_4 v1 v2 v3 v4 v5 v6 v7 v8 v9 v10 v11 r_6
noncomputable def f_X12_oddsFrom_27 (F_X12_oddsFrom : Int32 → (Nat → Int32) → (Nat → Int32) → (Nat → Int32) → (Nat → Int32) → (Nat → Int32) → (Nat → Int32) → (Nat → Int32) → (Nat → Int32) → (Nat → Int32) → (Nat → Int32) → Int32 → Int32 → Int32 → Int32 → Int32 → Int32 → Int32 → Int32 → Option (Int32 × (Nat → Int32) × (Nat → Int32))) (m_holding : Int32) (m_code : Nat → Int32) (m_value : Nat → Int32) (m_clauses : Nat → Int32) (m_testFrom : Nat → Int32) (m_sumFrom : Nat → Int32) (m_sumTo : Nat → Int32) (m_glove : Nat → Int32) (m_now : Nat → Int32) : Nat → (Nat → Int32) → (Nat → Int32) → Int32 → Int32 → Int32 → Int32 → Int32 → Int32 → Int32 → Int32 → Int32 → Int32 → Int32 → Option (Int32 × (Nat → Int32) × (Nat → Int32))
  | 0, _, _, _, _, _, _, _, _, _, _, _, _, _ => none
  | n + 1, m_letters, m_stack, v1, v2, v3, v4, v5, v6, v7, v8, v9, v10, v11 => b_X12_oddsFrom_27 F_X12_oddsFrom m_holding m_code m_value m_clauses m_testFrom m_sumFrom m_sumTo m_glove m_now (f_X12_oddsFrom_27 F_X12_oddsFrom m_holding m_code m_value m_clauses m_testFrom m_sumFrom m_sumTo m_glove m_now n) m_letters m_stack v1 v2 v3 v4 v5 v6 v7 v8 v9 v10 v11
noncomputable def b_X12_oddsFrom_0 (F_X12_oddsFrom : Int32 → (Nat → Int32) → (Nat → Int32) → (Nat → Int32) → (Nat → Int32) → (Nat → Int32) → (Nat → Int32) → (Nat → Int32) → (Nat → Int32) → (Nat → Int32) → (Nat → Int32) → Int32 → Int32 → Int32 → Int32 → Int32 → Int32 → Int32 → Int32 → Option (Int32 × (Nat → Int32) × (Nat → Int32))) (m_holding : Int32) (m_code : Nat → Int32) (m_value : Nat → Int32) (m_clauses : Nat → Int32) (m_testFrom : Nat → Int32) (m_sumFrom : Nat → Int32) (m_sumTo : Nat → Int32) (m_glove : Nat → Int32) (m_now : Nat → Int32) (m_letters : Nat → Int32) (m_stack : Nat → Int32) (v1 : Int32) (v2 : Int32) (v3 : Int32) (v4 : Int32) (v5 : Int32) (v6 : Int32) (v7 : Int32) (v8 : Int32) : Option (Int32 × (Nat → Int32) × (Nat → Int32)) :=
  if v5 = (0 : Int32) then
    some ((0 : Int32), m_letters, m_stack)
  else
    bnd ((((v8.toInt64) * (v7.toInt64)) / (100 : Int64)).toInt32) fun v9_1 =>
    f_X12_oddsFrom_27 F_X12_oddsFrom m_holding m_code m_value m_clauses m_testFrom m_sumFrom m_sumTo m_glove m_now fu m_letters m_stack v1 v2 v3 v4 v5 v6 v7 v8 v9_1 (0 : Int32) (0 : Int32)
noncomputable def g_X12_oddsFrom (F_X12_oddsFrom : Int32 → (Nat → Int32) → (Nat → Int32) → (Nat → Int32) → (Nat → Int32) → (Nat → Int32) → (Nat → Int32) → (Nat → Int32) → (Nat → Int32) → (Nat → Int32) → (Nat → Int32) → Int32 → Int32 → Int32 → Int32 → Int32 → Int32 → Int32 → Int32 → Option (Int32 × (Nat → Int32) × (Nat → Int32))) (m_holding : Int32) (m_code : Nat → Int32) (m_value : Nat → Int32) (m_clauses : Nat → Int32) (m_testFrom : Nat → Int32) (m_sumFrom : Nat → Int32) (m_sumTo : Nat → Int32) (m_glove : Nat → Int32) (m_now : Nat → Int32) (m_letters : Nat → Int32) (m_stack : Nat → Int32) (p1 : Int32) (p2 : Int32) (p3 : Int32) (p4 : Int32) (p5 : Int32) (p6 : Int32) (p7 : Int32) (p8 : Int32) : Option (Int32 × (Nat → Int32) × (Nat → Int32)) := b_X12_oddsFrom_0 F_X12_oddsFrom m_holding m_code m_value m_clauses m_testFrom m_sumFrom m_sumTo m_glove m_now m_letters m_stack p1 p2 p3 p4 p5 p6 p7 p8
noncomputable def rc_X12_oddsFrom : Nat → Int32 → (Nat → Int32) → (Nat → Int32) → (Nat → Int32) → (Nat → Int32) → (Nat → Int32) → (Nat → Int32) → (Nat → Int32) → (Nat → Int32) → (Nat → Int32) → (Nat → Int32) → Int32 → Int32 → Int32 → Int32 → Int32 → Int32 → Int32 → Int32 → Option (Int32 × (Nat → Int32) × (Nat → Int32))
  | 0 => fun _ _ _ _ _ _ _ _ _ _ _ _ _ _ _ _ _ _ _ => none
  | d + 1 => g_X12_oddsFrom (rc_X12_oddsFrom d)
noncomputable def f_X12_oddsFrom (d : Nat) : Int32 → (Nat → Int32) → (Nat → Int32) → (Nat → Int32) → (Nat → Int32) → (Nat → Int32) → (Nat → Int32) → (Nat → Int32) → (Nat → Int32) → (Nat → Int32) → (Nat → Int32) → Int32 → Int32 → Int32 → Int32 → Int32 → Int32 → Int32 → Int32 → Option (Int32 × (Nat → Int32) × (Nat → Int32)) := (rc_X12_oddsFrom d)
noncomputable def b_X12_odds_0 (m_gloves : Int32) (m_matters : Int32) (m_holding : Int32) (m_code : Nat → Int32) (m_value : Nat → Int32) (m_clauses : Nat → Int32) (m_testFrom : Nat → Int32) (m_sumFrom : Nat → Int32) (m_sumTo : Nat → Int32) (m_glove : Nat → Int32) (m_matter : Nat → Int32) (m_now : Nat → Int32) (m_letters : Nat → Int32) (m_stack : Nat → Int32) (v1 : Int32) (v2 : Int32) (v3 : Int32) (v4 : Int32) (v5 : Int32) : Option (Int32 × (Nat → Int32) × (Nat → Int32)) :=
  ob1 (f_X12_isMatter m_matters v1) fun r_1 =>
  if r_1 = (0 : Int32) then
    some ((-1 : Int32), m_letters, m_stack)
  else
    ob1 (f_X12_areTwo m_gloves m_glove v2 v3) fun r_3 =>
    if r_3 = (0 : Int32) then
      some ((-1 : Int32), m_letters, m_stack)
    else
      ob1 (f_X12_in v4 (0 : Int32) (8 : Int32)) fun r_5 =>
      if r_5 = (0 : Int32) then
        some ((-1 : Int32), m_letters, m_stack)
      else
        ob1 (f_X12_in v5 (0 : Int32) (100 : Int32)) fun r_7 =>
        if r_7 = (0 : Int32) then
          some ((-1 : Int32), m_letters, m_stack)
        else
          bnd (((2 : Int32) * v1) + (1 : Int32)) fun i_9 =>
          gd (inB i_9 10) <|
          ob1 (f_X12_pairAt v2 v3) fun r_11 =>
          gd (inB r_11 250) <|
          ob3 (f_X12_oddsFrom 60 m_holding m_code m_value m_clauses m_testFrom m_sumFrom m_sumTo m_glove m_now m_letters m_stack v2 v3 (m_matter i_9.toNatClampNeg) (0 : Int32) v4 (m_now r_11.toNatClampNeg) v5 (1000000000 : Int32)) fun r_14 m_letters_15 m_stack_16 =>
          some (r_14, m_letters_15, m_stack_16)
noncomputable def f_X12_odds (m_gloves : Int32) (m_matters : Int32) (m_holding : Int32) (m_code : Nat → Int32) (m_value : Nat → Int32) (m_clauses : Nat → Int32) (m_testFrom : Nat → Int32) (m_sumFrom : Nat → Int32) (m_sumTo : Nat → Int32) (m_glove : Nat → Int32) (m_matter : Nat → Int32) (m_now : Nat → Int32) (m_letters : Nat → Int32) (m_stack : Nat → Int32) (p1 : Int32) (p2 : Int32) (p3 : Int32) (p4 : Int32) (p5 : Int32) : Option (Int32 × (Nat → Int32) × (Nat → Int32)) := b_X12_odds_0 m_gloves m_matters m_holding m_code m_value m_clauses m_testFrom m_sumFrom m_sumTo m_glove m_matter m_now m_letters m_stack p1 p2 p3 p4 p5
noncomputable def b_X12_shares_86 (m_gloves : Int32) (m_glove : Nat → Int32) (m_now : Nat → Int32) (k37 : Int32 → Int32 → Int32 → Int32 → Int32 → Option (Int32)) (v1 : Int32) (v2 : Int32) (v3 : Int32) (v5 : Int32) (t0 : Int32) (t1 : Int32) : Option (Int32) :=
  bnd (t0 + t1) fun v4_1 =>
  bnd (v5 + (1 : Int32)) fun v5_2 =>
  k37 v1 v2 v3 v4_1 v5_2
noncomputable def b_X12_shares_37 (m_gloves : Int32) (m_glove : Nat → Int32) (m_now : Nat → Int32) (k37 : Int32 → Int32 → Int32 → Int32 → Int32 → Option (Int32)) (v1 : Int32) (v2 : Int32) (v3 : Int32) (v4 : Int32) (v5 : Int32) : Option (Int32) :=
  if m_gloves ≤ v5 then
    if v3 = (0 : Int32) then
      some (0 : Int32)
    else
      gd (nzB v3) <|
      some ((v2 * v4) / v3)
  else
    gd (inB ((36 : Int32) + v5) 250) <|
    bnd (v3 + (m_now ((36 : Int32) + v5).toNatClampNeg)) fun v3_3 =>
    ob1 (f_X12_of m_glove v5 (0 : Int32)) fun r_4 =>
    if r_4 = v1 then
      gd (inB ((36 : Int32) + v5) 250) <|
      b_X12_shares_86 m_gloves m_glove m_now k37 v1 v2 v3_3 v5 v4 (m_now ((36 : Int32) + v5).toNatClampNeg)
    else
      b_X12_shares_86 m_gloves m_glove m_now k37 v1 v2 v3_3 v5 v4 (0 : Int32)
noncomputable def f_X12_shares_37 (m_gloves : Int32) (m_glove : Nat → Int32) (m_now : Nat → Int32) : Nat → Int32 → Int32 → Int32 → Int32 → Int32 → Option (Int32)
  | 0, _, _, _, _, _ => none
  | n + 1, v1, v2, v3, v4, v5 => b_X12_shares_37 m_gloves m_glove m_now (f_X12_shares_37 m_gloves m_glove m_now n) v1 v2 v3 v4 v5
noncomputable def b_X12_shares_0 (m_gloves : Int32) (m_glove : Nat → Int32) (m_now : Nat → Int32) (v1 : Int32) (v2 : Int32) : Option (Int32) :=
  if m_gloves = (0 : Int32) then
    some (-1 : Int32)
  else
    ob1 (f_X12_in v1 (0 : Int32) (1 : Int32)) fun r_1 =>
    if r_1 = (0 : Int32) then
      some (-1 : Int32)
    else
      ob1 (f_X12_in v2 (0 : Int32) (999 : Int32)) fun r_3 =>
      if r_3 = (0 : Int32) then
        some (-1 : Int32)
      else
        f_X12_shares_37 m_gloves m_glove m_now fu v1 v2 (0 : Int32) (0 : Int32) (0 : Int32)
noncomputable def f_X12_shares (m_gloves : Int32) (m_glove : Nat → Int32) (m_now : Nat → Int32) (p1 : Int32) (p2 : Int32) : Option (Int32) := b_X12_shares_0 m_gloves m_glove m_now p1 p2
noncomputable def b_X12_metSet_28 (m_gloves : Int32) (m_now : Nat → Int32) (k4 : Int32 → Int32 → Option (Int32)) (v2 : Int32) (t0 : Int32) (t1 : Int32) : Option (Int32) :=
  bnd (t0 ||| t1) fun v1_1 =>
  bnd (v2 + (1 : Int32)) fun v2_2 =>
  k4 v1_1 v2_2
noncomputable def b_X12_metSet_4 (m_gloves : Int32) (m_now : Nat → Int32) (k4 : Int32 → Int32 → Option (Int32)) (v1 : Int32) (v2 : Int32) : Option (Int32) :=
  if m_gloves ≤ v2 then
    some v1
  else
    ob1 (f_X12_isFree m_now v2) fun r_1 =>
    if r_1 = (0 : Int32) then
      b_X12_metSet_28 m_gloves m_now k4 v2 v1 ((1 : Int32) <<< (v2 &&& (31 : Int32)))
    else
      b_X12_metSet_28 m_gloves m_now k4 v2 v1 (0 : Int32)
noncomputable def f_X12_metSet_4 (m_gloves : Int32) (m_now : Nat → Int32) : Nat → Int32 → Int32 → Option (Int32)
  | 0, _, _ => none
  | n + 1, v1, v2 => b_X12_metSet_4 m_gloves m_now (f_X12_metSet_4 m_gloves m_now n) v1 v2
noncomputable def b_X12_metSet_0 (m_gloves : Int32) (m_now : Nat → Int32) : Option (Int32) :=
  f_X12_metSet_4 m_gloves m_now fu (0 : Int32) (0 : Int32)
noncomputable def f_X12_metSet (m_gloves : Int32) (m_now : Nat → Int32) : Option (Int32) := b_X12_metSet_0 m_gloves m_now 
noncomputable def b_X12_signedSet_33 (m_matters : Int32) (m_now : Nat → Int32) (k4 : Int32 → Int32 → Option (Int32)) (v2 : Int32) (t0 : Int32) (t1 : Int32) : Option (Int32) :=
  bnd (t0 ||| t1) fun v1_1 =>
  bnd (v2 + (1 : Int32)) fun v2_2 =>
  k4 v1_1 v2_2
noncomputable def b_X12_signedSet_4 (m_matters : Int32) (m_now : Nat → Int32) (k4 : Int32 → Int32 → Option (Int32)) (v1 : Int32) (v2 : Int32) : Option (Int32) :=
  if m_matters ≤ v2 then
    some v1
  else
    gd (inB ((60 : Int32) + v2) 250) <|
    if (m_now ((60 : Int32) + v2).toNatClampNeg) = (-1 : Int32) then
      b_X12_signedSet_33 m_matters m_now k4 v2 v1 (0 : Int32)
    else
      b_X12_signedSet_33 m_matters m_now k4 v2 v1 ((1 : Int32) <<< (v2 &&& (31 : Int32)))
noncomputable def f_X12_signedSet_4 (m_matters : Int32) (m_now : Nat → Int32) : Nat → Int32 → Int32 → Option (Int32)
  | 0, _, _ => none
  | n + 1, v1, v2 => b_X12_signedSet_4 m_matters m_now (f_X12_signedSet_4 m_matters m_now n) v1 v2
noncomputable def b_X12_signedSet_0 (m_matters : Int32) (m_now : Nat → Int32) : Option (Int32) :=
  f_X12_signedSet_4 m_matters m_now fu (0 : Int32) (0 : Int32)
noncomputable def f_X12_signedSet (m_matters : Int32) (m_now : Nat → Int32) : Option (Int32) := b_X12_signedSet_0 m_matters m_now 
noncomputable def b_X12_topPair_88 (m_gloves : Int32) (m_glove : Nat → Int32) (m_now : Nat → Int32) (k7 : Int32 → Int32 → Int32 → Int32 → Option (Int32)) (k22 : Int32 → Int32 → Int32 → Int32 → Int32 → Option (Int32)) (v1 : Int32) (v2 : Int32) (v3 : Int32) (v4 : Int32) (v5 : Int32) : Option (Int32) :=
  bnd (v5 + (1 : Int32)) fun v5_1 =>
  k22 v1 v2 v3 v4 v5_1
noncomputable def b_X12_topPair_65 (m_gloves : Int32) (m_glove : Nat → Int32) (m_now : Nat → Int32) (k7 : Int32 → Int32 → Int32 → Int32 → Option (Int32)) (k22 : Int32 → Int32 → Int32 → Int32 → Int32 → Option (Int32)) (v1 : Int32) (v4 : Int32) (v5 : Int32) : Option (Int32) :=
  ob1 (f_X12_codeOf v4 v5) fun r_1 =>
  ob1 (f_X12_pairAt v4 v5) fun r_3 =>
  gd (inB r_3 250) <|
  bnd (v1 * (m_now r_3.toNatClampNeg)) fun v3_6 =>
  b_X12_topPair_88 m_gloves m_glove m_now k7 k22 v1 r_1 v3_6 v4 v5
noncomputable def b_X12_topPair_22 (m_gloves : Int32) (m_glove : Nat → Int32) (m_now : Nat → Int32) (k7 : Int32 → Int32 → Int32 → Int32 → Option (Int32)) (k22 : Int32 → Int32 → Int32 → Int32 → Int32 → Option (Int32)) (v1 : Int32) (v2 : Int32) (v3 : Int32) (v4 : Int32) (v5 : Int32) : Option (Int32) :=
  if m_gloves ≤ v5 then
    bnd (v4 + (1 : Int32)) fun v4_1 =>
    k7 v1 v2 v3 v4_1
  else
    ob1 (f_X12_areTwo m_gloves m_glove v4 v5) fun r_2 =>
    if r_2 = (0 : Int32) then
      b_X12_topPair_88 m_gloves m_glove m_now k7 k22 v1 v2 v3 v4 v5
    else
      if v2 = (-1 : Int32) then
        b_X12_topPair_65 m_gloves m_glove m_now k7 k22 v1 v4 v5
      else
        ob1 (f_X12_pairAt v4 v5) fun r_4 =>
        gd (inB r_4 250) <|
        if (v1 * (m_now r_4.toNatClampNeg)) ≤ v3 then
          b_X12_topPair_88 m_gloves m_glove m_now k7 k22 v1 v2 v3 v4 v5
        else
          b_X12_topPair_65 m_gloves m_glove m_now k7 k22 v1 v4 v5
noncomputable def f_X12_topPair_22 (m_gloves : Int32) (m_glove : Nat → Int32) (m_now : Nat → Int32) (k7 : Int32 → Int32 → Int32 → Int32 → Option (Int32)) : Nat → Int32 → Int32 → Int32 → Int32 → Int32 → Option (Int32)
  | 0, _, _, _, _, _ => none
  | n + 1, v1, v2, v3, v4, v5 => b_X12_topPair_22 m_gloves m_glove m_now k7 (f_X12_topPair_22 m_gloves m_glove m_now k7 n) v1 v2 v3 v4 v5
noncomputable def b_X12_topPair_7 (m_gloves : Int32) (m_glove : Nat → Int32) (m_now : Nat → Int32) (k7 : Int32 → Int32 → Int32 → Int32 → Option (Int32)) (v1 : Int32) (v2 : Int32) (v3 : Int32) (v4 : Int32) : Option (Int32) :=
  if m_gloves ≤ v4 then
    some v2
  else
    bnd (v4 + (1 : Int32)) fun v5_1 =>
    f_X12_topPair_22 m_gloves m_glove m_now k7 fu v1 v2 v3 v4 v5_1
noncomputable def f_X12_topPair_7 (m_gloves : Int32) (m_glove : Nat → Int32) (m_now : Nat → Int32) : Nat → Int32 → Int32 → Int32 → Int32 → Option (Int32)
  | 0, _, _, _, _ => none
  | n + 1, v1, v2, v3, v4 => b_X12_topPair_7 m_gloves m_glove m_now (f_X12_topPair_7 m_gloves m_glove m_now n) v1 v2 v3 v4
noncomputable def b_X12_topPair_0 (m_gloves : Int32) (m_glove : Nat → Int32) (m_now : Nat → Int32) (v1 : Int32) : Option (Int32) :=
  f_X12_topPair_7 m_gloves m_glove m_now fu v1 (-1 : Int32) (0 : Int32) (0 : Int32)
noncomputable def f_X12_topPair (m_gloves : Int32) (m_glove : Nat → Int32) (m_now : Nat → Int32) (p1 : Int32) : Option (Int32) := b_X12_topPair_0 m_gloves m_glove m_now p1
noncomputable def b_X12_topGlove_36 (m_gloves : Int32) (m_now : Nat → Int32) (k4 : Int32 → Int32 → Int32 → Option (Int32)) (v1 : Int32) (v3 : Int32) (t0 : Int32) : Option (Int32) :=
  bnd (v3 + (1 : Int32)) fun v3_1 =>
  k4 v1 t0 v3_1
noncomputable def b_X12_topGlove_4 (m_gloves : Int32) (m_now : Nat → Int32) (k4 : Int32 → Int32 → Int32 → Option (Int32)) (v1 : Int32) (v2 : Int32) (v3 : Int32) : Option (Int32) :=
  if m_gloves ≤ v3 then
    some v2
  else
    gd (inB (v1 + v3) 250) <|
    gd (inB (v1 + v2) 250) <|
    if (m_now (v1 + v3).toNatClampNeg) ≤ (m_now (v1 + v2).toNatClampNeg) then
      b_X12_topGlove_36 m_gloves m_now k4 v1 v3 v2
    else
      b_X12_topGlove_36 m_gloves m_now k4 v1 v3 v3
noncomputable def f_X12_topGlove_4 (m_gloves : Int32) (m_now : Nat → Int32) : Nat → Int32 → Int32 → Int32 → Option (Int32)
  | 0, _, _, _ => none
  | n + 1, v1, v2, v3 => b_X12_topGlove_4 m_gloves m_now (f_X12_topGlove_4 m_gloves m_now n) v1 v2 v3
noncomputable def b_X12_topGlove_0 (m_gloves : Int32) (m_now : Nat → Int32) (v1 : Int32) : Option (Int32) :=
  f_X12_topGlove_4 m_gloves m_now fu v1 (0 : Int32) (1 : Int32)
noncomputable def f_X12_topGlove (m_gloves : Int32) (m_now : Nat → Int32) (p1 : Int32) : Option (Int32) := b_X12_topGlove_0 m_gloves m_now p1
noncomputable def b_X12_heaviest_51 (m_matters : Int32) (m_matter : Nat → Int32) (k15 : Int32 → Int32 → Option (Int32)) (v2 : Int32) (t0 : Int32) : Option (Int32) :=
  bnd (v2 + (1 : Int32)) fun v2_1 =>
  k15 t0 v2_1
noncomputable def b_X12_heaviest_15 (m_matters : Int32) (m_matter : Nat → Int32) (k15 : Int32 → Int32 → Option (Int32)) (v1 : Int32) (v2 : Int32) : Option (Int32) :=
  if m_matters ≤ v2 then
    some v1
  else
    bnd (((2 : Int32) * v2) + (0 : Int32)) fun i_1 =>
    gd (inB i_1 10) <|
    bnd (((2 : Int32) * v1) + (0 : Int32)) fun i_3 =>
    gd (inB i_3 10) <|
    if (m_matter i_1.toNatClampNeg) ≤ (m_matter i_3.toNatClampNeg) then
      b_X12_heaviest_51 m_matters m_matter k15 v2 v1
    else
      b_X12_heaviest_51 m_matters m_matter k15 v2 v2
noncomputable def f_X12_heaviest_15 (m_matters : Int32) (m_matter : Nat → Int32) : Nat → Int32 → Int32 → Option (Int32)
  | 0, _, _ => none
  | n + 1, v1, v2 => b_X12_heaviest_15 m_matters m_matter (f_X12_heaviest_15 m_matters m_matter n) v1 v2
noncomputable def b_X12_heaviest_12 (m_matters : Int32) (m_matter : Nat → Int32) (t0 : Int32) : Option (Int32) :=
  f_X12_heaviest_15 m_matters m_matter fu t0 (1 : Int32)
noncomputable def b_X12_heaviest_0 (m_matters : Int32) (m_matter : Nat → Int32) : Option (Int32) :=
  if m_matters = (0 : Int32) then
    b_X12_heaviest_12 m_matters m_matter (-1 : Int32)
  else
    b_X12_heaviest_12 m_matters m_matter (0 : Int32)
noncomputable def f_X12_heaviest (m_matters : Int32) (m_matter : Nat → Int32) : Option (Int32) := b_X12_heaviest_0 m_matters m_matter 
noncomputable def b_X12_bound_40 (m_matters : Int32) (m_matter : Nat → Int32) (m_now : Nat → Int32) (k4 : Int32 → Int32 → Option (Int32)) (v2 : Int32) (t0 : Int32) (t1 : Int32) : Option (Int32) :=
  bnd (t0 + t1) fun v1_1 =>
  bnd (v2 + (1 : Int32)) fun v2_2 =>
  k4 v1_1 v2_2
noncomputable def b_X12_bound_4 (m_matters : Int32) (m_matter : Nat → Int32) (m_now : Nat → Int32) (k4 : Int32 → Int32 → Option (Int32)) (v1 : Int32) (v2 : Int32) : Option (Int32) :=
  if m_matters ≤ v2 then
    some v1
  else
    gd (inB ((60 : Int32) + v2) 250) <|
    if (m_now ((60 : Int32) + v2).toNatClampNeg) = (-1 : Int32) then
      b_X12_bound_40 m_matters m_matter m_now k4 v2 v1 (0 : Int32)
    else
      bnd (((2 : Int32) * v2) + (0 : Int32)) fun i_2 =>
      gd (inB i_2 10) <|
      b_X12_bound_40 m_matters m_matter m_now k4 v2 v1 (m_matter i_2.toNatClampNeg)
noncomputable def f_X12_bound_4 (m_matters : Int32) (m_matter : Nat → Int32) (m_now : Nat → Int32) : Nat → Int32 → Int32 → Option (Int32)
  | 0, _, _ => none
  | n + 1, v1, v2 => b_X12_bound_4 m_matters m_matter m_now (f_X12_bound_4 m_matters m_matter m_now n) v1 v2
noncomputable def b_X12_bound_0 (m_matters : Int32) (m_matter : Nat → Int32) (m_now : Nat → Int32) : Option (Int32) :=
  f_X12_bound_4 m_matters m_matter m_now fu (0 : Int32) (0 : Int32)
noncomputable def f_X12_bound (m_matters : Int32) (m_matter : Nat → Int32) (m_now : Nat → Int32) : Option (Int32) := b_X12_bound_0 m_matters m_matter m_now 
noncomputable def b_X12_due_76 (m_matters : Int32) (m_matter : Nat → Int32) (m_now : Nat → Int32) (k33 : Int32 → Int32 → Int32 → Option (Int32)) (v1 : Int32) (v3 : Int32) (t0 : Int32) (t1 : Int32) : Option (Int32) :=
  bnd (t0 ||| t1) fun v2_1 =>
  bnd (v3 + (1 : Int32)) fun v3_2 =>
  k33 v1 v2_1 v3_2
noncomputable def b_X12_due_75 (m_matters : Int32) (m_matter : Nat → Int32) (m_now : Nat → Int32) (k33 : Int32 → Int32 → Int32 → Option (Int32)) (v1 : Int32) (v3 : Int32) (t0 : Int32) : Option (Int32) :=
  b_X12_due_76 m_matters m_matter m_now k33 v1 v3 t0 (0 : Int32)
noncomputable def b_X12_due_33 (m_matters : Int32) (m_matter : Nat → Int32) (m_now : Nat → Int32) (k33 : Int32 → Int32 → Int32 → Option (Int32)) (v1 : Int32) (v2 : Int32) (v3 : Int32) : Option (Int32) :=
  if m_matters ≤ v3 then
    some v2
  else
    gd (inB ((60 : Int32) + v3) 250) <|
    if (m_now ((60 : Int32) + v3).toNatClampNeg) = (-1 : Int32) then
      bnd (((2 : Int32) * v3) + (1 : Int32)) fun i_2 =>
      gd (inB i_2 10) <|
      if v1 < (m_matter i_2.toNatClampNeg) then
        b_X12_due_75 m_matters m_matter m_now k33 v1 v3 v2
      else
        b_X12_due_76 m_matters m_matter m_now k33 v1 v3 v2 ((1 : Int32) <<< (v3 &&& (31 : Int32)))
    else
      b_X12_due_75 m_matters m_matter m_now k33 v1 v3 v2
noncomputable def f_X12_due_33 (m_matters : Int32) (m_matter : Nat → Int32) (m_now : Nat → Int32) : Nat → Int32 → Int32 → Int32 → Option (Int32)
  | 0, _, _, _ => none
  | n + 1, v1, v2, v3 => b_X12_due_33 m_matters m_matter m_now (f_X12_due_33 m_matters m_matter m_now n) v1 v2 v3
noncomputable def b_X12_due_4 (m_matters : Int32) (m_matter : Nat → Int32) (m_now : Nat → Int32) (k4 : Int32 → Int32 → Option (Int32)) (v1 : Int32) (v2 : Int32) : Option (Int32) :=
  if (36 : Int32) ≤ v2 then
    f_X12_due_33 m_matters m_matter m_now fu v1 (0 : Int32) (0 : Int32)
  else
    gd (inB ((0 : Int32) + v2) 250) <|
    bnd (mx v1 (m_now ((0 : Int32) + v2).toNatClampNeg)) fun n_2 =>
    bnd (v2 + (1 : Int32)) fun v2_3 =>
    k4 n_2 v2_3
noncomputable def f_X12_due_4 (m_matters : Int32) (m_matter : Nat → Int32) (m_now : Nat → Int32) : Nat → Int32 → Int32 → Option (Int32)
  | 0, _, _ => none
  | n + 1, v1, v2 => b_X12_due_4 m_matters m_matter m_now (f_X12_due_4 m_matters m_matter m_now n) v1 v2
noncomputable def b_X12_due_0 (m_matters : Int32) (m_matter : Nat → Int32) (m_now : Nat → Int32) : Option (Int32) :=
  f_X12_due_4 m_matters m_matter m_now fu (0 : Int32) (0 : Int32)
noncomputable def f_X12_due (m_matters : Int32) (m_matter : Nat → Int32) (m_now : Nat → Int32) : Option (Int32) := b_X12_due_0 m_matters m_matter m_now 
noncomputable def b_X12_most_0 (m_gloves : Int32) (m_matters : Int32) (m_glove : Nat → Int32) (m_matter : Nat → Int32) (m_now : Nat → Int32) (v1 : Int32) : Option (Int32) :=
  if m_gloves = (0 : Int32) then
    some (-1 : Int32)
  else
    if v1 = (0 : Int32) then
      ob1 (f_X12_metSet m_gloves m_now) fun r_1 =>
      some r_1
    else
    if v1 = (1 : Int32) then
      ob1 (f_X12_signedSet m_matters m_now) fun r_3 =>
      some r_3
    else
    if v1 = (2 : Int32) then
      ob1 (f_X12_topPair m_gloves m_glove m_now (1 : Int32)) fun r_5 =>
      some r_5
    else
    if v1 = (3 : Int32) then
      ob1 (f_X12_topPair m_gloves m_glove m_now (-1 : Int32)) fun r_7 =>
      some r_7
    else
    if v1 = (4 : Int32) then
      ob1 (f_X12_topGlove m_gloves m_now (36 : Int32)) fun r_9 =>
      some r_9
    else
    if v1 = (5 : Int32) then
      ob1 (f_X12_topGlove m_gloves m_now (42 : Int32)) fun r_11 =>
      some r_11
    else
    if v1 = (6 : Int32) then
      ob1 (f_X12_heaviest m_matters m_matter) fun r_13 =>
      some r_13
    else
    if v1 = (7 : Int32) then
      ob1 (f_X12_bound m_matters m_matter m_now) fun r_15 =>
      some r_15
    else
    if v1 = (8 : Int32) then
      ob1 (f_X12_due m_matters m_matter m_now) fun r_17 =>
      some r_17
    else
    some (-1 : Int32)
noncomputable def f_X12_most (m_gloves : Int32) (m_matters : Int32) (m_glove : Nat → Int32) (m_matter : Nat → Int32) (m_now : Nat → Int32) (p1 : Int32) : Option (Int32) := b_X12_most_0 m_gloves m_matters m_glove m_matter m_now p1
noncomputable def b_X12_allies_48 (m_gloves : Int32) (m_glove : Nat → Int32) (k14 : Int32 → Int32 → Int32 → Option (Int32)) (v1 : Int32) (v3 : Int32) (t0 : Int32) (t1 : Int32) : Option (Int32) :=
  bnd (t0 ||| t1) fun v2_1 =>
  bnd (v3 + (1 : Int32)) fun v3_2 =>
  k14 v1 v2_1 v3_2
noncomputable def b_X12_allies_47 (m_gloves : Int32) (m_glove : Nat → Int32) (k14 : Int32 → Int32 → Int32 → Option (Int32)) (v1 : Int32) (v3 : Int32) (t0 : Int32) : Option (Int32) :=
  b_X12_allies_48 m_gloves m_glove k14 v1 v3 t0 (0 : Int32)
noncomputable def b_X12_allies_14 (m_gloves : Int32) (m_glove : Nat → Int32) (k14 : Int32 → Int32 → Int32 → Option (Int32)) (v1 : Int32) (v2 : Int32) (v3 : Int32) : Option (Int32) :=
  if m_gloves ≤ v3 then
    some v2
  else
    ob1 (f_X12_areTwo m_gloves m_glove v1 v3) fun r_1 =>
    if r_1 = (0 : Int32) then
      b_X12_allies_47 m_gloves m_glove k14 v1 v3 v2
    else
      ob1 (f_X12_areAllies m_glove v1 v3) fun r_3 =>
      if r_3 = (0 : Int32) then
        b_X12_allies_47 m_gloves m_glove k14 v1 v3 v2
      else
        b_X12_allies_48 m_gloves m_glove k14 v1 v3 v2 ((1 : Int32) <<< (v3 &&& (31 : Int32)))
noncomputable def f_X12_allies_14 (m_gloves : Int32) (m_glove : Nat → Int32) : Nat → Int32 → Int32 → Int32 → Option (Int32)
  | 0, _, _, _ => none
  | n + 1, v1, v2, v3 => b_X12_allies_14 m_gloves m_glove (f_X12_allies_14 m_gloves m_glove n) v1 v2 v3
noncomputable def b_X12_allies_0 (m_gloves : Int32) (m_glove : Nat → Int32) (v1 : Int32) : Option (Int32) :=
  ob1 (f_X12_isGlove m_gloves v1) fun r_1 =>
  if r_1 = (0 : Int32) then
    some (-1 : Int32)
  else
    f_X12_allies_14 m_gloves m_glove fu v1 (0 : Int32) (0 : Int32)
noncomputable def f_X12_allies (m_gloves : Int32) (m_glove : Nat → Int32) (p1 : Int32) : Option (Int32) := b_X12_allies_0 m_gloves m_glove p1
noncomputable def b_X12_image_11 (m_gloves : Int32) (m_now : Nat → Int32) (k11 : Int32 → (Nat → Int32) → Int32 → Option (Int32 × Int32 × (Nat → Int32))) (m_hasImage : Int32) (m_image : Nat → Int32) (v1 : Int32) : Option (Int32 × Int32 × (Nat → Int32)) :=
  if (250 : Int32) ≤ v1 then
    gd (inB (68 : Int32) 250) <|
    some ((m_now (68 : Int32).toNatClampNeg), (1 : Int32), m_image)
  else
    gd (inB v1 250) <|
    gd (inB v1 250) <|
    bnd (upd m_image v1.toNatClampNeg (m_now v1.toNatClampNeg)) fun m_image_4 =>
    bnd (v1 + (1 : Int32)) fun v1_5 =>
    k11 m_hasImage m_image_4 v1_5
noncomputable def f_X12_image_11 (m_gloves : Int32) (m_now : Nat → Int32) : Nat → Int32 → (Nat → Int32) → Int32 → Option (Int32 × Int32 × (Nat → Int32))
  | 0, _, _, _ => none
  | n + 1, m_hasImage, m_image, v1 => b_X12_image_11 m_gloves m_now (f_X12_image_11 m_gloves m_now n) m_hasImage m_image v1
noncomputable def b_X12_image_0 (m_gloves : Int32) (m_now : Nat → Int32) (m_hasImage : Int32) (m_image : Nat → Int32) : Option (Int32 × Int32 × (Nat → Int32)) :=
  if m_gloves = (0 : Int32) then
    some ((-1 : Int32), m_hasImage, m_image)
  else
    f_X12_image_11 m_gloves m_now fu m_hasImage m_image (0 : Int32)
noncomputable def f_X12_image (m_gloves : Int32) (m_now : Nat → Int32) (m_hasImage : Int32) (m_image : Nat → Int32) : Option (Int32 × Int32 × (Nat → Int32)) := b_X12_image_0 m_gloves m_now m_hasImage m_image
noncomputable def b_X12_back_11 (m_hasImage : Int32) (m_image : Nat → Int32) (k11 : Int32 → (Nat → Int32) → Int32 → Option (Int32 × Int32 × (Nat → Int32))) (m_acts : Int32) (m_now : Nat → Int32) (v1 : Int32) : Option (Int32 × Int32 × (Nat → Int32)) :=
  if (250 : Int32) ≤ v1 then
    gd (inB (68 : Int32) 250) <|
    some ((m_now (68 : Int32).toNatClampNeg), (0 : Int32), m_now)
  else
    gd (inB v1 250) <|
    gd (inB v1 250) <|
    bnd (upd m_now v1.toNatClampNeg (m_image v1.toNatClampNeg)) fun m_now_4 =>
    bnd (v1 + (1 : Int32)) fun v1_5 =>
    k11 m_acts m_now_4 v1_5
noncomputable def f_X12_back_11 (m_hasImage : Int32) (m_image : Nat → Int32) : Nat → Int32 → (Nat → Int32) → Int32 → Option (Int32 × Int32 × (Nat → Int32))
  | 0, _, _, _ => none
  | n + 1, m_acts, m_now, v1 => b_X12_back_11 m_hasImage m_image (f_X12_back_11 m_hasImage m_image n) m_acts m_now v1
noncomputable def b_X12_back_0 (m_hasImage : Int32) (m_image : Nat → Int32) (m_acts : Int32) (m_now : Nat → Int32) : Option (Int32 × Int32 × (Nat → Int32)) :=
  if m_hasImage = (0 : Int32) then
    some ((-1 : Int32), m_acts, m_now)
  else
    f_X12_back_11 m_hasImage m_image fu m_acts m_now (0 : Int32)
noncomputable def f_X12_back (m_hasImage : Int32) (m_image : Nat → Int32) (m_acts : Int32) (m_now : Nat → Int32) : Option (Int32 × Int32 × (Nat → Int32)) := b_X12_back_0 m_hasImage m_image m_acts m_now
noncomputable def b_X12_count_0 (m_size : Int32) (m_laws : Int32) (m_gloves : Int32) (m_matters : Int32) (m_holding : Int32) (m_spiteful : Int32) (m_acts : Int32) (m_noted : Int32) (m_now : Nat → Int32) (v1 : Int32) : Option (Int32) :=
  if v1 = (0 : Int32) then
    some m_gloves
  else
  if v1 = (1 : Int32) then
    some m_matters
  else
  if v1 = (2 : Int32) then
    some m_laws
  else
  if v1 = (3 : Int32) then
    some m_size
  else
  if v1 = (4 : Int32) then
    some m_holding
  else
  if v1 = (5 : Int32) then
    gd (inB (68 : Int32) 250) <|
    some (m_now (68 : Int32).toNatClampNeg)
  else
  if v1 = (6 : Int32) then
    ob1 (f_X12_warmthOfAll m_now) fun r_2 =>
    some r_2
  else
  if v1 = (7 : Int32) then
    ob1 (f_X12_metMany m_gloves m_now) fun r_4 =>
    some r_4
  else
  if v1 = (8 : Int32) then
    some m_spiteful
  else
  if v1 = (9 : Int32) then
    some m_noted
  else
  if v1 = (10 : Int32) then
    gd (inB (69 : Int32) 250) <|
    some (m_now (69 : Int32).toNatClampNeg)
  else
  if v1 = (11 : Int32) then
    some m_acts
  else
  some (-1000000 : Int32)
noncomputable def f_X12_count (m_size : Int32) (m_laws : Int32) (m_gloves : Int32) (m_matters : Int32) (m_holding : Int32) (m_spiteful : Int32) (m_acts : Int32) (m_noted : Int32) (m_now : Nat → Int32) (p1 : Int32) : Option (Int32) := b_X12_count_0 m_size m_laws m_gloves m_matters m_holding m_spiteful m_acts m_noted m_now p1
