def fX0_empty (v_size : Int32) (v_touches : Int32) (v_one : Int32) : (Int32 × Int32 × Int32) :=
  ((0 : Int32), (0 : Int32), (-9 : Int32))
def fX0_copyFrom_L2 (a_p1_a : Nat → Int32) (a_p1_b : Nat → Int32) (v_p1_size : Int32) (v_p1_touches : Int32) (v_p1_one : Int32) : Nat → Int32 → (Nat → Int32) → (Nat → Int32) → Option ((Nat → Int32) × (Nat → Int32) × Int32 × Int32 × Int32)
  | 0, _, _, _ => none
  | n2 + 1, x2_1, w_2, w_3 =>
    if (6 : Int32) ≤ x2_1 then
      some (w_2, w_3, v_p1_size, v_p1_touches, v_p1_one)
    else
      vg x2_1 6 (
      vg x2_1 6 (
      vg x2_1 6 (
      vg x2_1 6 (
      fX0_copyFrom_L2 a_p1_a a_p1_b v_p1_size v_p1_touches v_p1_one n2 (x2_1 + 1) (upd w_2 x2_1.toNatClampNeg (a_p1_a x2_1.toNatClampNeg)) (upd w_3 x2_1.toNatClampNeg (a_p1_b x2_1.toNatClampNeg))))))
def fX0_copyFrom (N : Nat) (a_a : Nat → Int32) (a_b : Nat → Int32) (v_size : Int32) (v_touches : Int32) (v_one : Int32) (a_p1_a : Nat → Int32) (a_p1_b : Nat → Int32) (v_p1_size : Int32) (v_p1_touches : Int32) (v_p1_one : Int32) : Option ((Nat → Int32) × (Nat → Int32) × Int32 × Int32 × Int32) :=
  fX0_copyFrom_L2 a_p1_a a_p1_b v_p1_size v_p1_touches v_p1_one N (0 : Int32) a_a a_b
def fX0_append (a_a : Nat → Int32) (a_b : Nat → Int32) (v_size : Int32) (p1 : Int32) (p2 : Int32) : Option ((Nat → Int32) × (Nat → Int32) × Int32) :=
  if (6 : Int32) ≤ v_size then
    some (a_a, a_b, v_size)
  else
    vg v_size 6 (
    vg v_size 6 (
    some ((upd a_a v_size.toNatClampNeg p1), (upd a_b v_size.toNatClampNeg p2), (v_size + (1 : Int32)))))
def fX0_sum (a_a : Nat → Int32) (a_b : Nat → Int32) (p1 : Int32) : Option Int32 :=
  vg p1 6 (
  vg p1 6 (
  some ((a_a p1.toNatClampNeg) + (a_b p1.toNatClampNeg))))
def fX0_carries_J29 (a_a : Nat → Int32) (a_b : Nat → Int32) (p1 : Int32) (y0_3 : Int32) : Option Int32 :=
  vg p1 6 (
  vg p1 6 (
  if (((((a_a p1.toNatClampNeg) / (10 : Int32)) - ((a_a p1.toNatClampNeg) / (10 : Int32)) / (10 : Int32) * (10 : Int32)) + (((a_b p1.toNatClampNeg) / (10 : Int32)) - ((a_b p1.toNatClampNeg) / (10 : Int32)) / (10 : Int32) * (10 : Int32))) + y0_3) < (10 : Int32) then
    some y0_3
  else
    some (y0_3 ||| (2 : Int32))))
def fX0_carries (a_a : Nat → Int32) (a_b : Nat → Int32) (p1 : Int32) : Option Int32 :=
  vg p1 6 (
  vg p1 6 (
  if (((a_a p1.toNatClampNeg) - (a_a p1.toNatClampNeg) / (10 : Int32) * (10 : Int32)) + ((a_b p1.toNatClampNeg) - (a_b p1.toNatClampNeg) / (10 : Int32) * (10 : Int32))) < (10 : Int32) then
    fX0_carries_J29 a_a a_b p1 (0 : Int32)
  else
    fX0_carries_J29 a_a a_b p1 (1 : Int32)))
def fX1_append_J30 (p1 : Int64) (w_1 : Nat → Int64) (w_2 : Int32) : Option ((Nat → Int64) × Int32) :=
  vg w_2 10 (
  some ((vp_updL w_1 w_2.toNatClampNeg p1), (w_2 + (1 : Int32))))
def fX1_append (a_steps : Nat → Int64) (v_known : Int32) (p1 : Int64) : Option ((Nat → Int64) × Int32) :=
  if v_known < (10 : Int32) then
    fX1_append_J30 p1 a_steps v_known
  else
    fX1_append_J30 p1 (va_cpy a_steps a_steps (1 : Int32).toNatClampNeg (0 : Int32).toNatClampNeg (9 : Int32).toNatClampNeg) (9 : Int32)
def fX1_takeLatest_J17 (a_steps : Nat → Int64) (w_1 : Int32) : Option (Int64 × Int32) :=
  vg w_1 10 (
  some ((a_steps w_1.toNatClampNeg), w_1))
def fX1_takeLatest (a_steps : Nat → Int64) (v_known : Int32) : Option (Int64 × Int32) :=
  if v_known ≤ 0 then
    fX1_takeLatest_J17 a_steps v_known
  else
    fX1_takeLatest_J17 a_steps (v_known - (1 : Int32))
def fX1_copyFrom (a_steps : Nat → Int64) (v_known : Int32) (a_p1_steps : Nat → Int64) (v_p1_known : Int32) : ((Nat → Int64) × Int32) :=
  ((va_cpy a_p1_steps a_steps (0 : Int32).toNatClampNeg (0 : Int32).toNatClampNeg (10 : Int32).toNatClampNeg), v_p1_known)
def fX3_packed_J25 (v_forgotten : Int32) (v_touches : Int32) (v_trapped : Int32) (v_date : Int32) (y1_1 : Int32) : Int64 :=
  ((((((((v_date.toInt64 <<< ((3 : Int32).toInt64 &&& 63)) ||| y1_1.toInt64) <<< ((6 : Int32).toInt64 &&& 63)) ||| v_trapped.toInt64) <<< ((15 : Int32).toInt64 &&& 63)) ||| v_touches.toInt64) <<< ((12 : Int32).toInt64 &&& 63)) ||| v_forgotten.toInt64)
def fX3_packed (v_forgotten : Int32) (v_touches : Int32) (v_trapped : Int32) (v_one : Int32) (v_date : Int32) : Int64 :=
  if 0 ≤ v_one then
    fX3_packed_J25 v_forgotten v_touches v_trapped v_date v_one
  else
    fX3_packed_J25 v_forgotten v_touches v_trapped v_date (7 : Int32)
def fX2_fill (a_history_steps : Nat → Int64) (v_history_known : Int32) (v_packed : Int64) (v_kept : Int32) (v_p1_forgotten : Int32) (v_p1_touches : Int32) (v_p1_trapped : Int32) (v_p1_one : Int32) (v_p1_date : Int32) (a_p2_steps : Nat → Int64) (v_p2_known : Int32) : ((Nat → Int64) × Int32 × Int64 × Int32) :=
  ((fX1_copyFrom a_history_steps v_history_known a_p2_steps v_p2_known).1, (fX1_copyFrom a_history_steps v_history_known a_p2_steps v_p2_known).2, (fX3_packed v_p1_forgotten v_p1_touches v_p1_trapped v_p1_one v_p1_date), (1 : Int32))
def fX3_lowest (p1 : Int64) (p2 : Int32) : Int32 :=
  (p1 &&& (((1 : Int64) <<< (p2.toInt64 &&& 63)) - (1 : Int64))).toInt32
def fX3_unpack (v_forgotten : Int32) (v_touches : Int32) (v_trapped : Int32) (v_one : Int32) (v_date : Int32) (p1 : Int64) : (Int32 × Int32 × Int32 × Int32 × Int32) :=
  if (fX3_lowest (((p1 >>> ((12 : Int32).toInt64 &&& 63)) >>> ((15 : Int32).toInt64 &&& 63)) >>> ((6 : Int32).toInt64 &&& 63)) (3 : Int32)) = (7 : Int32) then
    ((fX3_lowest p1 (12 : Int32)), (fX3_lowest (p1 >>> ((12 : Int32).toInt64 &&& 63)) (15 : Int32)), (fX3_lowest ((p1 >>> ((12 : Int32).toInt64 &&& 63)) >>> ((15 : Int32).toInt64 &&& 63)) (6 : Int32)), (-9 : Int32), ((((p1 >>> ((12 : Int32).toInt64 &&& 63)) >>> ((15 : Int32).toInt64 &&& 63)) >>> ((6 : Int32).toInt64 &&& 63)) >>> ((3 : Int32).toInt64 &&& 63)).toInt32)
  else
    ((fX3_lowest p1 (12 : Int32)), (fX3_lowest (p1 >>> ((12 : Int32).toInt64 &&& 63)) (15 : Int32)), (fX3_lowest ((p1 >>> ((12 : Int32).toInt64 &&& 63)) >>> ((15 : Int32).toInt64 &&& 63)) (6 : Int32)), (fX3_lowest (((p1 >>> ((12 : Int32).toInt64 &&& 63)) >>> ((15 : Int32).toInt64 &&& 63)) >>> ((6 : Int32).toInt64 &&& 63)) (3 : Int32)), ((((p1 >>> ((12 : Int32).toInt64 &&& 63)) >>> ((15 : Int32).toInt64 &&& 63)) >>> ((6 : Int32).toInt64 &&& 63)) >>> ((3 : Int32).toInt64 &&& 63)).toInt32)
def fX2_restore (a_history_steps : Nat → Int64) (v_history_known : Int32) (v_packed : Int64) (v_p1_forgotten : Int32) (v_p1_touches : Int32) (v_p1_trapped : Int32) (v_p1_one : Int32) (v_p1_date : Int32) (a_p2_steps : Nat → Int64) (v_p2_known : Int32) : (Int32 × Int32 × Int32 × Int32 × Int32 × (Nat → Int64) × Int32) :=
  ((fX3_unpack v_p1_forgotten v_p1_touches v_p1_trapped v_p1_one v_p1_date v_packed).1, (fX3_unpack v_p1_forgotten v_p1_touches v_p1_trapped v_p1_one v_p1_date v_packed).2.1, (fX3_unpack v_p1_forgotten v_p1_touches v_p1_trapped v_p1_one v_p1_date v_packed).2.2.1, (fX3_unpack v_p1_forgotten v_p1_touches v_p1_trapped v_p1_one v_p1_date v_packed).2.2.2.1, (fX3_unpack v_p1_forgotten v_p1_touches v_p1_trapped v_p1_one v_p1_date v_packed).2.2.2.2, (fX1_copyFrom a_p2_steps v_p2_known a_history_steps v_history_known).1, (fX1_copyFrom a_p2_steps v_p2_known a_history_steps v_history_known).2)
def fX3_begin (v_forgotten : Int32) (v_touches : Int32) (v_trapped : Int32) (v_one : Int32) (v_date : Int32) (v_p1_touches : Int32) (v_p1_one : Int32) : (Int32 × Int32 × Int32 × Int32 × Int32) :=
  ((0 : Int32), v_p1_touches, (0 : Int32), v_p1_one, (0 : Int32))
def fX3_forgottenIn (v_forgotten : Int32) (p1 : Int32) : Int32 :=
  ((v_forgotten >>> (((2 : Int32) * p1) &&& 31)) &&& (3 : Int32))
def fX3_isTrap (v_trapped : Int32) (p1 : Int32) : Int32 :=
  if ((v_trapped >>> (p1 &&& 31)) &&& (1 : Int32)) = 0 then
    (0 : Int32)
  else
    (1 : Int32)
def fX4_append (a_days : Nat → Int32) (a_books : Nat → Int32) (a_there : Nat → Int32) (v_size : Int32) (p1 : Int32) (p2 : Int32) (p3 : Int32) : Option (Int32 × (Nat → Int32) × (Nat → Int32) × (Nat → Int32) × Int32) :=
  if v_size < (6 : Int32) then
    vg v_size 6 (
    vg v_size 6 (
    vg v_size 6 (
    some ((1 : Int32), (upd a_days v_size.toNatClampNeg p1), (upd a_books v_size.toNatClampNeg p2), (upd a_there v_size.toNatClampNeg (vp_nar .boolean p3)), (v_size + (1 : Int32))))))
  else
    some ((0 : Int32), a_days, a_books, a_there, v_size)
def fX5_append (a_bytes : Nat → Int32) (v_length : Int32) (p1 : Int32) : Option (Int32 × (Nat → Int32) × Int32) :=
  if v_length < (150 : Int32) then
    vg v_length 150 (
    some ((1 : Int32), (upd a_bytes v_length.toNatClampNeg p1), (v_length + (1 : Int32))))
  else
    some ((0 : Int32), a_bytes, v_length)
def fX7_within (p1 : Int32) (p2 : Int32) (p3 : Int32) : Int32 :=
  if p1 < p2 then
    (0 : Int32)
  else
    if p3 < p1 then
      (0 : Int32)
    else
      (1 : Int32)
def fX5_stepOverAll_L0 (a_bytes : Nat → Int32) (v_length : Int32) (p1 : Int32) (p2 : Int32) : Nat → Int32 → Option Int32
  | 0, _ => none
  | n0 + 1, w_1 =>
    if v_length ≤ w_1 then
      some w_1
    else
      vg w_1 150 (
      if (a_bytes w_1.toNatClampNeg) < p1 then
        some w_1
      else
        vg w_1 150 (
        if p2 < (a_bytes w_1.toNatClampNeg) then
          some w_1
        else
          fX5_stepOverAll_L0 a_bytes v_length p1 p2 n0 (w_1 + (1 : Int32))))
def fX5_stepOverAll (N : Nat) (a_bytes : Nat → Int32) (v_length : Int32) (v_place : Int32) (p1 : Int32) (p2 : Int32) : Option Int32 :=
  fX5_stepOverAll_L0 a_bytes v_length p1 p2 N v_place
def fX5_isNumber (v_place : Int32) (v_begin : Int32) (p1 : Int32) : Int32 :=
  if (v_place - v_begin) = (1 : Int32) then
    (1 : Int32)
  else
    if (3 : Int32) < (v_place - v_begin) then
      (0 : Int32)
    else
      if p1 = (48 : Int32) then
        (0 : Int32)
      else
        (1 : Int32)
def fX5_valueOfFigures_L7 (a_bytes : Nat → Int32) (v_place : Int32) : Nat → Int32 → Int32 → Option Int32
  | 0, _, _ => none
  | n7 + 1, x1_1, x2_2 =>
    if v_place ≤ x2_2 then
      some x1_1
    else
      vg x2_2 150 (
      fX5_valueOfFigures_L7 a_bytes v_place n7 ((((10 : Int32) * x1_1) + (a_bytes x2_2.toNatClampNeg)) - (48 : Int32)) (x2_2 + 1))
def fX5_valueOfFigures (N : Nat) (a_bytes : Nat → Int32) (v_place : Int32) (v_begin : Int32) : Option Int32 :=
  fX5_valueOfFigures_L7 a_bytes v_place N (0 : Int32) v_begin
def fX5_step_J208 (v_value : Int32) (w_1 : Int32) (y1_10 : Int32) : Option (Int32 × Int32 × Int32 × Int32) :=
  some ((w_1 + (1 : Int32)), y1_10, w_1, v_value)
def fX5_step_J169 (N : Nat) (a_bytes : Nat → Int32) (w_1 : Int32) (q_12 : Int32) (y1_15 : Int32) : Option (Int32 × Int32 × Int32 × Int32) :=
  if y1_15 = (2 : Int32) then
    (fX5_valueOfFigures N a_bytes q_12 w_1).bind fun q_17 =>
    some (q_12, y1_15, w_1, q_17)
  else
    some (q_12, y1_15, w_1, (-9 : Int32))
def fX5_step_J71 (N : Nat) (a_bytes : Nat → Int32) (v_length : Int32) (v_value : Int32) (w_1 : Int32) (y0_4 : Int32) : Option (Int32 × Int32 × Int32 × Int32) :=
  if y0_4 = (-9 : Int32) then
    some (w_1, (0 : Int32), w_1, v_value)
  else
    if (fX7_within y0_4 (97 : Int32) (122 : Int32)) = 0 then
      if (fX7_within y0_4 (48 : Int32) (57 : Int32)) = 0 then
        if y0_4 = (59 : Int32) then
          fX5_step_J208 v_value w_1 (3 : Int32)
        else
          fX5_step_J208 v_value w_1 (4 : Int32)
      else
        (fX5_stepOverAll N a_bytes v_length w_1 (48 : Int32) (57 : Int32)).bind fun q_12 =>
        if (fX5_isNumber q_12 w_1 y0_4) = 0 then
          fX5_step_J169 N a_bytes w_1 q_12 (4 : Int32)
        else
          fX5_step_J169 N a_bytes w_1 q_12 (2 : Int32)
    else
      (fX5_stepOverAll N a_bytes v_length w_1 (97 : Int32) (122 : Int32)).bind fun q_20 =>
      if (q_20 - w_1) = (1 : Int32) then
        some (q_20, (1 : Int32), w_1, y0_4)
      else
        some (q_20, (1 : Int32), w_1, (-9 : Int32))
def fX5_step_J38 (N : Nat) (a_bytes : Nat → Int32) (v_length : Int32) (v_value : Int32) (w_1 : Int32) : Option (Int32 × Int32 × Int32 × Int32) :=
  if v_length ≤ w_1 then
    fX5_step_J71 N a_bytes v_length v_value w_1 (-9 : Int32)
  else
    vg w_1 150 (
    fX5_step_J71 N a_bytes v_length v_value w_1 (a_bytes w_1.toNatClampNeg))
def fX5_step_L0 (N : Nat) (a_bytes : Nat → Int32) (v_length : Int32) (v_value : Int32) : Nat → Int32 → Option (Int32 × Int32 × Int32 × Int32)
  | 0, _ => none
  | n0 + 1, w_1 =>
    if v_length ≤ w_1 then
      fX5_step_J38 N a_bytes v_length v_value w_1 
    else
      vg w_1 150 (
      if (a_bytes w_1.toNatClampNeg) = (32 : Int32) then
        fX5_step_L0 N a_bytes v_length v_value n0 (w_1 + (1 : Int32))
      else
        fX5_step_J38 N a_bytes v_length v_value w_1 )
def fX5_step (N : Nat) (a_bytes : Nat → Int32) (v_length : Int32) (v_place : Int32) (v_token : Int32) (v_begin : Int32) (v_value : Int32) : Option (Int32 × Int32 × Int32 × Int32) :=
  fX5_step_L0 N a_bytes v_length v_value N v_place
def fX5_readNumber (N : Nat) (a_bytes : Nat → Int32) (v_length : Int32) (v_place : Int32) (v_token : Int32) (v_begin : Int32) (v_value : Int32) (p1 : Int32) : Option (Int32 × Int32 × Int32 × Int32 × Int32) :=
  (fX5_step N a_bytes v_length v_place v_token v_begin v_value).bind fun q_1 =>
  if q_1.2.1 = (2 : Int32) then
    if p1 < q_1.2.2.2 then
      some ((0 : Int32), q_1.1, q_1.2.1, q_1.2.2.1, q_1.2.2.2)
    else
      some ((1 : Int32), q_1.1, q_1.2.1, q_1.2.2.1, q_1.2.2.2)
  else
    some ((0 : Int32), q_1.1, q_1.2.1, q_1.2.2.1, q_1.2.2.2)
def fX5_readSemicolon (N : Nat) (a_bytes : Nat → Int32) (v_length : Int32) (v_place : Int32) (v_token : Int32) (v_begin : Int32) (v_value : Int32) : Option (Int32 × Int32 × Int32 × Int32 × Int32) :=
  (fX5_step N a_bytes v_length v_place v_token v_begin v_value).bind fun q_1 =>
  if q_1.2.1 = (3 : Int32) then
    some ((1 : Int32), q_1.1, q_1.2.1, q_1.2.2.1, q_1.2.2.2)
  else
    some ((0 : Int32), q_1.1, q_1.2.1, q_1.2.2.1, q_1.2.2.2)
def fX5_readBook (N : Nat) (a_bytes : Nat → Int32) (v_length : Int32) (v_place : Int32) (v_token : Int32) (v_begin : Int32) (v_value : Int32) (a_p1_a : Nat → Int32) (a_p1_b : Nat → Int32) (v_p1_size : Int32) : Option (Int32 × Int32 × Int32 × Int32 × Int32 × (Nat → Int32) × (Nat → Int32) × Int32) :=
  if (6 : Int32) ≤ v_p1_size then
    some ((0 : Int32), v_place, v_token, v_begin, v_value, a_p1_a, a_p1_b, v_p1_size)
  else
    (fX5_readNumber N a_bytes v_length v_place v_token v_begin v_value (999 : Int32)).bind fun q_2 =>
    if q_2.1 = 0 then
      some ((0 : Int32), q_2.2.1, q_2.2.2.1, q_2.2.2.2.1, q_2.2.2.2.2, a_p1_a, a_p1_b, v_p1_size)
    else
      (fX5_readNumber N a_bytes v_length q_2.2.1 q_2.2.2.1 q_2.2.2.2.1 q_2.2.2.2.2 (999 : Int32)).bind fun q_6 =>
      if q_6.1 = 0 then
        some ((0 : Int32), q_6.2.1, q_6.2.2.1, q_6.2.2.2.1, q_6.2.2.2.2, a_p1_a, a_p1_b, v_p1_size)
      else
        (fX0_append a_p1_a a_p1_b v_p1_size q_2.2.2.2.2 q_6.2.2.2.2).bind fun q_10 =>
        (fX5_readSemicolon N a_bytes v_length q_6.2.1 q_6.2.2.1 q_6.2.2.2.1 q_6.2.2.2.2).bind fun q_12 =>
        some (q_12.1, q_12.2.1, q_12.2.2.1, q_12.2.2.2.1, q_12.2.2.2.2, q_10.1, q_10.2.1, q_10.2.2)
def fX7_touchBit_J21 (y0_1 : Int32) (y0_2 : Int32) : Int32 :=
  ((1 : Int32) <<< ((((((y0_1 * ((11 : Int32) - y0_1)) / (2 : Int32)) + y0_2) - y0_1) - (1 : Int32)) &&& 31))
def fX7_touchBit_J10 (p1 : Int32) (p2 : Int32) (y0_1 : Int32) : Int32 :=
  if p2 ≤ p1 then
    fX7_touchBit_J21 y0_1 p1
  else
    fX7_touchBit_J21 y0_1 p2
def fX7_touchBit (p1 : Int32) (p2 : Int32) : Int32 :=
  if p2 ≤ p1 then
    fX7_touchBit_J10 p1 p2 p2
  else
    fX7_touchBit_J10 p1 p2 p1
def fX5_readTouch (N : Nat) (a_bytes : Nat → Int32) (v_length : Int32) (v_place : Int32) (v_token : Int32) (v_begin : Int32) (v_value : Int32) (v_p1_size : Int32) (v_p1_touches : Int32) : Option (Int32 × Int32 × Int32 × Int32 × Int32 × Int32) :=
  (fX5_readNumber N a_bytes v_length v_place v_token v_begin v_value (v_p1_size - (1 : Int32))).bind fun q_1 =>
  if q_1.1 = 0 then
    some ((0 : Int32), q_1.2.1, q_1.2.2.1, q_1.2.2.2.1, q_1.2.2.2.2, v_p1_touches)
  else
    (fX5_readNumber N a_bytes v_length q_1.2.1 q_1.2.2.1 q_1.2.2.2.1 q_1.2.2.2.2 (v_p1_size - (1 : Int32))).bind fun q_5 =>
    if q_5.1 = 0 then
      some ((0 : Int32), q_5.2.1, q_5.2.2.1, q_5.2.2.2.1, q_5.2.2.2.2, v_p1_touches)
    else
      if q_5.2.2.2.2 = q_1.2.2.2.2 then
        some ((0 : Int32), q_5.2.1, q_5.2.2.1, q_5.2.2.2.1, q_5.2.2.2.2, v_p1_touches)
      else
        (fX5_readSemicolon N a_bytes v_length q_5.2.1 q_5.2.2.1 q_5.2.2.2.1 q_5.2.2.2.2).bind fun q_10 =>
        some (q_10.1, q_10.2.1, q_10.2.2.1, q_10.2.2.2.1, q_10.2.2.2.2, (v_p1_touches ||| (fX7_touchBit q_1.2.2.2.2 q_5.2.2.2.2)))
def fX5_readOne (N : Nat) (a_bytes : Nat → Int32) (v_length : Int32) (v_place : Int32) (v_token : Int32) (v_begin : Int32) (v_value : Int32) (v_p1_size : Int32) (v_p1_one : Int32) : Option (Int32 × Int32 × Int32 × Int32 × Int32 × Int32) :=
  if v_p1_one = (-9 : Int32) then
    (fX5_readNumber N a_bytes v_length v_place v_token v_begin v_value (v_p1_size - (1 : Int32))).bind fun q_2 =>
    if q_2.1 = 0 then
      some ((0 : Int32), q_2.2.1, q_2.2.2.1, q_2.2.2.2.1, q_2.2.2.2.2, v_p1_one)
    else
      (fX5_readSemicolon N a_bytes v_length q_2.2.1 q_2.2.2.1 q_2.2.2.2.1 q_2.2.2.2.2).bind fun q_6 =>
      some (q_6.1, q_6.2.1, q_6.2.2.1, q_6.2.2.2.1, q_6.2.2.2.2, q_2.2.2.2.2)
  else
    some ((0 : Int32), v_place, v_token, v_begin, v_value, v_p1_one)
def fX5_readItem (N : Nat) (a_bytes : Nat → Int32) (v_length : Int32) (v_place : Int32) (v_token : Int32) (v_begin : Int32) (v_value : Int32) (a_p1_a : Nat → Int32) (a_p1_b : Nat → Int32) (v_p1_size : Int32) (v_p1_touches : Int32) (v_p1_one : Int32) : Option (Int32 × Int32 × Int32 × Int32 × Int32 × (Nat → Int32) × (Nat → Int32) × Int32 × Int32 × Int32) :=
  if v_token = (1 : Int32) then
    if v_value = (98 : Int32) then
      (fX5_readBook N a_bytes v_length v_place v_token v_begin v_value a_p1_a a_p1_b v_p1_size).bind fun q_3 =>
      some (q_3.1, q_3.2.1, q_3.2.2.1, q_3.2.2.2.1, q_3.2.2.2.2.1, q_3.2.2.2.2.2.1, q_3.2.2.2.2.2.2.1, q_3.2.2.2.2.2.2.2, v_p1_touches, v_p1_one)
    else
      if v_value = (111 : Int32) then
        (fX5_readOne N a_bytes v_length v_place v_token v_begin v_value v_p1_size v_p1_one).bind fun q_7 =>
        some (q_7.1, q_7.2.1, q_7.2.2.1, q_7.2.2.2.1, q_7.2.2.2.2.1, a_p1_a, a_p1_b, v_p1_size, v_p1_touches, q_7.2.2.2.2.2)
      else
        if v_value = (116 : Int32) then
          (fX5_readTouch N a_bytes v_length v_place v_token v_begin v_value v_p1_size v_p1_touches).bind fun q_11 =>
          some (q_11.1, q_11.2.1, q_11.2.2.1, q_11.2.2.2.1, q_11.2.2.2.2.1, a_p1_a, a_p1_b, v_p1_size, q_11.2.2.2.2.2, v_p1_one)
        else
          some ((0 : Int32), v_place, v_token, v_begin, v_value, a_p1_a, a_p1_b, v_p1_size, v_p1_touches, v_p1_one)
  else
    some ((0 : Int32), v_place, v_token, v_begin, v_value, a_p1_a, a_p1_b, v_p1_size, v_p1_touches, v_p1_one)
def fX5_readItems_L7 (N : Nat) (a_bytes : Nat → Int32) (v_length : Int32) : Nat → Int32 → Int32 → Int32 → Int32 → Int32 → (Nat → Int32) → (Nat → Int32) → Int32 → Int32 → Int32 → Option (Int32 × Int32 × Int32 × Int32 × Int32 × (Nat → Int32) × (Nat → Int32) × Int32 × Int32 × Int32)
  | 0, _, _, _, _, _, _, _, _, _, _ => none
  | n7 + 1, x2_1, w_2, w_3, w_4, w_5, w_6, w_7, w_8, w_9, w_10 =>
    if (150 : Int32) < x2_1 then
      some ((-9 : Int32), w_2, w_3, w_4, w_5, w_6, w_7, w_8, w_9, w_10)
    else
      (fX5_step N a_bytes v_length w_2 w_3 w_4 w_5).bind fun q_12 =>
      if q_12.2.1 = 0 then
        some (x2_1, q_12.1, q_12.2.1, q_12.2.2.1, q_12.2.2.2, w_6, w_7, w_8, w_9, w_10)
      else
        (fX5_readItem N a_bytes v_length q_12.1 q_12.2.1 q_12.2.2.1 q_12.2.2.2 w_6 w_7 w_8 w_9 w_10).bind fun q_15 =>
        if q_15.1 = 0 then
          some ((-9 : Int32), q_15.2.1, q_15.2.2.1, q_15.2.2.2.1, q_15.2.2.2.2.1, q_15.2.2.2.2.2.1, q_15.2.2.2.2.2.2.1, q_15.2.2.2.2.2.2.2.1, q_15.2.2.2.2.2.2.2.2.1, q_15.2.2.2.2.2.2.2.2.2)
        else
          fX5_readItems_L7 N a_bytes v_length n7 (x2_1 + 1) q_15.2.1 q_15.2.2.1 q_15.2.2.2.1 q_15.2.2.2.2.1 q_15.2.2.2.2.2.1 q_15.2.2.2.2.2.2.1 q_15.2.2.2.2.2.2.2.1 q_15.2.2.2.2.2.2.2.2.1 q_15.2.2.2.2.2.2.2.2.2
def fX5_readItems (N : Nat) (a_bytes : Nat → Int32) (v_length : Int32) (v_place : Int32) (v_token : Int32) (v_begin : Int32) (v_value : Int32) (a_p1_a : Nat → Int32) (a_p1_b : Nat → Int32) (v_p1_size : Int32) (v_p1_touches : Int32) (v_p1_one : Int32) : Option (Int32 × Int32 × Int32 × Int32 × Int32 × (Nat → Int32) × (Nat → Int32) × Int32 × Int32 × Int32) :=
  fX5_readItems_L7 N a_bytes v_length N (0 : Int32) (0 : Int32) v_token v_begin v_value a_p1_a a_p1_b v_p1_size v_p1_touches v_p1_one
def fX6_rank_J65 (v_size : Int32) (p1 : Int32) (p2 : Int32) (x3_2 : Int32) (w_3 : Nat → Int32) (w_4 : Nat → Int32) : Option ((Nat → Int32) × (Nat → Int32) × Int32) :=
  vg x3_2 6 (
  vg x3_2 6 (
  some ((upd w_3 x3_2.toNatClampNeg p1), (upd w_4 x3_2.toNatClampNeg p2), (v_size + (1 : Int32)))))
def fX6_rank_L15 (v_size : Int32) (p1 : Int32) (p2 : Int32) : Nat → Int32 → (Nat → Int32) → (Nat → Int32) → Option ((Nat → Int32) × (Nat → Int32) × Int32)
  | 0, _, _, _ => none
  | n15 + 1, x3_2, w_3, w_4 =>
    if x3_2 ≤ 0 then
      fX6_rank_J65 v_size p1 p2 x3_2 w_3 w_4 
    else
      vg (x3_2 - (1 : Int32)) 6 (
      if p2 ≤ (w_4 (x3_2 - (1 : Int32)).toNatClampNeg) then
        fX6_rank_J65 v_size p1 p2 x3_2 w_3 w_4 
      else
        vg (x3_2 - (1 : Int32)) 6 (
        vg x3_2 6 (
        vg (x3_2 - (1 : Int32)) 6 (
        vg x3_2 6 (
        fX6_rank_L15 v_size p1 p2 n15 (x3_2 + (-1)) (upd w_3 x3_2.toNatClampNeg (w_3 (x3_2 - (1 : Int32)).toNatClampNeg)) (upd w_4 x3_2.toNatClampNeg (w_4 (x3_2 - (1 : Int32)).toNatClampNeg)))))))
def fX6_rank (N : Nat) (a_ranked : Nat → Int32) (a_tens : Nat → Int32) (v_size : Int32) (p1 : Int32) (p2 : Int32) : Option ((Nat → Int32) × (Nat → Int32) × Int32) :=
  if v_size < (6 : Int32) then
    fX6_rank_L15 v_size p1 p2 N v_size a_ranked a_tens
  else
    some (a_ranked, a_tens, v_size)
def fX6_goesTo_L15 (a_ranked : Nat → Int32) (v_size : Int32) (p1 : Int32) (p2 : Int32) : Nat → Int32 → Option Int32
  | 0, _ => none
  | n15 + 1, x3_2 =>
    if v_size ≤ x3_2 then
      some p1
    else
      vg x3_2 6 (
      if (a_ranked x3_2.toNatClampNeg) = p1 then
        fX6_goesTo_L15 a_ranked v_size p1 p2 n15 (x3_2 + 1)
      else
        if (p2 &&& (fX7_touchBit p1 (a_ranked x3_2.toNatClampNeg))) = 0 then
          fX6_goesTo_L15 a_ranked v_size p1 p2 n15 (x3_2 + 1)
        else
          some (a_ranked x3_2.toNatClampNeg))
def fX6_goesTo (N : Nat) (a_ranked : Nat → Int32) (v_size : Int32) (v_trapped : Int32) (p1 : Int32) (p2 : Int32) : Option Int32 :=
  if ((v_trapped >>> (p1 &&& 31)) &&& (1 : Int32)) = 0 then
    fX6_goesTo_L15 a_ranked v_size p1 p2 N (0 : Int32)
  else
    some p1
def fX6_walk_L6 (N : Nat) (a_ranked : Nat → Int32) (v_size : Int32) (v_trapped : Int32) (p2 : Int32) (p3 : Int32) : Nat → Int32 → Int32 → Option Int32
  | 0, _, _ => none
  | n6 + 1, x4_1, x5_2 =>
    if p2 ≤ x5_2 then
      some x4_1
    else
      (fX6_goesTo N a_ranked v_size v_trapped x4_1 p3).bind fun q_4 =>
      fX6_walk_L6 N a_ranked v_size v_trapped p2 p3 n6 q_4 (x5_2 + 1)
def fX6_walk (N : Nat) (a_ranked : Nat → Int32) (v_size : Int32) (v_trapped : Int32) (p1 : Int32) (p2 : Int32) (p3 : Int32) : Option Int32 :=
  fX6_walk_L6 N a_ranked v_size v_trapped p2 p3 N p1 (0 : Int32)
def fX6_comesTo_J34 (p1 : Int32) (x4_1 : Int32) : Option Int32 :=
  if x4_1 = p1 then
    some (1 : Int32)
  else
    some (0 : Int32)
def fX6_comesTo_L6 (N : Nat) (a_ranked : Nat → Int32) (v_size : Int32) (v_trapped : Int32) (p1 : Int32) (p3 : Int32) : Nat → Int32 → Int32 → Option Int32
  | 0, _, _ => none
  | n6 + 1, x4_1, x5_2 =>
    if (6 : Int32) ≤ x5_2 then
      fX6_comesTo_J34 p1 x4_1 
    else
      if x4_1 = p1 then
        fX6_comesTo_J34 p1 x4_1 
      else
        (fX6_goesTo N a_ranked v_size v_trapped x4_1 p3).bind fun q_8 =>
        fX6_comesTo_L6 N a_ranked v_size v_trapped p1 p3 n6 q_8 (x5_2 + 1)
def fX6_comesTo (N : Nat) (a_ranked : Nat → Int32) (v_size : Int32) (v_trapped : Int32) (p1 : Int32) (p2 : Int32) (p3 : Int32) : Option Int32 :=
  fX6_comesTo_L6 N a_ranked v_size v_trapped p1 p3 N p2 (0 : Int32)
def fX6_lengthOfRound_L20 (N : Nat) (a_ranked : Nat → Int32) (v_size : Int32) (v_trapped : Int32) (p2 : Int32) (q_1 : Int32) : Nat → Int32 → Int32 → Option Int32
  | 0, _, _ => none
  | n20 + 1, x4_5, x5_6 =>
    if x4_5 = q_1 then
      some x5_6
    else
      if (6 : Int32) ≤ x5_6 then
        some x5_6
      else
        (fX6_goesTo N a_ranked v_size v_trapped x4_5 p2).bind fun q_9 =>
        fX6_lengthOfRound_L20 N a_ranked v_size v_trapped p2 q_1 n20 q_9 (x5_6 + 1)
def fX6_lengthOfRound (N : Nat) (a_ranked : Nat → Int32) (v_size : Int32) (v_trapped : Int32) (p1 : Int32) (p2 : Int32) : Option Int32 :=
  (fX6_walk N a_ranked v_size v_trapped p1 (6 : Int32) p2).bind fun q_1 =>
  (fX6_goesTo N a_ranked v_size v_trapped q_1 p2).bind fun q_3 =>
  fX6_lengthOfRound_L20 N a_ranked v_size v_trapped p2 q_1 N q_3 (1 : Int32)
def fX6_daysToRound_L15 (N : Nat) (a_ranked : Nat → Int32) (v_size : Int32) (v_trapped : Int32) (p3 : Int32) : Nat → Int32 → Int32 → Int32 → Option Int32
  | 0, _, _, _ => none
  | n15 + 1, x4_3, x5_4, x6_5 =>
    if x4_3 = x5_4 then
      some x6_5
    else
      if (6 : Int32) ≤ x6_5 then
        some x6_5
      else
        (fX6_goesTo N a_ranked v_size v_trapped x4_3 p3).bind fun q_8 =>
        (fX6_goesTo N a_ranked v_size v_trapped x5_4 p3).bind fun q_10 =>
        fX6_daysToRound_L15 N a_ranked v_size v_trapped p3 n15 q_8 q_10 (x6_5 + 1)
def fX6_daysToRound (N : Nat) (a_ranked : Nat → Int32) (v_size : Int32) (v_trapped : Int32) (p1 : Int32) (p2 : Int32) (p3 : Int32) : Option Int32 :=
  (fX6_walk N a_ranked v_size v_trapped p1 p2 p3).bind fun q_1 =>
  fX6_daysToRound_L15 N a_ranked v_size v_trapped p3 N p1 q_1 (0 : Int32)
def fX7_type (a_text_bytes : Nat → Int32) (v_text_length : Int32) (p1 : Int32) : Option (Int32 × (Nat → Int32) × Int32) :=
  if (fX7_within p1 (0 : Int32) (255 : Int32)) = 0 then
    some ((-1 : Int32), a_text_bytes, v_text_length)
  else
    (fX5_append a_text_bytes v_text_length p1).bind fun q_3 =>
    if q_3.1 = 0 then
      some ((-3 : Int32), q_3.2.1, q_3.2.2)
    else
      some (q_3.2.2, q_3.2.1, q_3.2.2)
def fX7_clear (v_text_length : Int32) : (Int32 × Int32) :=
  (v_text_length, (0 : Int32))
def fX7_books (N : Nat) (a_text_bytes : Nat → Int32) (v_text_length : Int32) (v_text_place : Int32) (v_text_token : Int32) (v_text_begin : Int32) (v_text_value : Int32) (a_draft_a : Nat → Int32) (a_draft_b : Nat → Int32) (v_draft_size : Int32) (v_draft_touches : Int32) (v_draft_one : Int32) (a_told_a : Nat → Int32) (a_told_b : Nat → Int32) (v_told_size : Int32) (v_told_touches : Int32) (v_told_one : Int32) (v_now_forgotten : Int32) (v_now_touches : Int32) (v_now_trapped : Int32) (v_now_one : Int32) (v_now_date : Int32) (v_history_known : Int32) (v_firstImage_kept : Int32) (v_secondImage_kept : Int32) (v_seen_size : Int32) : Option (Int32 × Int32 × Int32 × Int32 × Int32 × Int32 × (Nat → Int32) × (Nat → Int32) × Int32 × Int32 × Int32 × (Nat → Int32) × (Nat → Int32) × Int32 × Int32 × Int32 × Int32 × Int32 × Int32 × Int32 × Int32 × Int32 × Int32 × Int32 × Int32) :=
  (fX5_readItems N a_text_bytes v_text_length v_text_place v_text_token v_text_begin v_text_value a_draft_a a_draft_b ((fX0_empty v_draft_size v_draft_touches v_draft_one).1) ((fX0_empty v_draft_size v_draft_touches v_draft_one).2.1) ((fX0_empty v_draft_size v_draft_touches v_draft_one).2.2)).bind fun q_1 =>
  if 0 ≤ q_1.1 then
    (fX0_copyFrom N a_told_a a_told_b v_told_size v_told_touches v_told_one q_1.2.2.2.2.2.1 q_1.2.2.2.2.2.2.1 q_1.2.2.2.2.2.2.2.1 q_1.2.2.2.2.2.2.2.2.1 q_1.2.2.2.2.2.2.2.2.2).bind fun q_4 =>
    some (q_1.1, (0 : Int32), q_1.2.1, q_1.2.2.1, q_1.2.2.2.1, q_1.2.2.2.2.1, q_1.2.2.2.2.2.1, q_1.2.2.2.2.2.2.1, q_1.2.2.2.2.2.2.2.1, q_1.2.2.2.2.2.2.2.2.1, q_1.2.2.2.2.2.2.2.2.2, q_4.1, q_4.2.1, q_4.2.2.1, q_4.2.2.2.1, q_4.2.2.2.2, (fX3_begin v_now_forgotten v_now_touches v_now_trapped v_now_one v_now_date q_4.2.2.2.1 q_4.2.2.2.2).1, (fX3_begin v_now_forgotten v_now_touches v_now_trapped v_now_one v_now_date q_4.2.2.2.1 q_4.2.2.2.2).2.1, (fX3_begin v_now_forgotten v_now_touches v_now_trapped v_now_one v_now_date q_4.2.2.2.1 q_4.2.2.2.2).2.2.1, (fX3_begin v_now_forgotten v_now_touches v_now_trapped v_now_one v_now_date q_4.2.2.2.1 q_4.2.2.2.2).2.2.2.1, (fX3_begin v_now_forgotten v_now_touches v_now_trapped v_now_one v_now_date q_4.2.2.2.1 q_4.2.2.2.2).2.2.2.2, (0 : Int32), (0 : Int32), (0 : Int32), (0 : Int32))
  else
    some (((-10 : Int32) - q_1.2.2.2.1), v_text_length, q_1.2.1, q_1.2.2.1, q_1.2.2.2.1, q_1.2.2.2.2.1, q_1.2.2.2.2.2.1, q_1.2.2.2.2.2.2.1, q_1.2.2.2.2.2.2.2.1, q_1.2.2.2.2.2.2.2.2.1, q_1.2.2.2.2.2.2.2.2.2, a_told_a, a_told_b, v_told_size, v_told_touches, v_told_one, v_now_forgotten, v_now_touches, v_now_trapped, v_now_one, v_now_date, v_history_known, v_firstImage_kept, v_secondImage_kept, v_seen_size)
def fX7_isBook (v_told_size : Int32) (p1 : Int32) : Int32 :=
  (fX7_within p1 (0 : Int32) (v_told_size - (1 : Int32)))
def fX7_written (a_told_a : Nat → Int32) (a_told_b : Nat → Int32) (v_now_forgotten : Int32) (p1 : Int32) : Option Int32 :=
  (fX0_sum a_told_a a_told_b p1).bind fun q_1 =>
  some ((q_1 - ((10 : Int32) * ((fX3_forgottenIn v_now_forgotten p1) &&& (1 : Int32)))) - ((100 : Int32) * ((fX3_forgottenIn v_now_forgotten p1) >>> ((1 : Int32) &&& 31))))
def fX7_shown (a_told_a : Nat → Int32) (a_told_b : Nat → Int32) (v_now_forgotten : Int32) (v_now_one : Int32) (p1 : Int32) : Option Int32 :=
  if v_now_one = p1 then
    (fX7_written a_told_a a_told_b v_now_forgotten p1).bind fun q_4 =>
    some (q_4 + (10 : Int32))
  else
    (fX7_written a_told_a a_told_b v_now_forgotten p1).bind fun q_2 =>
    some q_2
def fX7_neighbours_L4 (v_told_size : Int32) (v_now_touches : Int32) (p1 : Int32) : Nat → Int32 → Int32 → Option Int32
  | 0, _, _ => none
  | n4 + 1, x2_1, x3_2 =>
    if v_told_size ≤ x3_2 then
      some x2_1
    else
      if x3_2 = p1 then
        fX7_neighbours_L4 v_told_size v_now_touches p1 n4 x2_1 (x3_2 + 1)
      else
        if (v_now_touches &&& (fX7_touchBit p1 x3_2)) = 0 then
          fX7_neighbours_L4 v_told_size v_now_touches p1 n4 x2_1 (x3_2 + 1)
        else
          fX7_neighbours_L4 v_told_size v_now_touches p1 n4 (x2_1 ||| ((1 : Int32) <<< (x3_2 &&& 31))) (x3_2 + 1)
def fX7_neighbours (N : Nat) (v_told_size : Int32) (v_now_touches : Int32) (p1 : Int32) : Option Int32 :=
  fX7_neighbours_L4 v_told_size v_now_touches p1 N (0 : Int32) (0 : Int32)
def fX7_book (N : Nat) (a_told_a : Nat → Int32) (a_told_b : Nat → Int32) (v_told_size : Int32) (v_now_forgotten : Int32) (v_now_touches : Int32) (v_now_trapped : Int32) (v_now_one : Int32) (p1 : Int32) (p2 : Int32) : Option Int32 :=
  if (fX7_isBook v_told_size p1) = 0 then
    some (-1 : Int32)
  else
    if p2 = (0 : Int32) then
      vg p1 6 (
      some (a_told_a p1.toNatClampNeg))
    else
      if p2 = (1 : Int32) then
        vg p1 6 (
        some (a_told_b p1.toNatClampNeg))
      else
        if p2 = (2 : Int32) then
          (fX7_written a_told_a a_told_b v_now_forgotten p1).bind fun q_8 =>
          some q_8
        else
          if p2 = (3 : Int32) then
            (fX7_shown a_told_a a_told_b v_now_forgotten v_now_one p1).bind fun q_11 =>
            some q_11
          else
            if p2 = (4 : Int32) then
              (fX0_carries a_told_a a_told_b p1).bind fun q_14 =>
              some q_14
            else
              if p2 = (5 : Int32) then
                some (fX3_forgottenIn v_now_forgotten p1)
              else
                if p2 = (6 : Int32) then
                  (fX7_neighbours N v_told_size v_now_touches p1).bind fun q_18 =>
                  some q_18
                else
                  if p2 = (7 : Int32) then
                    if (fX3_isTrap v_now_trapped p1) = 0 then
                      some (0 : Int32)
                    else
                      some (1 : Int32)
                  else
                    some (-1 : Int32)
def fX7_remember (v_now_forgotten : Int32) (v_now_touches : Int32) (v_now_trapped : Int32) (v_now_one : Int32) (v_now_date : Int32) (a_history_steps : Nat → Int64) (v_history_known : Int32) : Option ((Nat → Int64) × Int32) :=
  (fX1_append a_history_steps v_history_known (fX3_packed v_now_forgotten v_now_touches v_now_trapped v_now_one v_now_date)).bind fun q_1 =>
  some (q_1.1, q_1.2)
def fX7_forgets (a_told_a : Nat → Int32) (a_told_b : Nat → Int32) (v_told_size : Int32) (v_now_forgotten : Int32) (v_now_touches : Int32) (v_now_trapped : Int32) (v_now_one : Int32) (v_now_date : Int32) (a_history_steps : Nat → Int64) (v_history_known : Int32) (p1 : Int32) (p2 : Int32) : Option (Int32 × Int32 × (Nat → Int64) × Int32) :=
  if (fX7_isBook v_told_size p1) = 0 then
    some ((-1 : Int32), v_now_forgotten, a_history_steps, v_history_known)
  else
    if (fX7_within p2 (0 : Int32) (1 : Int32)) = 0 then
      some ((-1 : Int32), v_now_forgotten, a_history_steps, v_history_known)
    else
      (fX0_carries a_told_a a_told_b p1).bind fun q_5 =>
      if ((q_5 &&& ((fX3_forgottenIn v_now_forgotten p1) ^^^ (-1 : Int32))) &&& ((1 : Int32) <<< (p2 &&& 31))) = 0 then
        some ((-2 : Int32), v_now_forgotten, a_history_steps, v_history_known)
      else
        (fX7_remember v_now_forgotten v_now_touches v_now_trapped v_now_one v_now_date a_history_steps v_history_known).bind fun q_8 =>
        (fX7_written a_told_a a_told_b (v_now_forgotten ||| (((1 : Int32) <<< (p2 &&& 31)) <<< (((2 : Int32) * p1) &&& 31))) p1).bind fun q_10 =>
        some (q_10, (v_now_forgotten ||| (((1 : Int32) <<< (p2 &&& 31)) <<< (((2 : Int32) * p1) &&& 31))), q_8.1, q_8.2)
def fJ6_bitCount_0f7a4 (p1 : Int32) : Int32 :=
  ((((((((p1 - (((p1.toUInt32 >>> ((1 : Int32).toUInt32 &&& Int32.toUInt32 31)).toInt32) &&& (1431655765 : Int32))) &&& (858993459 : Int32)) + ((((p1 - (((p1.toUInt32 >>> ((1 : Int32).toUInt32 &&& Int32.toUInt32 31)).toInt32) &&& (1431655765 : Int32))).toUInt32 >>> ((2 : Int32).toUInt32 &&& Int32.toUInt32 31)).toInt32) &&& (858993459 : Int32))) + (((((p1 - (((p1.toUInt32 >>> ((1 : Int32).toUInt32 &&& Int32.toUInt32 31)).toInt32) &&& (1431655765 : Int32))) &&& (858993459 : Int32)) + ((((p1 - (((p1.toUInt32 >>> ((1 : Int32).toUInt32 &&& Int32.toUInt32 31)).toInt32) &&& (1431655765 : Int32))).toUInt32 >>> ((2 : Int32).toUInt32 &&& Int32.toUInt32 31)).toInt32) &&& (858993459 : Int32))).toUInt32 >>> ((4 : Int32).toUInt32 &&& Int32.toUInt32 31)).toInt32)) &&& (252645135 : Int32)) + (((((((p1 - (((p1.toUInt32 >>> ((1 : Int32).toUInt32 &&& Int32.toUInt32 31)).toInt32) &&& (1431655765 : Int32))) &&& (858993459 : Int32)) + ((((p1 - (((p1.toUInt32 >>> ((1 : Int32).toUInt32 &&& Int32.toUInt32 31)).toInt32) &&& (1431655765 : Int32))).toUInt32 >>> ((2 : Int32).toUInt32 &&& Int32.toUInt32 31)).toInt32) &&& (858993459 : Int32))) + (((((p1 - (((p1.toUInt32 >>> ((1 : Int32).toUInt32 &&& Int32.toUInt32 31)).toInt32) &&& (1431655765 : Int32))) &&& (858993459 : Int32)) + ((((p1 - (((p1.toUInt32 >>> ((1 : Int32).toUInt32 &&& Int32.toUInt32 31)).toInt32) &&& (1431655765 : Int32))).toUInt32 >>> ((2 : Int32).toUInt32 &&& Int32.toUInt32 31)).toInt32) &&& (858993459 : Int32))).toUInt32 >>> ((4 : Int32).toUInt32 &&& Int32.toUInt32 31)).toInt32)) &&& (252645135 : Int32)).toUInt32 >>> ((8 : Int32).toUInt32 &&& Int32.toUInt32 31)).toInt32)) + ((((((((p1 - (((p1.toUInt32 >>> ((1 : Int32).toUInt32 &&& Int32.toUInt32 31)).toInt32) &&& (1431655765 : Int32))) &&& (858993459 : Int32)) + ((((p1 - (((p1.toUInt32 >>> ((1 : Int32).toUInt32 &&& Int32.toUInt32 31)).toInt32) &&& (1431655765 : Int32))).toUInt32 >>> ((2 : Int32).toUInt32 &&& Int32.toUInt32 31)).toInt32) &&& (858993459 : Int32))) + (((((p1 - (((p1.toUInt32 >>> ((1 : Int32).toUInt32 &&& Int32.toUInt32 31)).toInt32) &&& (1431655765 : Int32))) &&& (858993459 : Int32)) + ((((p1 - (((p1.toUInt32 >>> ((1 : Int32).toUInt32 &&& Int32.toUInt32 31)).toInt32) &&& (1431655765 : Int32))).toUInt32 >>> ((2 : Int32).toUInt32 &&& Int32.toUInt32 31)).toInt32) &&& (858993459 : Int32))).toUInt32 >>> ((4 : Int32).toUInt32 &&& Int32.toUInt32 31)).toInt32)) &&& (252645135 : Int32)) + (((((((p1 - (((p1.toUInt32 >>> ((1 : Int32).toUInt32 &&& Int32.toUInt32 31)).toInt32) &&& (1431655765 : Int32))) &&& (858993459 : Int32)) + ((((p1 - (((p1.toUInt32 >>> ((1 : Int32).toUInt32 &&& Int32.toUInt32 31)).toInt32) &&& (1431655765 : Int32))).toUInt32 >>> ((2 : Int32).toUInt32 &&& Int32.toUInt32 31)).toInt32) &&& (858993459 : Int32))) + (((((p1 - (((p1.toUInt32 >>> ((1 : Int32).toUInt32 &&& Int32.toUInt32 31)).toInt32) &&& (1431655765 : Int32))) &&& (858993459 : Int32)) + ((((p1 - (((p1.toUInt32 >>> ((1 : Int32).toUInt32 &&& Int32.toUInt32 31)).toInt32) &&& (1431655765 : Int32))).toUInt32 >>> ((2 : Int32).toUInt32 &&& Int32.toUInt32 31)).toInt32) &&& (858993459 : Int32))).toUInt32 >>> ((4 : Int32).toUInt32 &&& Int32.toUInt32 31)).toInt32)) &&& (252645135 : Int32)).toUInt32 >>> ((8 : Int32).toUInt32 &&& Int32.toUInt32 31)).toInt32)).toUInt32 >>> ((16 : Int32).toUInt32 &&& Int32.toUInt32 31)).toInt32)) &&& (63 : Int32))
def fX7_rights (v_told_size : Int32) (v_now_forgotten : Int32) (v_now_touches : Int32) (v_now_trapped : Int32) (v_now_one : Int32) (v_now_date : Int32) (a_history_steps : Nat → Int64) (v_history_known : Int32) (p1 : Int32) : Option (Int32 × Int32 × (Nat → Int64) × Int32) :=
  if (fX7_isBook v_told_size p1) = 0 then
    some ((-1 : Int32), v_now_forgotten, a_history_steps, v_history_known)
  else
    if (fX3_forgottenIn v_now_forgotten p1) = 0 then
      some ((-2 : Int32), v_now_forgotten, a_history_steps, v_history_known)
    else
      (fX7_remember v_now_forgotten v_now_touches v_now_trapped v_now_one v_now_date a_history_steps v_history_known).bind fun q_4 =>
      some ((fJ6_bitCount_0f7a4 (fX3_forgottenIn v_now_forgotten p1)), (v_now_forgotten &&& (((3 : Int32) <<< (((2 : Int32) * p1) &&& 31)) ^^^ (-1 : Int32))), q_4.1, q_4.2)
def fX7_puts (v_told_size : Int32) (v_now_forgotten : Int32) (v_now_touches : Int32) (v_now_trapped : Int32) (v_now_one : Int32) (v_now_date : Int32) (a_history_steps : Nat → Int64) (v_history_known : Int32) (p1 : Int32) : Option (Int32 × Int32 × (Nat → Int64) × Int32) :=
  if (fX7_isBook v_told_size p1) = 0 then
    some ((-1 : Int32), v_now_one, a_history_steps, v_history_known)
  else
    if v_now_one = p1 then
      some ((-2 : Int32), v_now_one, a_history_steps, v_history_known)
    else
      (fX7_remember v_now_forgotten v_now_touches v_now_trapped v_now_one v_now_date a_history_steps v_history_known).bind fun q_4 =>
      some (v_now_one, p1, q_4.1, q_4.2)
def fX7_lays_J67 (v_now_forgotten : Int32) (v_now_touches : Int32) (v_now_trapped : Int32) (v_now_one : Int32) (v_now_date : Int32) (a_history_steps : Nat → Int64) (v_history_known : Int32) (p1 : Int32) (p2 : Int32) (y0_8 : Int32) (y1_9 : Int32) : Option (Int32 × Int32 × (Nat → Int64) × Int32) :=
  if y0_8 = y1_9 then
    some ((-2 : Int32), v_now_touches, a_history_steps, v_history_known)
  else
    (fX7_remember v_now_forgotten v_now_touches v_now_trapped v_now_one v_now_date a_history_steps v_history_known).bind fun q_11 =>
    some ((fJ6_bitCount_0f7a4 (v_now_touches ^^^ (fX7_touchBit p1 p2))), (v_now_touches ^^^ (fX7_touchBit p1 p2)), q_11.1, q_11.2)
def fX7_lays_J57 (v_now_forgotten : Int32) (v_now_touches : Int32) (v_now_trapped : Int32) (v_now_one : Int32) (v_now_date : Int32) (a_history_steps : Nat → Int64) (v_history_known : Int32) (p1 : Int32) (p2 : Int32) (p3 : Int32) (y0_8 : Int32) : Option (Int32 × Int32 × (Nat → Int64) × Int32) :=
  if p3 = (1 : Int32) then
    fX7_lays_J67 v_now_forgotten v_now_touches v_now_trapped v_now_one v_now_date a_history_steps v_history_known p1 p2 y0_8 (1 : Int32)
  else
    fX7_lays_J67 v_now_forgotten v_now_touches v_now_trapped v_now_one v_now_date a_history_steps v_history_known p1 p2 y0_8 (0 : Int32)
def fX7_lays (v_told_size : Int32) (v_now_forgotten : Int32) (v_now_touches : Int32) (v_now_trapped : Int32) (v_now_one : Int32) (v_now_date : Int32) (a_history_steps : Nat → Int64) (v_history_known : Int32) (p1 : Int32) (p2 : Int32) (p3 : Int32) : Option (Int32 × Int32 × (Nat → Int64) × Int32) :=
  if (fX7_isBook v_told_size p1) = 0 then
    some ((-1 : Int32), v_now_touches, a_history_steps, v_history_known)
  else
    if (fX7_isBook v_told_size p2) = 0 then
      some ((-1 : Int32), v_now_touches, a_history_steps, v_history_known)
    else
      if p1 = p2 then
        some ((-1 : Int32), v_now_touches, a_history_steps, v_history_known)
      else
        if (fX7_within p3 (0 : Int32) (1 : Int32)) = 0 then
          some ((-1 : Int32), v_now_touches, a_history_steps, v_history_known)
        else
          if (v_now_touches &&& (fX7_touchBit p1 p2)) = 0 then
            fX7_lays_J57 v_now_forgotten v_now_touches v_now_trapped v_now_one v_now_date a_history_steps v_history_known p1 p2 p3 (0 : Int32)
          else
            fX7_lays_J57 v_now_forgotten v_now_touches v_now_trapped v_now_one v_now_date a_history_steps v_history_known p1 p2 p3 (1 : Int32)
def fX7_traps_J37 (v_now_forgotten : Int32) (v_now_touches : Int32) (v_now_trapped : Int32) (v_now_one : Int32) (v_now_date : Int32) (a_history_steps : Nat → Int64) (v_history_known : Int32) (p1 : Int32) (y1_6 : Int32) : Option (Int32 × Int32 × (Nat → Int64) × Int32) :=
  if (fX3_isTrap v_now_trapped p1) = y1_6 then
    some ((-2 : Int32), v_now_trapped, a_history_steps, v_history_known)
  else
    (fX7_remember v_now_forgotten v_now_touches v_now_trapped v_now_one v_now_date a_history_steps v_history_known).bind fun q_8 =>
    some ((fJ6_bitCount_0f7a4 (v_now_trapped ^^^ ((1 : Int32) <<< (p1 &&& 31)))), (v_now_trapped ^^^ ((1 : Int32) <<< (p1 &&& 31))), q_8.1, q_8.2)
def fX7_traps (v_told_size : Int32) (v_now_forgotten : Int32) (v_now_touches : Int32) (v_now_trapped : Int32) (v_now_one : Int32) (v_now_date : Int32) (a_history_steps : Nat → Int64) (v_history_known : Int32) (p1 : Int32) (p2 : Int32) : Option (Int32 × Int32 × (Nat → Int64) × Int32) :=
  if (fX7_isBook v_told_size p1) = 0 then
    some ((-1 : Int32), v_now_trapped, a_history_steps, v_history_known)
  else
    if (fX7_within p2 (0 : Int32) (1 : Int32)) = 0 then
      some ((-1 : Int32), v_now_trapped, a_history_steps, v_history_known)
    else
      if p2 = (1 : Int32) then
        fX7_traps_J37 v_now_forgotten v_now_touches v_now_trapped v_now_one v_now_date a_history_steps v_history_known p1 (1 : Int32)
      else
        fX7_traps_J37 v_now_forgotten v_now_touches v_now_trapped v_now_one v_now_date a_history_steps v_history_known p1 (0 : Int32)
def fX7_isSomewhere (v_told_size : Int32) (v_now_one : Int32) : Int32 :=
  (fX7_isBook v_told_size v_now_one)
def fX7_tensOf (p1 : Int32) : Int32 :=
  if 0 ≤ p1 then
    ((p1 / (10 : Int32)) - (p1 / (10 : Int32)) / (10 : Int32) * (10 : Int32))
  else
    (0 : Int32)
def fX7_waysNow_L24 (N : Nat) (a_told_a : Nat → Int32) (a_told_b : Nat → Int32) (v_told_size : Int32) (v_now_forgotten : Int32) (v_now_trapped : Int32) : Nat → Int32 → (Nat → Int32) → (Nat → Int32) → Int32 → Option ((Nat → Int32) × (Nat → Int32) × Int32 × Int32)
  | 0, _, _, _, _ => none
  | n24 + 1, x1_1, w_2, w_3, w_4 =>
    if v_told_size ≤ x1_1 then
      some (w_2, w_3, w_4, v_now_trapped)
    else
      (fX7_written a_told_a a_told_b v_now_forgotten x1_1).bind fun q_6 =>
      (fX6_rank N w_2 w_3 w_4 x1_1 (fX7_tensOf q_6)).bind fun q_8 =>
      fX7_waysNow_L24 N a_told_a a_told_b v_told_size v_now_forgotten v_now_trapped n24 (x1_1 + 1) q_8.1 q_8.2.1 q_8.2.2
def fX7_waysNow (N : Nat) (a_told_a : Nat → Int32) (a_told_b : Nat → Int32) (v_told_size : Int32) (v_now_forgotten : Int32) (v_now_trapped : Int32) (a_ways_ranked : Nat → Int32) (a_ways_tens : Nat → Int32) (v_ways_size : Int32) (v_ways_trapped : Int32) : Option ((Nat → Int32) × (Nat → Int32) × Int32 × Int32) :=
  fX7_waysNow_L24 N a_told_a a_told_b v_told_size v_now_forgotten v_now_trapped N (0 : Int32) a_ways_ranked a_ways_tens (0 : Int32)
def fX7_day_J55 (v_now_date : Int32) (q_2 : ((Nat → Int64) × Int32)) (w_9 : Int32) (w_10 : Nat → Int32) (w_11 : Nat → Int32) (w_12 : Int32) (w_13 : Int32) : Option (Int32 × Int32 × Int32 × (Nat → Int64) × Int32 × (Nat → Int32) × (Nat → Int32) × Int32 × Int32) :=
  some (w_9, w_9, (v_now_date + (1 : Int32)), q_2.1, q_2.2, w_10, w_11, w_12, w_13)
def fX7_day (N : Nat) (a_told_a : Nat → Int32) (a_told_b : Nat → Int32) (v_told_size : Int32) (v_now_forgotten : Int32) (v_now_touches : Int32) (v_now_trapped : Int32) (v_now_one : Int32) (v_now_date : Int32) (a_history_steps : Nat → Int64) (v_history_known : Int32) (a_ways_ranked : Nat → Int32) (a_ways_tens : Nat → Int32) (v_ways_size : Int32) (v_ways_trapped : Int32) : Option (Int32 × Int32 × Int32 × (Nat → Int64) × Int32 × (Nat → Int32) × (Nat → Int32) × Int32 × Int32) :=
  if v_now_date < (999 : Int32) then
    (fX7_remember v_now_forgotten v_now_touches v_now_trapped v_now_one v_now_date a_history_steps v_history_known).bind fun q_2 =>
    if (fX7_isSomewhere v_told_size v_now_one) = 0 then
      fX7_day_J55 v_now_date q_2 v_now_one a_ways_ranked a_ways_tens v_ways_size v_ways_trapped
    else
      (fX7_waysNow N a_told_a a_told_b v_told_size v_now_forgotten v_now_trapped a_ways_ranked a_ways_tens v_ways_size v_ways_trapped).bind fun q_15 =>
      (fX6_goesTo N q_15.1 q_15.2.2.1 q_15.2.2.2 v_now_one v_now_touches).bind fun q_17 =>
      fX7_day_J55 v_now_date q_2 q_17 q_15.1 q_15.2.1 q_15.2.2.1 q_15.2.2.2
  else
    some ((-2 : Int32), v_now_one, v_now_date, a_history_steps, v_history_known, a_ways_ranked, a_ways_tens, v_ways_size, v_ways_trapped)
def fX7_undo (v_now_forgotten : Int32) (v_now_touches : Int32) (v_now_trapped : Int32) (v_now_one : Int32) (v_now_date : Int32) (a_history_steps : Nat → Int64) (v_history_known : Int32) : Option (Int32 × Int32 × Int32 × Int32 × Int32 × Int32 × Int32) :=
  if v_history_known = 0 then
    some ((-2 : Int32), v_now_forgotten, v_now_touches, v_now_trapped, v_now_one, v_now_date, v_history_known)
  else
    (fX1_takeLatest a_history_steps v_history_known).bind fun q_2 =>
    some (q_2.2, (fX3_unpack v_now_forgotten v_now_touches v_now_trapped v_now_one v_now_date q_2.1).1, (fX3_unpack v_now_forgotten v_now_touches v_now_trapped v_now_one v_now_date q_2.1).2.1, (fX3_unpack v_now_forgotten v_now_touches v_now_trapped v_now_one v_now_date q_2.1).2.2.1, (fX3_unpack v_now_forgotten v_now_touches v_now_trapped v_now_one v_now_date q_2.1).2.2.2.1, (fX3_unpack v_now_forgotten v_now_touches v_now_trapped v_now_one v_now_date q_2.1).2.2.2.2, q_2.2)
def fX7_shownTogether_L4 (a_told_a : Nat → Int32) (a_told_b : Nat → Int32) (v_told_size : Int32) (v_now_forgotten : Int32) (v_now_one : Int32) : Nat → Int32 → Int32 → Option Int32
  | 0, _, _ => none
  | n4 + 1, x1_1, x2_2 =>
    if v_told_size ≤ x2_2 then
      some x1_1
    else
      (fX7_shown a_told_a a_told_b v_now_forgotten v_now_one x2_2).bind fun q_4 =>
      fX7_shownTogether_L4 a_told_a a_told_b v_told_size v_now_forgotten v_now_one n4 (x1_1 + q_4) (x2_2 + 1)
def fX7_shownTogether (N : Nat) (a_told_a : Nat → Int32) (a_told_b : Nat → Int32) (v_told_size : Int32) (v_now_forgotten : Int32) (v_now_one : Int32) : Option Int32 :=
  fX7_shownTogether_L4 a_told_a a_told_b v_told_size v_now_forgotten v_now_one N (0 : Int32) (0 : Int32)
def fX7_summedTogether_L4 (a_told_a : Nat → Int32) (a_told_b : Nat → Int32) (v_told_size : Int32) : Nat → Int32 → Int32 → Option Int32
  | 0, _, _ => none
  | n4 + 1, x1_1, x2_2 =>
    if v_told_size ≤ x2_2 then
      some x1_1
    else
      (fX0_sum a_told_a a_told_b x2_2).bind fun q_4 =>
      fX7_summedTogether_L4 a_told_a a_told_b v_told_size n4 (x1_1 + q_4) (x2_2 + 1)
def fX7_summedTogether (N : Nat) (a_told_a : Nat → Int32) (a_told_b : Nat → Int32) (v_told_size : Int32) : Option Int32 :=
  fX7_summedTogether_L4 a_told_a a_told_b v_told_size N (0 : Int32) (0 : Int32)
def fX7_divides (p1 : Int32) (p2 : Int32) : Option Int32 :=
  if p1 = 0 then
    some (0 : Int32)
  else
    vz p1 (
    if (p2 - p2 / p1 * p1) = 0 then
      some (1 : Int32)
    else
      some (0 : Int32))
def fX7_notDividedBy_L4 (a_told_a : Nat → Int32) (a_told_b : Nat → Int32) (v_told_size : Int32) (v_now_forgotten : Int32) (v_now_one : Int32) (p1 : Int32) : Nat → Int32 → Int32 → Option Int32
  | 0, _, _ => none
  | n4 + 1, x2_1, x3_2 =>
    if v_told_size ≤ x3_2 then
      some x2_1
    else
      (fX7_shown a_told_a a_told_b v_now_forgotten v_now_one x3_2).bind fun q_4 =>
      (fX0_sum a_told_a a_told_b x3_2).bind fun q_6 =>
      (fX7_divides p1 (q_4 - q_6)).bind fun q_8 =>
      if q_8 = 0 then
        fX7_notDividedBy_L4 a_told_a a_told_b v_told_size v_now_forgotten v_now_one p1 n4 (x2_1 ||| ((1 : Int32) <<< (x3_2 &&& 31))) (x3_2 + 1)
      else
        fX7_notDividedBy_L4 a_told_a a_told_b v_told_size v_now_forgotten v_now_one p1 n4 x2_1 (x3_2 + 1)
def fX7_notDividedBy (N : Nat) (a_told_a : Nat → Int32) (a_told_b : Nat → Int32) (v_told_size : Int32) (v_now_forgotten : Int32) (v_now_one : Int32) (p1 : Int32) : Option Int32 :=
  fX7_notDividedBy_L4 a_told_a a_told_b v_told_size v_now_forgotten v_now_one p1 N (0 : Int32) (0 : Int32)
def fX7_now (N : Nat) (a_told_a : Nat → Int32) (a_told_b : Nat → Int32) (v_told_size : Int32) (v_now_forgotten : Int32) (v_now_touches : Int32) (v_now_one : Int32) (v_now_date : Int32) (p1 : Int32) : Option Int32 :=
  if p1 = (0 : Int32) then
    some v_now_date
  else
    if p1 = (1 : Int32) then
      some v_now_one
    else
      if p1 = (2 : Int32) then
        (fX7_shownTogether N a_told_a a_told_b v_told_size v_now_forgotten v_now_one).bind fun q_4 =>
        some q_4
      else
        if p1 = (3 : Int32) then
          (fX7_summedTogether N a_told_a a_told_b v_told_size).bind fun q_7 =>
          some q_7
        else
          if p1 = (4 : Int32) then
            (fX7_notDividedBy N a_told_a a_told_b v_told_size v_now_forgotten v_now_one (9 : Int32)).bind fun q_10 =>
            some q_10
          else
            if p1 = (5 : Int32) then
              (fX7_notDividedBy N a_told_a a_told_b v_told_size v_now_forgotten v_now_one (11 : Int32)).bind fun q_13 =>
              some q_13
            else
              if p1 = (6 : Int32) then
                some (fJ6_bitCount_0f7a4 v_now_touches)
              else
                some (-1 : Int32)
def fX7_inDays (N : Nat) (a_told_a : Nat → Int32) (a_told_b : Nat → Int32) (v_told_size : Int32) (v_now_forgotten : Int32) (v_now_touches : Int32) (v_now_trapped : Int32) (v_now_one : Int32) (a_ways_ranked : Nat → Int32) (a_ways_tens : Nat → Int32) (v_ways_size : Int32) (v_ways_trapped : Int32) (p1 : Int32) : Option (Int32 × (Nat → Int32) × (Nat → Int32) × Int32 × Int32) :=
  if (fX7_within p1 (0 : Int32) (99 : Int32)) = 0 then
    some ((-1 : Int32), a_ways_ranked, a_ways_tens, v_ways_size, v_ways_trapped)
  else
    if (fX7_isSomewhere v_told_size v_now_one) = 0 then
      some ((-9 : Int32), a_ways_ranked, a_ways_tens, v_ways_size, v_ways_trapped)
    else
      (fX7_waysNow N a_told_a a_told_b v_told_size v_now_forgotten v_now_trapped a_ways_ranked a_ways_tens v_ways_size v_ways_trapped).bind fun q_5 =>
      (fX6_walk N q_5.1 q_5.2.2.1 q_5.2.2.2 v_now_one p1 v_now_touches).bind fun q_7 =>
      some (q_7, q_5.1, q_5.2.1, q_5.2.2.1, q_5.2.2.2)
def fX7_round (N : Nat) (a_told_a : Nat → Int32) (a_told_b : Nat → Int32) (v_told_size : Int32) (v_now_forgotten : Int32) (v_now_touches : Int32) (v_now_trapped : Int32) (v_now_one : Int32) (a_ways_ranked : Nat → Int32) (a_ways_tens : Nat → Int32) (v_ways_size : Int32) (v_ways_trapped : Int32) (p1 : Int32) : Option (Int32 × (Nat → Int32) × (Nat → Int32) × Int32 × Int32) :=
  if (fX7_within p1 (0 : Int32) (1 : Int32)) = 0 then
    some ((-1 : Int32), a_ways_ranked, a_ways_tens, v_ways_size, v_ways_trapped)
  else
    if (fX7_isSomewhere v_told_size v_now_one) = 0 then
      some ((-9 : Int32), a_ways_ranked, a_ways_tens, v_ways_size, v_ways_trapped)
    else
      (fX7_waysNow N a_told_a a_told_b v_told_size v_now_forgotten v_now_trapped a_ways_ranked a_ways_tens v_ways_size v_ways_trapped).bind fun q_5 =>
      (fX6_lengthOfRound N q_5.1 q_5.2.2.1 q_5.2.2.2 v_now_one v_now_touches).bind fun q_7 =>
      if p1 = (1 : Int32) then
        some (q_7, q_5.1, q_5.2.1, q_5.2.2.1, q_5.2.2.2)
      else
        (fX6_daysToRound N q_5.1 q_5.2.2.1 q_5.2.2.2 v_now_one q_7 v_now_touches).bind fun q_10 =>
        some (q_10, q_5.1, q_5.2.1, q_5.2.2.1, q_5.2.2.2)
def fX7_from_L30 (N : Nat) (v_told_size : Int32) (v_now_touches : Int32) (p1 : Int32) (p2 : Int32) (q_5 : ((Nat → Int32) × (Nat → Int32) × Int32 × Int32)) : Nat → Int32 → Int32 → Option (Int32 × (Nat → Int32) × (Nat → Int32) × Int32 × Int32)
  | 0, _, _ => none
  | n30 + 1, x3_7, x4_8 =>
    if v_told_size ≤ x4_8 then
      some (x3_7, q_5.1, q_5.2.1, q_5.2.2.1, q_5.2.2.2)
    else
      (fX6_walk N q_5.1 q_5.2.2.1 q_5.2.2.2 x4_8 p2 v_now_touches).bind fun q_10 =>
      if q_10 = p1 then
        fX7_from_L30 N v_told_size v_now_touches p1 p2 q_5 n30 (x3_7 ||| ((1 : Int32) <<< (x4_8 &&& 31))) (x4_8 + 1)
      else
        fX7_from_L30 N v_told_size v_now_touches p1 p2 q_5 n30 x3_7 (x4_8 + 1)
def fX7_from (N : Nat) (a_told_a : Nat → Int32) (a_told_b : Nat → Int32) (v_told_size : Int32) (v_now_forgotten : Int32) (v_now_touches : Int32) (v_now_trapped : Int32) (a_ways_ranked : Nat → Int32) (a_ways_tens : Nat → Int32) (v_ways_size : Int32) (v_ways_trapped : Int32) (p1 : Int32) (p2 : Int32) : Option (Int32 × (Nat → Int32) × (Nat → Int32) × Int32 × Int32) :=
  if (fX7_isBook v_told_size p1) = 0 then
    some ((-1 : Int32), a_ways_ranked, a_ways_tens, v_ways_size, v_ways_trapped)
  else
    if (fX7_within p2 (0 : Int32) (20 : Int32)) = 0 then
      some ((-1 : Int32), a_ways_ranked, a_ways_tens, v_ways_size, v_ways_trapped)
    else
      (fX7_waysNow N a_told_a a_told_b v_told_size v_now_forgotten v_now_trapped a_ways_ranked a_ways_tens v_ways_size v_ways_trapped).bind fun q_5 =>
      fX7_from_L30 N v_told_size v_now_touches p1 p2 q_5 N (0 : Int32) (0 : Int32)
def fX7_lures (N : Nat) (v_now_touches : Int32) (v_now_one : Int32) (a_ways_ranked : Nat → Int32) (v_ways_size : Int32) (v_ways_trapped : Int32) (p1 : Int32) (p2 : Int32) (p3 : Int32) : Option Int32 :=
  (fX6_walk N a_ways_ranked v_ways_size v_ways_trapped v_now_one p3 (v_now_touches ||| p1)).bind fun q_1 =>
  if q_1 = p2 then
    some (1 : Int32)
  else
    some (0 : Int32)
def fX7_firstSingleLure_L2 (N : Nat) (v_now_touches : Int32) (v_now_one : Int32) (a_ways_ranked : Nat → Int32) (v_ways_size : Int32) (v_ways_trapped : Int32) (p1 : Int32) (p2 : Int32) : Nat → Int32 → Option Int32
  | 0, _ => none
  | n2 + 1, x3_1 =>
    if (15 : Int32) ≤ x3_1 then
      some (-9 : Int32)
    else
      (fX7_lures N v_now_touches v_now_one a_ways_ranked v_ways_size v_ways_trapped ((1 : Int32) <<< (x3_1 &&& 31)) p1 p2).bind fun q_3 =>
      if q_3 = 0 then
        fX7_firstSingleLure_L2 N v_now_touches v_now_one a_ways_ranked v_ways_size v_ways_trapped p1 p2 n2 (x3_1 + 1)
      else
        some ((1 : Int32) <<< (x3_1 &&& 31))
def fX7_firstSingleLure (N : Nat) (v_now_touches : Int32) (v_now_one : Int32) (a_ways_ranked : Nat → Int32) (v_ways_size : Int32) (v_ways_trapped : Int32) (p1 : Int32) (p2 : Int32) : Option Int32 :=
  fX7_firstSingleLure_L2 N v_now_touches v_now_one a_ways_ranked v_ways_size v_ways_trapped p1 p2 N (0 : Int32)
def fX7_firstDoubleLure_L13 (N : Nat) (v_now_touches : Int32) (v_now_one : Int32) (a_ways_ranked : Nat → Int32) (v_ways_size : Int32) (v_ways_trapped : Int32) (p1 : Int32) (p2 : Int32) (x3_1 : Int32) (k2 : Int32 → Option Int32) : Nat → Int32 → Option Int32
  | 0, _ => none
  | n13 + 1, x4_3 =>
    if (15 : Int32) ≤ x4_3 then
      k2 (x3_1 + 1)
    else
      (fX7_lures N v_now_touches v_now_one a_ways_ranked v_ways_size v_ways_trapped (((1 : Int32) <<< (x3_1 &&& 31)) ||| ((1 : Int32) <<< (x4_3 &&& 31))) p1 p2).bind fun q_5 =>
      if q_5 = 0 then
        fX7_firstDoubleLure_L13 N v_now_touches v_now_one a_ways_ranked v_ways_size v_ways_trapped p1 p2 x3_1 k2 n13 (x4_3 + 1)
      else
        some (((1 : Int32) <<< (x3_1 &&& 31)) ||| ((1 : Int32) <<< (x4_3 &&& 31)))
def fX7_firstDoubleLure_L2 (N : Nat) (v_now_touches : Int32) (v_now_one : Int32) (a_ways_ranked : Nat → Int32) (v_ways_size : Int32) (v_ways_trapped : Int32) (p1 : Int32) (p2 : Int32) : Nat → Int32 → Option Int32
  | 0, _ => none
  | n2 + 1, x3_1 =>
    if (15 : Int32) ≤ x3_1 then
      some (-9 : Int32)
    else
      fX7_firstDoubleLure_L13 N v_now_touches v_now_one a_ways_ranked v_ways_size v_ways_trapped p1 p2 x3_1 (fun z2_0 => fX7_firstDoubleLure_L2 N v_now_touches v_now_one a_ways_ranked v_ways_size v_ways_trapped p1 p2 n2 z2_0) N (x3_1 + (1 : Int32))
def fX7_firstDoubleLure (N : Nat) (v_now_touches : Int32) (v_now_one : Int32) (a_ways_ranked : Nat → Int32) (v_ways_size : Int32) (v_ways_trapped : Int32) (p1 : Int32) (p2 : Int32) : Option Int32 :=
  fX7_firstDoubleLure_L2 N v_now_touches v_now_one a_ways_ranked v_ways_size v_ways_trapped p1 p2 N (0 : Int32)
def fX7_fewestMoreTouches (N : Nat) (a_told_a : Nat → Int32) (a_told_b : Nat → Int32) (v_told_size : Int32) (v_now_forgotten : Int32) (v_now_touches : Int32) (v_now_trapped : Int32) (v_now_one : Int32) (a_ways_ranked : Nat → Int32) (a_ways_tens : Nat → Int32) (v_ways_size : Int32) (v_ways_trapped : Int32) (p1 : Int32) (p2 : Int32) : Option (Int32 × (Nat → Int32) × (Nat → Int32) × Int32 × Int32) :=
  (fX7_waysNow N a_told_a a_told_b v_told_size v_now_forgotten v_now_trapped a_ways_ranked a_ways_tens v_ways_size v_ways_trapped).bind fun q_1 =>
  (fX7_lures N v_now_touches v_now_one q_1.1 q_1.2.2.1 q_1.2.2.2 (0 : Int32) p1 p2).bind fun q_3 =>
  if q_3 = 0 then
    (fX7_firstSingleLure N v_now_touches v_now_one q_1.1 q_1.2.2.1 q_1.2.2.2 p1 p2).bind fun q_7 =>
    if q_7 = (-9 : Int32) then
      (fX7_firstDoubleLure N v_now_touches v_now_one q_1.1 q_1.2.2.1 q_1.2.2.2 p1 p2).bind fun q_10 =>
      some (q_10, q_1.1, q_1.2.1, q_1.2.2.1, q_1.2.2.2)
    else
      some (q_7, q_1.1, q_1.2.1, q_1.2.2.1, q_1.2.2.2)
  else
    some ((0 : Int32), q_1.1, q_1.2.1, q_1.2.2.1, q_1.2.2.2)
def fJ6_lowestOneBit_0f7a4 (p1 : Int32) : Int32 :=
  (p1 &&& (-p1))
def fX7_twoOf_L12 (p1 : Int32) (x1_1 : Int32) (k2 : Int32 → Option Int32) : Nat → Int32 → Option Int32
  | 0, _ => none
  | n12 + 1, x2_3 =>
    if (6 : Int32) ≤ x2_3 then
      k2 (x1_1 + 1)
    else
      if (fX7_touchBit x1_1 x2_3) = p1 then
        some (((10 : Int32) * x1_1) + x2_3)
      else
        fX7_twoOf_L12 p1 x1_1 k2 n12 (x2_3 + 1)
def fX7_twoOf_L2 (N : Nat) (p1 : Int32) : Nat → Int32 → Option Int32
  | 0, _ => none
  | n2 + 1, x1_1 =>
    if (6 : Int32) ≤ x1_1 then
      some (-9 : Int32)
    else
      fX7_twoOf_L12 p1 x1_1 (fun z2_0 => fX7_twoOf_L2 N p1 n2 z2_0) N (x1_1 + (1 : Int32))
def fX7_twoOf (N : Nat) (p1 : Int32) : Option Int32 :=
  fX7_twoOf_L2 N p1 N (0 : Int32)
def fX7_lure (N : Nat) (a_told_a : Nat → Int32) (a_told_b : Nat → Int32) (v_told_size : Int32) (v_now_forgotten : Int32) (v_now_touches : Int32) (v_now_trapped : Int32) (v_now_one : Int32) (a_ways_ranked : Nat → Int32) (a_ways_tens : Nat → Int32) (v_ways_size : Int32) (v_ways_trapped : Int32) (p1 : Int32) (p2 : Int32) (p3 : Int32) : Option (Int32 × (Nat → Int32) × (Nat → Int32) × Int32 × Int32) :=
  if (fX7_isBook v_told_size p1) = 0 then
    some ((-1 : Int32), a_ways_ranked, a_ways_tens, v_ways_size, v_ways_trapped)
  else
    if (fX7_within p2 (1 : Int32) (20 : Int32)) = 0 then
      some ((-1 : Int32), a_ways_ranked, a_ways_tens, v_ways_size, v_ways_trapped)
    else
      if (fX7_within p3 (0 : Int32) (2 : Int32)) = 0 then
        some ((-1 : Int32), a_ways_ranked, a_ways_tens, v_ways_size, v_ways_trapped)
      else
        if (fX7_isSomewhere v_told_size v_now_one) = 0 then
          some ((-2 : Int32), a_ways_ranked, a_ways_tens, v_ways_size, v_ways_trapped)
        else
          (fX7_fewestMoreTouches N a_told_a a_told_b v_told_size v_now_forgotten v_now_touches v_now_trapped v_now_one a_ways_ranked a_ways_tens v_ways_size v_ways_trapped p1 p2).bind fun q_9 =>
          if q_9.1 = (-9 : Int32) then
            some ((-9 : Int32), q_9.2.1, q_9.2.2.1, q_9.2.2.2.1, q_9.2.2.2.2)
          else
            if p3 = (0 : Int32) then
              some ((fJ6_bitCount_0f7a4 q_9.1), q_9.2.1, q_9.2.2.1, q_9.2.2.2.1, q_9.2.2.2.2)
            else
              if p3 = (1 : Int32) then
                (fX7_twoOf N (fJ6_lowestOneBit_0f7a4 q_9.1)).bind fun q_14 =>
                some (q_14, q_9.2.1, q_9.2.2.1, q_9.2.2.2.1, q_9.2.2.2.2)
              else
                (fX7_twoOf N (q_9.1 &&& ((fJ6_lowestOneBit_0f7a4 q_9.1) ^^^ (-1 : Int32)))).bind fun q_17 =>
                some (q_17, q_9.2.1, q_9.2.2.1, q_9.2.2.2.1, q_9.2.2.2.2)
def fJ6_numberOfTrailingZeros_0f7a4_J62 (x0_6 : Int32) (x1_7 : Int32) : Int32 :=
  if x0_6 ≤ (4 : Int32) then
    (x1_7 + ((x0_6.toUInt32 >>> ((1 : Int32).toUInt32 &&& Int32.toUInt32 31)).toInt32))
  else
    ((x1_7 + 2) + ((((x0_6.toUInt32 >>> ((2 : Int32).toUInt32 &&& Int32.toUInt32 31)).toInt32).toUInt32 >>> ((1 : Int32).toUInt32 &&& Int32.toUInt32 31)).toInt32))
def fJ6_numberOfTrailingZeros_0f7a4_J49 (x0_4 : Int32) (x1_5 : Int32) : Int32 :=
  if x0_4 ≤ (16 : Int32) then
    fJ6_numberOfTrailingZeros_0f7a4_J62 x0_4 x1_5
  else
    fJ6_numberOfTrailingZeros_0f7a4_J62 ((x0_4.toUInt32 >>> ((4 : Int32).toUInt32 &&& Int32.toUInt32 31)).toInt32) (x1_5 + 4)
def fJ6_numberOfTrailingZeros_0f7a4_J34 (x0_2 : Int32) (x1_3 : Int32) : Int32 :=
  if x0_2 ≤ (256 : Int32) then
    fJ6_numberOfTrailingZeros_0f7a4_J49 x0_2 x1_3
  else
    fJ6_numberOfTrailingZeros_0f7a4_J49 ((x0_2.toUInt32 >>> ((8 : Int32).toUInt32 &&& Int32.toUInt32 31)).toInt32) (x1_3 + 8)
def fJ6_numberOfTrailingZeros_0f7a4 (p1 : Int32) : Int32 :=
  if 0 < ((p1 ^^^ (-1 : Int32)) &&& (p1 - (1 : Int32))) then
    if ((p1 ^^^ (-1 : Int32)) &&& (p1 - (1 : Int32))) ≤ (65536 : Int32) then
      fJ6_numberOfTrailingZeros_0f7a4_J34 ((p1 ^^^ (-1 : Int32)) &&& (p1 - (1 : Int32))) (1 : Int32)
    else
      fJ6_numberOfTrailingZeros_0f7a4_J34 ((((p1 ^^^ (-1 : Int32)) &&& (p1 - (1 : Int32))).toUInt32 >>> ((16 : Int32).toUInt32 &&& Int32.toUInt32 31)).toInt32) ((1 : Int32) + 16)
  else
    (((p1 ^^^ (-1 : Int32)) &&& (p1 - (1 : Int32))) &&& (32 : Int32))
def fX7_nextOfSameSize (p1 : Int32) : Int32 :=
  ((p1 + (fJ6_lowestOneBit_0f7a4 p1)) ||| (((((p1 ^^^ (p1 + (fJ6_lowestOneBit_0f7a4 p1))).toUInt32 >>> ((2 : Int32).toUInt32 &&& Int32.toUInt32 31)).toInt32).toUInt32 >>> ((fJ6_numberOfTrailingZeros_0f7a4 p1).toUInt32 &&& Int32.toUInt32 31)).toInt32))
def fX7_leastCut_J74 (x4_1 : Int32) (x5_2 : Int32) (k14 : Int32 → Int32 → Option Int32) : Option Int32 :=
  k14 (fX7_nextOfSameSize x4_1) (x5_2 + 1)
def fX7_leastCut_L14 (N : Nat) (v_now_touches : Int32) (v_now_one : Int32) (a_ways_ranked : Nat → Int32) (v_ways_size : Int32) (v_ways_trapped : Int32) (p1 : Int32) : Nat → Int32 → Int32 → Option Int32
  | 0, _, _ => none
  | n14 + 1, x4_1, x5_2 =>
    if (32768 : Int32) ≤ x5_2 then
      some (-9 : Int32)
    else
      if (32768 : Int32) ≤ x4_1 then
        some (-9 : Int32)
      else
        if (x4_1 &&& (v_now_touches ^^^ (-1 : Int32))) = 0 then
          (fX6_comesTo N a_ways_ranked v_ways_size v_ways_trapped p1 v_now_one (v_now_touches &&& (x4_1 ^^^ (-1 : Int32)))).bind fun q_9 =>
          if q_9 = 0 then
            some x4_1
          else
            fX7_leastCut_J74 x4_1 x5_2 (fun z14_0 z14_1 => fX7_leastCut_L14 N v_now_touches v_now_one a_ways_ranked v_ways_size v_ways_trapped p1 n14 z14_0 z14_1) 
        else
          fX7_leastCut_J74 x4_1 x5_2 (fun z14_0 z14_1 => fX7_leastCut_L14 N v_now_touches v_now_one a_ways_ranked v_ways_size v_ways_trapped p1 n14 z14_0 z14_1) 
def fX7_leastCut (N : Nat) (v_now_touches : Int32) (v_now_one : Int32) (a_ways_ranked : Nat → Int32) (v_ways_size : Int32) (v_ways_trapped : Int32) (p1 : Int32) (p2 : Int32) : Option Int32 :=
  fX7_leastCut_L14 N v_now_touches v_now_one a_ways_ranked v_ways_size v_ways_trapped p1 N (((1 : Int32) <<< (p2 &&& 31)) - (1 : Int32)) (0 : Int32)
def fX7_fewestTouchesToCut_L29 (N : Nat) (v_now_touches : Int32) (v_now_one : Int32) (p1 : Int32) (q_1 : ((Nat → Int32) × (Nat → Int32) × Int32 × Int32)) : Nat → Int32 → Option (Int32 × (Nat → Int32) × (Nat → Int32) × Int32 × Int32)
  | 0, _ => none
  | n29 + 1, x2_7 =>
    if (6 : Int32) ≤ x2_7 then
      some ((-9 : Int32), q_1.1, q_1.2.1, q_1.2.2.1, q_1.2.2.2)
    else
      (fX7_leastCut N v_now_touches v_now_one q_1.1 q_1.2.2.1 q_1.2.2.2 p1 x2_7).bind fun q_9 =>
      if q_9 = (-9 : Int32) then
        fX7_fewestTouchesToCut_L29 N v_now_touches v_now_one p1 q_1 n29 (x2_7 + 1)
      else
        some (q_9, q_1.1, q_1.2.1, q_1.2.2.1, q_1.2.2.2)
def fX7_fewestTouchesToCut (N : Nat) (a_told_a : Nat → Int32) (a_told_b : Nat → Int32) (v_told_size : Int32) (v_now_forgotten : Int32) (v_now_touches : Int32) (v_now_trapped : Int32) (v_now_one : Int32) (a_ways_ranked : Nat → Int32) (a_ways_tens : Nat → Int32) (v_ways_size : Int32) (v_ways_trapped : Int32) (p1 : Int32) : Option (Int32 × (Nat → Int32) × (Nat → Int32) × Int32 × Int32) :=
  (fX7_waysNow N a_told_a a_told_b v_told_size v_now_forgotten v_now_trapped a_ways_ranked a_ways_tens v_ways_size v_ways_trapped).bind fun q_1 =>
  (fX6_comesTo N q_1.1 q_1.2.2.1 q_1.2.2.2 p1 v_now_one v_now_touches).bind fun q_3 =>
  if q_3 = 0 then
    some ((0 : Int32), q_1.1, q_1.2.1, q_1.2.2.1, q_1.2.2.2)
  else
    fX7_fewestTouchesToCut_L29 N v_now_touches v_now_one p1 q_1 N (1 : Int32)
def fX7_cut (N : Nat) (a_told_a : Nat → Int32) (a_told_b : Nat → Int32) (v_told_size : Int32) (v_now_forgotten : Int32) (v_now_touches : Int32) (v_now_trapped : Int32) (v_now_one : Int32) (a_ways_ranked : Nat → Int32) (a_ways_tens : Nat → Int32) (v_ways_size : Int32) (v_ways_trapped : Int32) (p1 : Int32) : Option (Int32 × (Nat → Int32) × (Nat → Int32) × Int32 × Int32) :=
  if (fX7_isBook v_told_size p1) = 0 then
    some ((-1 : Int32), a_ways_ranked, a_ways_tens, v_ways_size, v_ways_trapped)
  else
    if (fX7_isSomewhere v_told_size v_now_one) = 0 then
      some ((-2 : Int32), a_ways_ranked, a_ways_tens, v_ways_size, v_ways_trapped)
    else
      if v_now_one = p1 then
        some ((-9 : Int32), a_ways_ranked, a_ways_tens, v_ways_size, v_ways_trapped)
      else
        (fX7_fewestTouchesToCut N a_told_a a_told_b v_told_size v_now_forgotten v_now_touches v_now_trapped v_now_one a_ways_ranked a_ways_tens v_ways_size v_ways_trapped p1).bind fun q_6 =>
        some (q_6.1, q_6.2.1, q_6.2.2.1, q_6.2.2.2.1, q_6.2.2.2.2)
def fX7_choose_L11 (p1 : Int32) (p2 : Int32) : Nat → Int32 → Int32 → Option Int32
  | 0, _, _ => none
  | n11 + 1, x2_2, x3_3 =>
    if p2 < x3_3 then
      some x2_2
    else
      vz x3_3 (
      fX7_choose_L11 p1 p2 n11 ((x2_2 * ((p1 - x3_3) + (1 : Int32))) / x3_3) (x3_3 + 1))
def fX7_choose (N : Nat) (p1 : Int32) (p2 : Int32) : Option Int32 :=
  if p2 ≤ p1 then
    fX7_choose_L11 p1 p2 N (1 : Int32) (1 : Int32)
  else
    some (0 : Int32)
def fX7_power_L4 (p1 : Int32) (p2 : Int32) : Nat → Int32 → Int32 → Option Int32
  | 0, _, _ => none
  | n4 + 1, x2_1, x3_2 =>
    if p2 ≤ x3_2 then
      some x2_1
    else
      fX7_power_L4 p1 p2 n4 (x2_1 * p1) (x3_2 + 1)
def fX7_power (N : Nat) (p1 : Int32) (p2 : Int32) : Option Int32 :=
  fX7_power_L4 p1 p2 N (1 : Int32) (0 : Int32)
def fX7_chancesOf_L11 (N : Nat) (v_now_touches : Int32) (v_now_one : Int32) (p1 : Int32) (p2 : Int32) (p3 : Int32) (q_1 : ((Nat → Int32) × (Nat → Int32) × Int32 × Int32)) : Nat → Int32 → Int32 → Option (Int32 × (Nat → Int32) × (Nat → Int32) × Int32 × Int32)
  | 0, _, _ => none
  | n11 + 1, x4_3, x5_4 =>
    if p2 < x5_4 then
      some (x4_3, q_1.1, q_1.2.1, q_1.2.2.1, q_1.2.2.2)
    else
      (fX6_walk N q_1.1 q_1.2.2.1 q_1.2.2.2 v_now_one x5_4 v_now_touches).bind fun q_6 =>
      if q_6 = p3 then
        (fX7_choose N p2 x5_4).bind fun q_9 =>
        (fX7_power N ((10 : Int32) - p1) x5_4).bind fun q_11 =>
        (fX7_power N p1 (p2 - x5_4)).bind fun q_13 =>
        fX7_chancesOf_L11 N v_now_touches v_now_one p1 p2 p3 q_1 n11 (x4_3 + ((q_9 * q_11) * q_13)) (x5_4 + 1)
      else
        fX7_chancesOf_L11 N v_now_touches v_now_one p1 p2 p3 q_1 n11 x4_3 (x5_4 + 1)
def fX7_chancesOf (N : Nat) (a_told_a : Nat → Int32) (a_told_b : Nat → Int32) (v_told_size : Int32) (v_now_forgotten : Int32) (v_now_touches : Int32) (v_now_trapped : Int32) (v_now_one : Int32) (a_ways_ranked : Nat → Int32) (a_ways_tens : Nat → Int32) (v_ways_size : Int32) (v_ways_trapped : Int32) (p1 : Int32) (p2 : Int32) (p3 : Int32) : Option (Int32 × (Nat → Int32) × (Nat → Int32) × Int32 × Int32) :=
  (fX7_waysNow N a_told_a a_told_b v_told_size v_now_forgotten v_now_trapped a_ways_ranked a_ways_tens v_ways_size v_ways_trapped).bind fun q_1 =>
  fX7_chancesOf_L11 N v_now_touches v_now_one p1 p2 p3 q_1 N (0 : Int32) (0 : Int32)
def fX7_greatestDivisor_L7 : Nat → Int32 → Int32 → Int32 → Option Int32
  | 0, _, _, _ => none
  | n7 + 1, x2_1, x3_2, x4_3 =>
    if (64 : Int32) ≤ x4_3 then
      some x2_1
    else
      if x3_2 = 0 then
        some x2_1
      else
        vz x3_2 (
        fX7_greatestDivisor_L7 n7 x3_2 (x2_1 - x2_1 / x3_2 * x3_2) (x4_3 + 1))
def fX7_greatestDivisor (N : Nat) (p1 : Int32) (p2 : Int32) : Option Int32 :=
  fX7_greatestDivisor_L7 N p2 p1 (0 : Int32)
def fX7_odds_J94 (q_11 : (Int32 × (Nat → Int32) × (Nat → Int32) × Int32 × Int32)) (q_15 : Int32) (y0_17 : Int32) : Option (Int32 × (Nat → Int32) × (Nat → Int32) × Int32 × Int32) :=
  vz (if (1 : Int32) < q_15 then q_15 else (1 : Int32)) (
  some ((y0_17 / (if (1 : Int32) < q_15 then q_15 else (1 : Int32))), q_11.2.1, q_11.2.2.1, q_11.2.2.2.1, q_11.2.2.2.2))
def fX7_odds (N : Nat) (a_told_a : Nat → Int32) (a_told_b : Nat → Int32) (v_told_size : Int32) (v_now_forgotten : Int32) (v_now_touches : Int32) (v_now_trapped : Int32) (v_now_one : Int32) (a_ways_ranked : Nat → Int32) (a_ways_tens : Nat → Int32) (v_ways_size : Int32) (v_ways_trapped : Int32) (p1 : Int32) (p2 : Int32) (p3 : Int32) (p4 : Int32) : Option (Int32 × (Nat → Int32) × (Nat → Int32) × Int32 × Int32) :=
  if (fX7_within p1 (0 : Int32) (10 : Int32)) = 0 then
    some ((-1 : Int32), a_ways_ranked, a_ways_tens, v_ways_size, v_ways_trapped)
  else
    if (fX7_within p2 (0 : Int32) (6 : Int32)) = 0 then
      some ((-1 : Int32), a_ways_ranked, a_ways_tens, v_ways_size, v_ways_trapped)
    else
      if (fX7_isBook v_told_size p3) = 0 then
        some ((-1 : Int32), a_ways_ranked, a_ways_tens, v_ways_size, v_ways_trapped)
      else
        if (fX7_within p4 (0 : Int32) (1 : Int32)) = 0 then
          some ((-1 : Int32), a_ways_ranked, a_ways_tens, v_ways_size, v_ways_trapped)
        else
          if (fX7_isSomewhere v_told_size v_now_one) = 0 then
            some ((-2 : Int32), a_ways_ranked, a_ways_tens, v_ways_size, v_ways_trapped)
          else
            (fX7_chancesOf N a_told_a a_told_b v_told_size v_now_forgotten v_now_touches v_now_trapped v_now_one a_ways_ranked a_ways_tens v_ways_size v_ways_trapped p1 p2 p3).bind fun q_11 =>
            (fX7_power N (10 : Int32) p2).bind fun q_13 =>
            (fX7_greatestDivisor N q_11.1 q_13).bind fun q_15 =>
            if p4 = 0 then
              fX7_odds_J94 q_11 q_15 q_11.1
            else
              fX7_odds_J94 q_11 q_15 q_13
def fX7_saw_J45 (a_seen_days : Nat → Int32) (a_seen_books : Nat → Int32) (a_seen_there : Nat → Int32) (v_seen_size : Int32) (p1 : Int32) (p2 : Int32) (y3_7 : Int32) : Option (Int32 × (Nat → Int32) × (Nat → Int32) × (Nat → Int32) × Int32) :=
  (fX4_append a_seen_days a_seen_books a_seen_there v_seen_size p1 p2 y3_7).bind fun q_8 =>
  if q_8.1 = 0 then
    some ((-3 : Int32), q_8.2.1, q_8.2.2.1, q_8.2.2.2.1, q_8.2.2.2.2)
  else
    some (q_8.2.2.2.2, q_8.2.1, q_8.2.2.1, q_8.2.2.2.1, q_8.2.2.2.2)
def fX7_saw (v_told_size : Int32) (a_seen_days : Nat → Int32) (a_seen_books : Nat → Int32) (a_seen_there : Nat → Int32) (v_seen_size : Int32) (p1 : Int32) (p2 : Int32) (p3 : Int32) : Option (Int32 × (Nat → Int32) × (Nat → Int32) × (Nat → Int32) × Int32) :=
  if (fX7_within p1 (0 : Int32) (20 : Int32)) = 0 then
    some ((-1 : Int32), a_seen_days, a_seen_books, a_seen_there, v_seen_size)
  else
    if (fX7_isBook v_told_size p2) = 0 then
      some ((-1 : Int32), a_seen_days, a_seen_books, a_seen_there, v_seen_size)
    else
      if (fX7_within p3 (0 : Int32) (1 : Int32)) = 0 then
        some ((-1 : Int32), a_seen_days, a_seen_books, a_seen_there, v_seen_size)
      else
        if p3 = (1 : Int32) then
          fX7_saw_J45 a_seen_days a_seen_books a_seen_there v_seen_size p1 p2 (1 : Int32)
        else
          fX7_saw_J45 a_seen_days a_seen_books a_seen_there v_seen_size p1 p2 (0 : Int32)
def fX7_forget (v_seen_size : Int32) : (Int32 × Int32) :=
  (v_seen_size, (0 : Int32))
def fX7_fitsFrom_J56 (a_seen_there : Nat → Int32) (x2_1 : Int32) (k2 : Int32 → Option Int32) (y0_7 : Int32) : Option Int32 :=
  vg x2_1 6 (
  if y0_7 = (a_seen_there x2_1.toNatClampNeg) then
    k2 (x2_1 + 1)
  else
    some (0 : Int32))
def fX7_fitsFrom_L2 (N : Nat) (v_now_touches : Int32) (a_seen_days : Nat → Int32) (a_seen_books : Nat → Int32) (a_seen_there : Nat → Int32) (v_seen_size : Int32) (a_ways_ranked : Nat → Int32) (v_ways_size : Int32) (v_ways_trapped : Int32) (p1 : Int32) : Nat → Int32 → Option Int32
  | 0, _ => none
  | n2 + 1, x2_1 =>
    if v_seen_size ≤ x2_1 then
      some (1 : Int32)
    else
      vg x2_1 6 (
      (fX6_walk N a_ways_ranked v_ways_size v_ways_trapped p1 (a_seen_days x2_1.toNatClampNeg) v_now_touches).bind fun q_4 =>
      vg x2_1 6 (
      if q_4 = (a_seen_books x2_1.toNatClampNeg) then
        fX7_fitsFrom_J56 a_seen_there x2_1 (fun z2_0 => fX7_fitsFrom_L2 N v_now_touches a_seen_days a_seen_books a_seen_there v_seen_size a_ways_ranked v_ways_size v_ways_trapped p1 n2 z2_0) (1 : Int32)
      else
        fX7_fitsFrom_J56 a_seen_there x2_1 (fun z2_0 => fX7_fitsFrom_L2 N v_now_touches a_seen_days a_seen_books a_seen_there v_seen_size a_ways_ranked v_ways_size v_ways_trapped p1 n2 z2_0) (0 : Int32)))
def fX7_fitsFrom (N : Nat) (v_now_touches : Int32) (a_seen_days : Nat → Int32) (a_seen_books : Nat → Int32) (a_seen_there : Nat → Int32) (v_seen_size : Int32) (a_ways_ranked : Nat → Int32) (v_ways_size : Int32) (v_ways_trapped : Int32) (p1 : Int32) : Option Int32 :=
  fX7_fitsFrom_L2 N v_now_touches a_seen_days a_seen_books a_seen_there v_seen_size a_ways_ranked v_ways_size v_ways_trapped p1 N (0 : Int32)
def fX7_fits_L9 (N : Nat) (v_told_size : Int32) (v_now_touches : Int32) (a_seen_days : Nat → Int32) (a_seen_books : Nat → Int32) (a_seen_there : Nat → Int32) (v_seen_size : Int32) (q_1 : ((Nat → Int32) × (Nat → Int32) × Int32 × Int32)) : Nat → Int32 → Int32 → Option (Int32 × (Nat → Int32) × (Nat → Int32) × Int32 × Int32)
  | 0, _, _ => none
  | n9 + 1, x1_3, x2_4 =>
    if v_told_size ≤ x2_4 then
      some (x1_3, q_1.1, q_1.2.1, q_1.2.2.1, q_1.2.2.2)
    else
      (fX7_fitsFrom N v_now_touches a_seen_days a_seen_books a_seen_there v_seen_size q_1.1 q_1.2.2.1 q_1.2.2.2 x2_4).bind fun q_6 =>
      if q_6 = 0 then
        fX7_fits_L9 N v_told_size v_now_touches a_seen_days a_seen_books a_seen_there v_seen_size q_1 n9 x1_3 (x2_4 + 1)
      else
        fX7_fits_L9 N v_told_size v_now_touches a_seen_days a_seen_books a_seen_there v_seen_size q_1 n9 (x1_3 ||| ((1 : Int32) <<< (x2_4 &&& 31))) (x2_4 + 1)
def fX7_fits (N : Nat) (a_told_a : Nat → Int32) (a_told_b : Nat → Int32) (v_told_size : Int32) (v_now_forgotten : Int32) (v_now_touches : Int32) (v_now_trapped : Int32) (a_seen_days : Nat → Int32) (a_seen_books : Nat → Int32) (a_seen_there : Nat → Int32) (v_seen_size : Int32) (a_ways_ranked : Nat → Int32) (a_ways_tens : Nat → Int32) (v_ways_size : Int32) (v_ways_trapped : Int32) : Option (Int32 × (Nat → Int32) × (Nat → Int32) × Int32 × Int32) :=
  (fX7_waysNow N a_told_a a_told_b v_told_size v_now_forgotten v_now_trapped a_ways_ranked a_ways_tens v_ways_size v_ways_trapped).bind fun q_1 =>
  fX7_fits_L9 N v_told_size v_now_touches a_seen_days a_seen_books a_seen_there v_seen_size q_1 N (0 : Int32) (0 : Int32)
def fX7_number (p1 : Int32) (p2 : Int32) (p3 : Int32) : Int32 :=
  ((((100 : Int32) * p1) + ((10 : Int32) * p2)) + p3)
def fX7_hiddenMisreading (p1 : Int32) (p2 : Int32) (p3 : Int32) : Option Int32 :=
  if p2 = p1 then
    some (0 : Int32)
  else
    (fX7_divides p3 (p2 - p1)).bind fun q_2 =>
    if q_2 = 0 then
      some (0 : Int32)
    else
      some (1 : Int32)
def fX7_hiddenMisreadings (p1 : Int32) (p2 : Int32) : Option Int32 :=
  (fX7_hiddenMisreading p1 (fX7_number (p1 / (100 : Int32)) (p1 - p1 / (10 : Int32) * (10 : Int32)) ((p1 / (10 : Int32)) - (p1 / (10 : Int32)) / (10 : Int32) * (10 : Int32))) p2).bind fun q_1 =>
  (fX7_hiddenMisreading p1 (fX7_number ((p1 / (10 : Int32)) - (p1 / (10 : Int32)) / (10 : Int32) * (10 : Int32)) (p1 / (100 : Int32)) (p1 - p1 / (10 : Int32) * (10 : Int32))) p2).bind fun q_3 =>
  (fX7_hiddenMisreading p1 (fX7_number (p1 - p1 / (10 : Int32) * (10 : Int32)) ((p1 / (10 : Int32)) - (p1 / (10 : Int32)) / (10 : Int32) * (10 : Int32)) (p1 / (100 : Int32))) p2).bind fun q_5 =>
  some ((q_1 + q_3) + q_5)
def fX7_hidden_J22 (a_told_a : Nat → Int32) (p1 : Int32) (p2 : Int32) : Option Int32 :=
  vg p1 6 (
  (fX7_hiddenMisreadings (a_told_a p1.toNatClampNeg) p2).bind fun q_4 =>
  some q_4)
def fX7_hidden (a_told_a : Nat → Int32) (v_told_size : Int32) (p1 : Int32) (p2 : Int32) : Option Int32 :=
  if (fX7_isBook v_told_size p1) = 0 then
    some (-1 : Int32)
  else
    if p2 = (9 : Int32) then
      fX7_hidden_J22 a_told_a p1 p2 
    else
      if p2 = (11 : Int32) then
        fX7_hidden_J22 a_told_a p1 p2 
      else
        some (-1 : Int32)
def fX7_waysToLack (N : Nat) (p1 : Int32) (p2 : Int32) (p3 : Int32) : Option Int32 :=
  if 0 ≤ p1 then
    (fX7_choose N p2 ((p1 / (10 : Int32)) - (p1 / (10 : Int32)) / (10 : Int32) * (10 : Int32))).bind fun q_2 =>
    (fX7_choose N p3 (p1 / (100 : Int32))).bind fun q_4 =>
    some (q_2 * q_4)
  else
    some (0 : Int32)
def fX7_setsWithout_L10 (N : Nat) (a_told_a : Nat → Int32) (a_told_b : Nat → Int32) (v_told_size : Int32) (v_now_forgotten : Int32) (v_now_one : Int32) (p1 : Int32) : Nat → Int32 → Int32 → Int32 → Int32 → Option Int32
  | 0, _, _, _, _ => none
  | n10 + 1, x2_1, x3_2, x4_3, x5_4 =>
    if v_told_size ≤ x5_4 then
      (fX7_summedTogether N a_told_a a_told_b v_told_size).bind fun q_6 =>
      (fX7_shownTogether N a_told_a a_told_b v_told_size v_now_forgotten v_now_one).bind fun q_8 =>
      (fX7_waysToLack N (q_6 - q_8) x2_1 x3_2).bind fun q_10 =>
      (fX7_waysToLack N ((q_6 - q_8) + (10 : Int32)) x2_1 x3_2).bind fun q_12 =>
      some (q_10 + (x4_3 * q_12))
    else
      if x5_4 = p1 then
        fX7_setsWithout_L10 N a_told_a a_told_b v_told_size v_now_forgotten v_now_one p1 n10 x2_1 x3_2 x4_3 (x5_4 + 1)
      else
        (fX0_carries a_told_a a_told_b x5_4).bind fun q_15 =>
        (fX0_carries a_told_a a_told_b x5_4).bind fun q_17 =>
        fX7_setsWithout_L10 N a_told_a a_told_b v_told_size v_now_forgotten v_now_one p1 n10 (x2_1 + (q_15 &&& (1 : Int32))) (x3_2 + (q_17 >>> ((1 : Int32) &&& 31))) (x4_3 + 1) (x5_4 + 1)
def fX7_setsWithout (N : Nat) (a_told_a : Nat → Int32) (a_told_b : Nat → Int32) (v_told_size : Int32) (v_now_forgotten : Int32) (v_now_one : Int32) (p1 : Int32) : Option Int32 :=
  fX7_setsWithout_L10 N a_told_a a_told_b v_told_size v_now_forgotten v_now_one p1 N (0 : Int32) (0 : Int32) (0 : Int32) (0 : Int32)
def fX7_booksInEachSet_L4 (N : Nat) (a_told_a : Nat → Int32) (a_told_b : Nat → Int32) (v_told_size : Int32) (v_now_forgotten : Int32) (v_now_one : Int32) : Nat → Int32 → Int32 → Option Int32
  | 0, _, _ => none
  | n4 + 1, x1_1, x2_2 =>
    if v_told_size ≤ x2_2 then
      some x1_1
    else
      (fX7_setsWithout N a_told_a a_told_b v_told_size v_now_forgotten v_now_one x2_2).bind fun q_4 =>
      if q_4 = 0 then
        fX7_booksInEachSet_L4 N a_told_a a_told_b v_told_size v_now_forgotten v_now_one n4 (x1_1 ||| ((1 : Int32) <<< (x2_2 &&& 31))) (x2_2 + 1)
      else
        fX7_booksInEachSet_L4 N a_told_a a_told_b v_told_size v_now_forgotten v_now_one n4 x1_1 (x2_2 + 1)
def fX7_booksInEachSet (N : Nat) (a_told_a : Nat → Int32) (a_told_b : Nat → Int32) (v_told_size : Int32) (v_now_forgotten : Int32) (v_now_one : Int32) : Option Int32 :=
  fX7_booksInEachSet_L4 N a_told_a a_told_b v_told_size v_now_forgotten v_now_one N (0 : Int32) (0 : Int32)
def fX7_booksInSomeSet_L11 (N : Nat) (a_told_a : Nat → Int32) (a_told_b : Nat → Int32) (v_told_size : Int32) (v_now_forgotten : Int32) (v_now_one : Int32) (q_1 : Int32) : Nat → Int32 → Int32 → Option Int32
  | 0, _, _ => none
  | n11 + 1, x2_3, x3_4 =>
    if v_told_size ≤ x3_4 then
      some x2_3
    else
      (fX7_setsWithout N a_told_a a_told_b v_told_size v_now_forgotten v_now_one x3_4).bind fun q_6 =>
      if q_1 ≤ q_6 then
        fX7_booksInSomeSet_L11 N a_told_a a_told_b v_told_size v_now_forgotten v_now_one q_1 n11 x2_3 (x3_4 + 1)
      else
        fX7_booksInSomeSet_L11 N a_told_a a_told_b v_told_size v_now_forgotten v_now_one q_1 n11 (x2_3 ||| ((1 : Int32) <<< (x3_4 &&& 31))) (x3_4 + 1)
def fX7_booksInSomeSet (N : Nat) (a_told_a : Nat → Int32) (a_told_b : Nat → Int32) (v_told_size : Int32) (v_now_forgotten : Int32) (v_now_one : Int32) : Option Int32 :=
  (fX7_setsWithout N a_told_a a_told_b v_told_size v_now_forgotten v_now_one (-9 : Int32)).bind fun q_1 =>
  fX7_booksInSomeSet_L11 N a_told_a a_told_b v_told_size v_now_forgotten v_now_one q_1 N (0 : Int32) (0 : Int32)
def fX7_why (N : Nat) (a_told_a : Nat → Int32) (a_told_b : Nat → Int32) (v_told_size : Int32) (v_now_forgotten : Int32) (v_now_one : Int32) (p1 : Int32) : Option Int32 :=
  if p1 = (0 : Int32) then
    (fX7_setsWithout N a_told_a a_told_b v_told_size v_now_forgotten v_now_one (-9 : Int32)).bind fun q_2 =>
    some q_2
  else
    if p1 = (1 : Int32) then
      (fX7_booksInEachSet N a_told_a a_told_b v_told_size v_now_forgotten v_now_one).bind fun q_5 =>
      some q_5
    else
      if p1 = (2 : Int32) then
        (fX7_booksInSomeSet N a_told_a a_told_b v_told_size v_now_forgotten v_now_one).bind fun q_8 =>
        some q_8
      else
        some (-1 : Int32)
def fJ6_numberOfLeadingZeros_0f7a4_J61 (x0_6 : Int32) (x1_7 : Int32) : Int32 :=
  if x0_6 < (4 : Int32) then
    (x1_7 - ((x0_6.toUInt32 >>> ((1 : Int32).toUInt32 &&& Int32.toUInt32 31)).toInt32))
  else
    ((x1_7 + (-2)) - ((((x0_6.toUInt32 >>> ((2 : Int32).toUInt32 &&& Int32.toUInt32 31)).toInt32).toUInt32 >>> ((1 : Int32).toUInt32 &&& Int32.toUInt32 31)).toInt32))
def fJ6_numberOfLeadingZeros_0f7a4_J48 (x0_4 : Int32) (x1_5 : Int32) : Int32 :=
  if x0_4 < (16 : Int32) then
    fJ6_numberOfLeadingZeros_0f7a4_J61 x0_4 x1_5
  else
    fJ6_numberOfLeadingZeros_0f7a4_J61 ((x0_4.toUInt32 >>> ((4 : Int32).toUInt32 &&& Int32.toUInt32 31)).toInt32) (x1_5 + (-4))
def fJ6_numberOfLeadingZeros_0f7a4_J33 (x0_2 : Int32) (x1_3 : Int32) : Int32 :=
  if x0_2 < (256 : Int32) then
    fJ6_numberOfLeadingZeros_0f7a4_J48 x0_2 x1_3
  else
    fJ6_numberOfLeadingZeros_0f7a4_J48 ((x0_2.toUInt32 >>> ((8 : Int32).toUInt32 &&& Int32.toUInt32 31)).toInt32) (x1_3 + (-8))
def fJ6_numberOfLeadingZeros_0f7a4 (p1 : Int32) : Int32 :=
  if 0 < p1 then
    if p1 < (65536 : Int32) then
      fJ6_numberOfLeadingZeros_0f7a4_J33 p1 (31 : Int32)
    else
      fJ6_numberOfLeadingZeros_0f7a4_J33 ((p1.toUInt32 >>> ((16 : Int32).toUInt32 &&& Int32.toUInt32 31)).toInt32) ((31 : Int32) + (-16))
  else
    if p1 = 0 then
      (32 : Int32)
    else
      (0 : Int32)
def fX7_proofs (p1 : Int32) : Int32 :=
  if (fX7_within p1 (0 : Int32) (99 : Int32)) = 0 then
    (-1 : Int32)
  else
    if (2 : Int32) ≤ p1 then
      ((32 : Int32) - (fJ6_numberOfLeadingZeros_0f7a4 (p1 - (1 : Int32))))
    else
      (0 : Int32)
def fX7_markOfBook (a_told_a : Nat → Int32) (a_told_b : Nat → Int32) (v_now_forgotten : Int32) (v_now_one : Int32) (v_traced : Int64) (p1 : Int32) : Option (Int32 × Int64) :=
  (fX7_shown a_told_a a_told_b v_now_forgotten v_now_one p1).bind fun q_1 =>
  some (q_1, (v_traced + (1 : Int64)))
def fX7_markOfRates (a_told_a : Nat → Int32) (a_told_b : Nat → Int32) (v_now_forgotten : Int32) (v_now_one : Int32) (v_traced : Int64) (p1 : Int32) : Option (Int32 × Int64) :=
  vlet (v_traced + lc_10) fun t_1 =>
  (fX7_markOfBook a_told_a a_told_b v_now_forgotten v_now_one t_1 p1).bind fun q_2 =>
  (fX7_shown a_told_a a_told_b v_now_forgotten v_now_one p1).bind fun q_4 =>
  some ((q_2.1 + (fX7_tensOf q_4)), q_2.2)
def fX7_markOfTrain (a_told_a : Nat → Int32) (a_told_b : Nat → Int32) (v_now_forgotten : Int32) (v_now_one : Int32) (v_traced : Int64) (p1 : Int32) : Option (Int32 × Int64) :=
  vlet (v_traced + lc_100) fun t_1 =>
  (fX7_markOfBook a_told_a a_told_b v_now_forgotten v_now_one t_1 p1).bind fun q_2 =>
  (fX0_sum a_told_a a_told_b p1).bind fun q_4 =>
  some ((q_2.1 - q_4), q_2.2)
def fX7_markOfLedger (a_told_a : Nat → Int32) (a_told_b : Nat → Int32) (v_now_forgotten : Int32) (v_now_one : Int32) (v_traced : Int64) (p1 : Int32) : Option (Int32 × Int64) :=
  vlet (v_traced + lc_1000) fun t_1 =>
  (fX7_markOfRates a_told_a a_told_b v_now_forgotten v_now_one t_1 p1).bind fun q_2 =>
  some ((q_2.1 * (2 : Int32)), q_2.2)
def fX7_markOfShop (N : Nat) (a_told_a : Nat → Int32) (a_told_b : Nat → Int32) (v_told_size : Int32) (v_now_forgotten : Int32) (v_now_touches : Int32) (v_now_one : Int32) (v_traced : Int64) (p1 : Int32) : Option (Int32 × Int64) :=
  vlet (v_traced + lc_10000) fun t_1 =>
  (fX7_markOfTrain a_told_a a_told_b v_now_forgotten v_now_one t_1 p1).bind fun q_2 =>
  (fX7_neighbours N v_told_size v_now_touches p1).bind fun q_4 =>
  some ((q_2.1 + (fJ6_bitCount_0f7a4 q_4)), q_2.2)
def fX7_markOfChoir (a_told_a : Nat → Int32) (a_told_b : Nat → Int32) (v_now_forgotten : Int32) (v_now_one : Int32) (v_now_date : Int32) (v_traced : Int64) (p1 : Int32) : Option (Int32 × Int64) :=
  vlet (v_traced + lc_100000) fun t_1 =>
  (fX7_markOfBook a_told_a a_told_b v_now_forgotten v_now_one t_1 p1).bind fun q_2 =>
  some ((q_2.1 + v_now_date), q_2.2)
def fX7_mark (N : Nat) (a_told_a : Nat → Int32) (a_told_b : Nat → Int32) (v_told_size : Int32) (v_now_forgotten : Int32) (v_now_touches : Int32) (v_now_one : Int32) (v_now_date : Int32) (v_traced : Int64) (p1 : Int32) (p2 : Int32) : Option (Int32 × Int64) :=
  if (fX7_isBook v_told_size p2) = 0 then
    some ((-1000000 : Int32), v_traced)
  else
    if p1 = (0 : Int32) then
      (fX7_markOfBook a_told_a a_told_b v_now_forgotten v_now_one v_traced p2).bind fun q_4 =>
      some (q_4.1, q_4.2)
    else
      if p1 = (1 : Int32) then
        (fX7_markOfRates a_told_a a_told_b v_now_forgotten v_now_one v_traced p2).bind fun q_7 =>
        some (q_7.1, q_7.2)
      else
        if p1 = (2 : Int32) then
          (fX7_markOfTrain a_told_a a_told_b v_now_forgotten v_now_one v_traced p2).bind fun q_10 =>
          some (q_10.1, q_10.2)
        else
          if p1 = (3 : Int32) then
            (fX7_markOfLedger a_told_a a_told_b v_now_forgotten v_now_one v_traced p2).bind fun q_13 =>
            some (q_13.1, q_13.2)
          else
            if p1 = (4 : Int32) then
              (fX7_markOfShop N a_told_a a_told_b v_told_size v_now_forgotten v_now_touches v_now_one v_traced p2).bind fun q_16 =>
              some (q_16.1, q_16.2)
            else
              if p1 = (5 : Int32) then
                (fX7_markOfChoir a_told_a a_told_b v_now_forgotten v_now_one v_now_date v_traced p2).bind fun q_19 =>
                some (q_19.1, q_19.2)
              else
                some ((-1000000 : Int32), v_traced)
def fX7_count (v_text_length : Int32) (v_told_size : Int32) (v_now_trapped : Int32) (v_history_known : Int32) (v_seen_size : Int32) (p1 : Int32) : Int32 :=
  if p1 = (0 : Int32) then
    v_told_size
  else
    if p1 = (1 : Int32) then
      (fJ6_bitCount_0f7a4 v_now_trapped)
    else
      if p1 = (2 : Int32) then
        v_seen_size
      else
        if p1 = (3 : Int32) then
          v_history_known
        else
          if p1 = (4 : Int32) then
            v_text_length
          else
            (-1 : Int32)
def fX7_trace (v_traced : Int64) : Int64 :=
  v_traced
def fX8_in (p1 : Int32) (p2 : Int32) (p3 : Int32) : Int32 :=
  if p1 < p2 then
    (0 : Int32)
  else
    if p3 < p1 then
      (0 : Int32)
    else
      (1 : Int32)
def fX8_type (a_text : Nat → Int32) (v_typed : Int32) (p1 : Int32) : Option (Int32 × (Nat → Int32) × Int32) :=
  if (fX8_in p1 (0 : Int32) (255 : Int32)) = 0 then
    some ((-1 : Int32), a_text, v_typed)
  else
    if v_typed = (150 : Int32) then
      some ((-3 : Int32), a_text, v_typed)
    else
      vg v_typed 150 (
      some ((v_typed + (1 : Int32)), (upd a_text v_typed.toNatClampNeg (vp_nar .byte p1.toInt8.toInt32)), (v_typed + (1 : Int32))))
def fX8_clear (v_typed : Int32) : (Int32 × Int32) :=
  (v_typed, (0 : Int32))
def fX8_here (a_text : Nat → Int32) (v_typed : Int32) (v_at : Int32) : Option Int32 :=
  if v_typed ≤ v_at then
    some (-1 : Int32)
  else
    vg v_at 150 (
    some ((a_text v_at.toNatClampNeg) &&& (255 : Int32)))
def fX8_step_J173 (w_13 : Int32) (k126 : Int32 → Int32 → Option (Int32 × Int32 × Int32 × Int32)) (y1_24 : Int32) : Option (Int32 × Int32 × Int32 × Int32) :=
  k126 (w_13 + (1 : Int32)) y1_24
def fX8_step_L126 (a_text : Nat → Int32) (v_typed : Int32) (w_1 : Int32) (q_5 : Int32) : Nat → Int32 → Int32 → Option (Int32 × Int32 × Int32 × Int32)
  | 0, _, _ => none
  | n126 + 1, w_13, w_14 =>
    (fX8_here a_text v_typed w_13).bind fun q_15 =>
    if (fX8_in q_15 (48 : Int32) (57 : Int32)) = 0 then
      if (999 : Int32) < w_14 then
        some (w_13, w_1, (4 : Int32), w_14)
      else
        if q_5 = (48 : Int32) then
          if (w_13 - w_1) ≤ (1 : Int32) then
            some (w_13, w_1, (1 : Int32), w_14)
          else
            some (w_13, w_1, (4 : Int32), w_14)
        else
          some (w_13, w_1, (1 : Int32), w_14)
    else
      if w_14 ≤ (999 : Int32) then
        (fX8_here a_text v_typed w_13).bind fun q_26 =>
        fX8_step_J173 w_13 (fun z126_0 z126_1 => fX8_step_L126 a_text v_typed w_1 q_5 n126 z126_0 z126_1) ((((10 : Int32) * w_14) + q_26) - (48 : Int32))
      else
        fX8_step_J173 w_13 (fun z126_0 z126_1 => fX8_step_L126 a_text v_typed w_1 q_5 n126 z126_0 z126_1) w_14
def fX8_step_L63 (a_text : Nat → Int32) (v_typed : Int32) (w_1 : Int32) (q_5 : Int32) : Nat → Int32 → Option (Int32 × Int32 × Int32 × Int32)
  | 0, _ => none
  | n63 + 1, w_28 =>
    (fX8_here a_text v_typed w_28).bind fun q_29 =>
    if (fX8_in q_29 (97 : Int32) (122 : Int32)) = 0 then
      if (w_28 - w_1) = (1 : Int32) then
        some (w_28, w_1, q_5, (0 : Int32))
      else
        some (w_28, w_1, (4 : Int32), (0 : Int32))
    else
      fX8_step_L63 a_text v_typed w_1 q_5 n63 (w_28 + (1 : Int32))
def fX8_step_L0 (N : Nat) (a_text : Nat → Int32) (v_typed : Int32) : Nat → Int32 → Option (Int32 × Int32 × Int32 × Int32)
  | 0, _ => none
  | n0 + 1, w_1 =>
    (fX8_here a_text v_typed w_1).bind fun q_2 =>
    if q_2 = (32 : Int32) then
      fX8_step_L0 N a_text v_typed n0 (w_1 + (1 : Int32))
    else
      (fX8_here a_text v_typed w_1).bind fun q_5 =>
      if 0 ≤ q_5 then
        if (fX8_in q_5 (97 : Int32) (122 : Int32)) = 0 then
          if (fX8_in q_5 (48 : Int32) (57 : Int32)) = 0 then
            if q_5 = (59 : Int32) then
              some ((w_1 + (1 : Int32)), w_1, (2 : Int32), (0 : Int32))
            else
              some ((w_1 + (1 : Int32)), w_1, (4 : Int32), (0 : Int32))
          else
            fX8_step_L126 a_text v_typed w_1 q_5 N w_1 (0 : Int32)
        else
          fX8_step_L63 a_text v_typed w_1 q_5 N w_1
      else
        some (w_1, w_1, (3 : Int32), (0 : Int32))
def fX8_step (N : Nat) (a_text : Nat → Int32) (v_typed : Int32) (v_at : Int32) (v_start : Int32) (v_sort : Int32) (v_value : Int32) : Option (Int32 × Int32 × Int32 × Int32) :=
  fX8_step_L0 N a_text v_typed N v_at
def fX8_due (N : Nat) (a_text : Nat → Int32) (v_typed : Int32) (v_at : Int32) (v_start : Int32) (v_sort : Int32) (v_value : Int32) (v_fault : Int32) (p1 : Int32) : Option (Int32 × Int32 × Int32 × Int32 × Int32 × Int32) :=
  if v_fault = (-9 : Int32) then
    if p1 = 0 then
      some (v_value, v_at, v_start, v_sort, v_value, v_start)
    else
      (fX8_step N a_text v_typed v_at v_start v_sort v_value).bind fun q_3 =>
      some (v_value, q_3.1, q_3.2.1, q_3.2.2.1, q_3.2.2.2, v_fault)
  else
    some (v_value, v_at, v_start, v_sort, v_value, v_fault)
def fX8_number_J26 (N : Nat) (a_text : Nat → Int32) (v_typed : Int32) (v_at : Int32) (v_start : Int32) (v_sort : Int32) (v_value : Int32) (v_fault : Int32) (y1_2 : Int32) : Option (Int32 × Int32 × Int32 × Int32 × Int32 × Int32) :=
  (fX8_due N a_text v_typed v_at v_start v_sort v_value v_fault y1_2).bind fun q_3 =>
  some (q_3.1, q_3.2.1, q_3.2.2.1, q_3.2.2.2.1, q_3.2.2.2.2.1, q_3.2.2.2.2.2)
def fX8_number_J25 (N : Nat) (a_text : Nat → Int32) (v_typed : Int32) (v_at : Int32) (v_start : Int32) (v_sort : Int32) (v_value : Int32) (v_fault : Int32) : Option (Int32 × Int32 × Int32 × Int32 × Int32 × Int32) :=
  fX8_number_J26 N a_text v_typed v_at v_start v_sort v_value v_fault (0 : Int32)
def fX8_number (N : Nat) (a_text : Nat → Int32) (v_typed : Int32) (v_at : Int32) (v_start : Int32) (v_sort : Int32) (v_value : Int32) (v_fault : Int32) (p1 : Int32) (p2 : Int32) : Option (Int32 × Int32 × Int32 × Int32 × Int32 × Int32) :=
  if v_sort = (1 : Int32) then
    if (fX8_in v_value p1 p2) = 0 then
      fX8_number_J25 N a_text v_typed v_at v_start v_sort v_value v_fault 
    else
      fX8_number_J26 N a_text v_typed v_at v_start v_sort v_value v_fault (1 : Int32)
  else
    fX8_number_J25 N a_text v_typed v_at v_start v_sort v_value v_fault 
def fX8_mayBe (a_books : Nat → Int32) (v_oneTold : Int32) (p1 : Int32) : Int32 :=
  if p1 = (98 : Int32) then
    if (6 : Int32) ≤ (a_books (1 : Int32).toNatClampNeg) then
      (0 : Int32)
    else
      (1 : Int32)
  else
    if p1 = (116 : Int32) then
      (1 : Int32)
    else
      if p1 = (111 : Int32) then
        if v_oneTold = 0 then
          (1 : Int32)
        else
          (0 : Int32)
      else
        (0 : Int32)
def fX8_readRow_J118 (N : Nat) (a_text : Nat → Int32) (a_books : Nat → Int32) (a_numberA : Nat → Int32) (a_numberB : Nat → Int32) (a_draftTouches : Nat → Int32) (v_typed : Int32) (v_draftOne : Int32) (v_oneTold : Int32) (q_5 : (Int32 × Int32 × Int32 × Int32 × Int32 × Int32)) (y1_7 : Int32) : Option ((Nat → Int32) × (Nat → Int32) × (Nat → Int32) × (Nat → Int32) × Int32 × Int32 × Int32 × Int32 × Int32 × Int32 × Int32) :=
  (fX8_due N a_text v_typed q_5.2.1 q_5.2.2.1 q_5.2.2.2.1 q_5.2.2.2.2.1 q_5.2.2.2.2.2 y1_7).bind fun q_8 =>
  if q_8.2.2.2.2.2 = (-9 : Int32) then
    vg q_5.1 6 (
    vg q_5.1 6 (
    vg q_8.1 6 (
    vg q_8.1 6 (
    some (a_books, a_numberA, a_numberB, (upd (upd a_draftTouches q_5.1.toNatClampNeg ((a_draftTouches q_5.1.toNatClampNeg) ||| ((1 : Int32) <<< (q_8.1 &&& 31)))) q_8.1.toNatClampNeg (((upd a_draftTouches q_5.1.toNatClampNeg ((a_draftTouches q_5.1.toNatClampNeg) ||| ((1 : Int32) <<< (q_8.1 &&& 31)))) q_8.1.toNatClampNeg) ||| ((1 : Int32) <<< (q_5.1 &&& 31)))), v_draftOne, v_oneTold, q_8.2.1, q_8.2.2.1, q_8.2.2.2.1, q_8.2.2.2.2.1, q_8.2.2.2.2.2)))))
  else
    some (a_books, a_numberA, a_numberB, a_draftTouches, v_draftOne, v_oneTold, q_8.2.1, q_8.2.2.1, q_8.2.2.2.1, q_8.2.2.2.2.1, q_8.2.2.2.2.2)
def fX8_readRow_J117 (N : Nat) (a_text : Nat → Int32) (a_books : Nat → Int32) (a_numberA : Nat → Int32) (a_numberB : Nat → Int32) (a_draftTouches : Nat → Int32) (v_typed : Int32) (v_draftOne : Int32) (v_oneTold : Int32) (q_5 : (Int32 × Int32 × Int32 × Int32 × Int32 × Int32)) : Option ((Nat → Int32) × (Nat → Int32) × (Nat → Int32) × (Nat → Int32) × Int32 × Int32 × Int32 × Int32 × Int32 × Int32 × Int32) :=
  fX8_readRow_J118 N a_text a_books a_numberA a_numberB a_draftTouches v_typed v_draftOne v_oneTold q_5 (0 : Int32)
def fX8_readRow (N : Nat) (a_text : Nat → Int32) (a_books : Nat → Int32) (a_numberA : Nat → Int32) (a_numberB : Nat → Int32) (a_draftTouches : Nat → Int32) (v_typed : Int32) (v_draftOne : Int32) (v_oneTold : Int32) (v_at : Int32) (v_start : Int32) (v_sort : Int32) (v_value : Int32) (v_fault : Int32) (p1 : Int32) : Option ((Nat → Int32) × (Nat → Int32) × (Nat → Int32) × (Nat → Int32) × Int32 × Int32 × Int32 × Int32 × Int32 × Int32 × Int32) :=
  if p1 = (98 : Int32) then
    (fX8_number N a_text v_typed v_at v_start v_sort v_value v_fault (0 : Int32) (999 : Int32)).bind fun q_24 =>
    vg ((6 : Int32) + (a_books (1 : Int32).toNatClampNeg)) 12 (
    (fX8_number N a_text v_typed q_24.2.1 q_24.2.2.1 q_24.2.2.2.1 q_24.2.2.2.2.1 q_24.2.2.2.2.2 (0 : Int32) (999 : Int32)).bind fun q_27 =>
    vg ((6 : Int32) + (a_books (1 : Int32).toNatClampNeg)) 12 (
    some ((upd a_books (1 : Int32).toNatClampNeg ((a_books (1 : Int32).toNatClampNeg) + (1 : Int32))), (upd a_numberA ((6 : Int32) + (a_books (1 : Int32).toNatClampNeg)).toNatClampNeg q_24.1), (upd a_numberB ((6 : Int32) + (a_books (1 : Int32).toNatClampNeg)).toNatClampNeg q_27.1), a_draftTouches, v_draftOne, v_oneTold, q_27.2.1, q_27.2.2.1, q_27.2.2.2.1, q_27.2.2.2.2.1, q_27.2.2.2.2.2)))
  else
    if p1 = (116 : Int32) then
      (fX8_number N a_text v_typed v_at v_start v_sort v_value v_fault (0 : Int32) ((a_books (1 : Int32).toNatClampNeg) - (1 : Int32))).bind fun q_5 =>
      if q_5.2.2.2.1 = (1 : Int32) then
        if (a_books (1 : Int32).toNatClampNeg) ≤ q_5.2.2.2.2.1 then
          fX8_readRow_J117 N a_text a_books a_numberA a_numberB a_draftTouches v_typed v_draftOne v_oneTold q_5 
        else
          if q_5.2.2.2.2.1 = q_5.1 then
            fX8_readRow_J117 N a_text a_books a_numberA a_numberB a_draftTouches v_typed v_draftOne v_oneTold q_5 
          else
            fX8_readRow_J118 N a_text a_books a_numberA a_numberB a_draftTouches v_typed v_draftOne v_oneTold q_5 (1 : Int32)
      else
        fX8_readRow_J117 N a_text a_books a_numberA a_numberB a_draftTouches v_typed v_draftOne v_oneTold q_5 
    else
      (fX8_number N a_text v_typed v_at v_start v_sort v_value v_fault (0 : Int32) ((a_books (1 : Int32).toNatClampNeg) - (1 : Int32))).bind fun q_3 =>
      some (a_books, a_numberA, a_numberB, a_draftTouches, q_3.1, (1 : Int32), q_3.2.1, q_3.2.2.1, q_3.2.2.2.1, q_3.2.2.2.2.1, q_3.2.2.2.2.2)
def fX8_plain_L20 (a_books : Nat → Int32) : Nat → Int32 → (Nat → Int32) → Option ((Nat → Int32) × (Nat → Int32) × Int32 × Int32)
  | 0, _, _ => none
  | n20 + 1, x1_1, w_2 =>
    if (6 : Int32) ≤ x1_1 then
      some ((upd a_books (1 : Int32).toNatClampNeg (0 : Int32)), w_2, (-9 : Int32), (0 : Int32))
    else
      vg x1_1 6 (
      fX8_plain_L20 a_books n20 (x1_1 + 1) (upd w_2 x1_1.toNatClampNeg (0 : Int32)))
def fX8_plain (N : Nat) (a_books : Nat → Int32) (a_draftTouches : Nat → Int32) (v_draftOne : Int32) (v_oneTold : Int32) : Option ((Nat → Int32) × (Nat → Int32) × Int32 × Int32) :=
  fX8_plain_L20 a_books N (0 : Int32) a_draftTouches
def fX8_takeDraft_L35 (a_books : Nat → Int32) (a_draftTouches : Nat → Int32) (a_isKept : Nat → Int32) (v_draftOne : Int32) : Nat → Int32 → (Nat → Int32) → (Nat → Int32) → (Nat → Int32) → Option ((Nat → Int32) × (Nat → Int32) × (Nat → Int32) × (Nat → Int32) × (Nat → Int32) × Int32)
  | 0, _, _, _, _ => none
  | n35 + 1, x1_4, w_5, w_6, w_7 =>
    if (6 : Int32) ≤ x1_4 then
      some ((upd a_books (0 : Int32).toNatClampNeg (a_books (1 : Int32).toNatClampNeg)), w_5, w_6, (upd (upd w_7 (13 : Int32).toNatClampNeg v_draftOne) (15 : Int32).toNatClampNeg (0 : Int32)), (upd (upd a_isKept (0 : Int32).toNatClampNeg (vp_nar .boolean (0 : Int32))) (1 : Int32).toNatClampNeg (vp_nar .boolean (0 : Int32))), (0 : Int32))
    else
      vg ((6 : Int32) + x1_4) 12 (
      vg x1_4 12 (
      vg ((6 : Int32) + x1_4) 12 (
      vg x1_4 12 (
      vg x1_4 6 (
      vg ((6 : Int32) + x1_4) 498 (
      fX8_takeDraft_L35 a_books a_draftTouches a_isKept v_draftOne n35 (x1_4 + 1) (upd w_5 x1_4.toNatClampNeg (w_5 ((6 : Int32) + x1_4).toNatClampNeg)) (upd w_6 x1_4.toNatClampNeg (w_6 ((6 : Int32) + x1_4).toNatClampNeg)) (upd w_7 ((6 : Int32) + x1_4).toNatClampNeg (a_draftTouches x1_4.toNatClampNeg))))))))
def fX8_takeDraft_L14 (N : Nat) (a_books : Nat → Int32) (a_numberA : Nat → Int32) (a_numberB : Nat → Int32) (a_draftTouches : Nat → Int32) (a_isKept : Nat → Int32) (v_draftOne : Int32) : Nat → Int32 → (Nat → Int32) → Option ((Nat → Int32) × (Nat → Int32) × (Nat → Int32) × (Nat → Int32) × (Nat → Int32) × Int32)
  | 0, _, _ => none
  | n14 + 1, x1_1, w_2 =>
    if (15 : Int32) ≤ x1_1 then
      fX8_takeDraft_L35 a_books a_draftTouches a_isKept v_draftOne N (0 : Int32) a_numberA a_numberB w_2
    else
      vg x1_1 498 (
      fX8_takeDraft_L14 N a_books a_numberA a_numberB a_draftTouches a_isKept v_draftOne n14 (x1_1 + 1) (upd w_2 x1_1.toNatClampNeg (0 : Int32)))
def fX8_takeDraft (N : Nat) (a_books : Nat → Int32) (a_numberA : Nat → Int32) (a_numberB : Nat → Int32) (a_draftTouches : Nat → Int32) (a_now : Nat → Int32) (a_isKept : Nat → Int32) (v_draftOne : Int32) (v_seen : Int32) : Option ((Nat → Int32) × (Nat → Int32) × (Nat → Int32) × (Nat → Int32) × (Nat → Int32) × Int32) :=
  fX8_takeDraft_L14 N a_books a_numberA a_numberB a_draftTouches a_isKept v_draftOne N (0 : Int32) a_now
def fX8_books_J91 (N : Nat) (a_now : Nat → Int32) (a_isKept : Nat → Int32) (v_typed : Int32) (v_seen : Int32) (x1_5 : Int32) (w_6 : Nat → Int32) (w_7 : Nat → Int32) (w_8 : Nat → Int32) (w_9 : Nat → Int32) (w_10 : Int32) (w_11 : Int32) (w_12 : Int32) (w_13 : Int32) (w_14 : Int32) (w_15 : Int32) (w_16 : Int32) : Option (Int32 × (Nat → Int32) × (Nat → Int32) × (Nat → Int32) × (Nat → Int32) × (Nat → Int32) × (Nat → Int32) × Int32 × Int32 × Int32 × Int32 × Int32 × Int32 × Int32 × Int32 × Int32) :=
  if w_16 = (-9 : Int32) then
    (fX8_takeDraft N w_6 w_7 w_8 w_9 a_now a_isKept w_10 v_seen).bind fun q_27 =>
    some (x1_5, q_27.1, q_27.2.1, q_27.2.2.1, w_9, q_27.2.2.2.1, q_27.2.2.2.2.1, (0 : Int32), w_10, w_11, w_12, w_13, w_14, w_15, w_16, q_27.2.2.2.2.2)
  else
    some (((-10 : Int32) - w_16), w_6, w_7, w_8, w_9, a_now, a_isKept, v_typed, w_10, w_11, w_12, w_13, w_14, w_15, w_16, v_seen)
def fX8_books_J81 (N : Nat) (a_text : Nat → Int32) (v_typed : Int32) (x1_5 : Int32) (q_35 : ((Nat → Int32) × (Nat → Int32) × (Nat → Int32) × (Nat → Int32) × Int32 × Int32 × Int32 × Int32 × Int32 × Int32 × Int32)) (k21 : Int32 → (Nat → Int32) → (Nat → Int32) → (Nat → Int32) → (Nat → Int32) → Int32 → Int32 → Int32 → Int32 → Int32 → Int32 → Int32 → Option (Int32 × (Nat → Int32) × (Nat → Int32) × (Nat → Int32) × (Nat → Int32) × (Nat → Int32) × (Nat → Int32) × Int32 × Int32 × Int32 × Int32 × Int32 × Int32 × Int32 × Int32 × Int32)) (y1_37 : Int32) : Option (Int32 × (Nat → Int32) × (Nat → Int32) × (Nat → Int32) × (Nat → Int32) × (Nat → Int32) × (Nat → Int32) × Int32 × Int32 × Int32 × Int32 × Int32 × Int32 × Int32 × Int32 × Int32) :=
  (fX8_due N a_text v_typed q_35.2.2.2.2.2.2.1 q_35.2.2.2.2.2.2.2.1 q_35.2.2.2.2.2.2.2.2.1 q_35.2.2.2.2.2.2.2.2.2.1 q_35.2.2.2.2.2.2.2.2.2.2 y1_37).bind fun q_38 =>
  k21 (x1_5 + 1) q_35.1 q_35.2.1 q_35.2.2.1 q_35.2.2.2.1 q_35.2.2.2.2.1 q_35.2.2.2.2.2.1 q_38.2.1 q_38.2.2.1 q_38.2.2.2.1 q_38.2.2.2.2.1 q_38.2.2.2.2.2
def fX8_books_L21 (N : Nat) (a_text : Nat → Int32) (a_now : Nat → Int32) (a_isKept : Nat → Int32) (v_typed : Int32) (v_seen : Int32) : Nat → Int32 → (Nat → Int32) → (Nat → Int32) → (Nat → Int32) → (Nat → Int32) → Int32 → Int32 → Int32 → Int32 → Int32 → Int32 → Int32 → Option (Int32 × (Nat → Int32) × (Nat → Int32) × (Nat → Int32) × (Nat → Int32) × (Nat → Int32) × (Nat → Int32) × Int32 × Int32 × Int32 × Int32 × Int32 × Int32 × Int32 × Int32 × Int32)
  | 0, _, _, _, _, _, _, _, _, _, _, _, _ => none
  | n21 + 1, x1_5, w_6, w_7, w_8, w_9, w_10, w_11, w_12, w_13, w_14, w_15, w_16 =>
    if w_16 = (-9 : Int32) then
      if w_14 = (3 : Int32) then
        fX8_books_J91 N a_now a_isKept v_typed v_seen x1_5 w_6 w_7 w_8 w_9 w_10 w_11 w_12 w_13 w_14 w_15 w_16 
      else
        (fX8_due N a_text v_typed w_12 w_13 w_14 w_15 w_16 (fX8_mayBe w_6 w_11 w_14)).bind fun q_32 =>
        if q_32.2.2.2.2.2 = (-9 : Int32) then
          (fX8_readRow N a_text w_6 w_7 w_8 w_9 v_typed w_10 w_11 q_32.2.1 q_32.2.2.1 q_32.2.2.2.1 q_32.2.2.2.2.1 q_32.2.2.2.2.2 w_14).bind fun q_35 =>
          if q_35.2.2.2.2.2.2.2.2.1 = (2 : Int32) then
            fX8_books_J81 N a_text v_typed x1_5 q_35 (fun z21_0 z21_1 z21_2 z21_3 z21_4 z21_5 z21_6 z21_7 z21_8 z21_9 z21_10 z21_11 => fX8_books_L21 N a_text a_now a_isKept v_typed v_seen n21 z21_0 z21_1 z21_2 z21_3 z21_4 z21_5 z21_6 z21_7 z21_8 z21_9 z21_10 z21_11) (1 : Int32)
          else
            fX8_books_J81 N a_text v_typed x1_5 q_35 (fun z21_0 z21_1 z21_2 z21_3 z21_4 z21_5 z21_6 z21_7 z21_8 z21_9 z21_10 z21_11 => fX8_books_L21 N a_text a_now a_isKept v_typed v_seen n21 z21_0 z21_1 z21_2 z21_3 z21_4 z21_5 z21_6 z21_7 z21_8 z21_9 z21_10 z21_11) (0 : Int32)
        else
          fX8_books_L21 N a_text a_now a_isKept v_typed v_seen n21 x1_5 w_6 w_7 w_8 w_9 w_10 w_11 q_32.2.1 q_32.2.2.1 q_32.2.2.2.1 q_32.2.2.2.2.1 q_32.2.2.2.2.2
    else
      fX8_books_J91 N a_now a_isKept v_typed v_seen x1_5 w_6 w_7 w_8 w_9 w_10 w_11 w_12 w_13 w_14 w_15 w_16 
def fX8_books (N : Nat) (a_text : Nat → Int32) (a_books : Nat → Int32) (a_numberA : Nat → Int32) (a_numberB : Nat → Int32) (a_draftTouches : Nat → Int32) (a_now : Nat → Int32) (a_isKept : Nat → Int32) (v_typed : Int32) (v_draftOne : Int32) (v_oneTold : Int32) (v_at : Int32) (v_start : Int32) (v_sort : Int32) (v_value : Int32) (v_fault : Int32) (v_seen : Int32) : Option (Int32 × (Nat → Int32) × (Nat → Int32) × (Nat → Int32) × (Nat → Int32) × (Nat → Int32) × (Nat → Int32) × Int32 × Int32 × Int32 × Int32 × Int32 × Int32 × Int32 × Int32 × Int32) :=
  (fX8_plain N a_books a_draftTouches v_draftOne v_oneTold).bind fun q_1 =>
  (fX8_step N a_text v_typed (0 : Int32) v_start v_sort v_value).bind fun q_3 =>
  fX8_books_L21 N a_text a_now a_isKept v_typed v_seen N (0 : Int32) q_1.1 a_numberA a_numberB q_1.2.1 q_1.2.2.1 q_1.2.2.2 q_3.1 q_3.2.1 q_3.2.2.1 q_3.2.2.2 (-9 : Int32)
def fX8_isBook (a_books : Nat → Int32) (p1 : Int32) : Int32 :=
  (fX8_in p1 (0 : Int32) ((a_books (0 : Int32).toNatClampNeg) - (1 : Int32)))
def fX8_figure_L4 (p2 : Int32) : Nat → Int32 → Int32 → Option Int32
  | 0, _, _ => none
  | n4 + 1, x2_1, x3_2 =>
    if p2 ≤ x3_2 then
      some (x2_1 - x2_1 / (10 : Int32) * (10 : Int32))
    else
      fX8_figure_L4 p2 n4 (x2_1 / (10 : Int32)) (x3_2 + 1)
def fX8_figure (N : Nat) (p1 : Int32) (p2 : Int32) : Option Int32 :=
  fX8_figure_L4 p2 N p1 (0 : Int32)
def fX8_carries_J31 (N : Nat) (a_numberA : Nat → Int32) (a_numberB : Nat → Int32) (p1 : Int32) (y0_7 : Int32) : Option Int32 :=
  vg p1 12 (
  (fX8_figure N (a_numberA p1.toNatClampNeg) (1 : Int32)).bind fun q_9 =>
  vg p1 12 (
  (fX8_figure N (a_numberB p1.toNatClampNeg) (1 : Int32)).bind fun q_12 =>
  if ((q_9 + q_12) + y0_7) < (10 : Int32) then
    some (y0_7 ||| (0 : Int32))
  else
    some (y0_7 ||| (2 : Int32))))
def fX8_carries (N : Nat) (a_numberA : Nat → Int32) (a_numberB : Nat → Int32) (p1 : Int32) : Option Int32 :=
  vg p1 12 (
  (fX8_figure N (a_numberA p1.toNatClampNeg) (0 : Int32)).bind fun q_2 =>
  vg p1 12 (
  (fX8_figure N (a_numberB p1.toNatClampNeg) (0 : Int32)).bind fun q_5 =>
  if (q_2 + q_5) < (10 : Int32) then
    fX8_carries_J31 N a_numberA a_numberB p1 (0 : Int32)
  else
    fX8_carries_J31 N a_numberA a_numberB p1 (1 : Int32)))
def fX8_sum (a_numberA : Nat → Int32) (a_numberB : Nat → Int32) (p1 : Int32) : Option Int32 :=
  vg p1 12 (
  vg p1 12 (
  some ((a_numberA p1.toNatClampNeg) + (a_numberB p1.toNatClampNeg))))
def fX8_written (a_numberA : Nat → Int32) (a_numberB : Nat → Int32) (a_now : Nat → Int32) (p1 : Int32) : Option Int32 :=
  vg ((0 : Int32) + p1) 498 (
  (fX8_sum a_numberA a_numberB p1).bind fun q_2 =>
  some ((q_2 - ((10 : Int32) * ((a_now ((0 : Int32) + p1).toNatClampNeg) &&& (1 : Int32)))) - ((100 : Int32) * ((a_now ((0 : Int32) + p1).toNatClampNeg) >>> ((1 : Int32) &&& 31)))))
def fX8_shown (a_numberA : Nat → Int32) (a_numberB : Nat → Int32) (a_now : Nat → Int32) (p1 : Int32) : Option Int32 :=
  (fX8_written a_numberA a_numberB a_now p1).bind fun q_1 =>
  if (a_now (13 : Int32).toNatClampNeg) = p1 then
    some (q_1 + (10 : Int32))
  else
    some (q_1 + (0 : Int32))
def fX8_tens (N : Nat) (p1 : Int32) : Option Int32 :=
  if 0 ≤ p1 then
    (fX8_figure N p1 (1 : Int32)).bind fun q_2 =>
    some q_2
  else
    some (0 : Int32)
def fX8_manyOf_L4 (p1 : Int32) : Nat → Int32 → Int32 → Option Int32
  | 0, _, _ => none
  | n4 + 1, x1_1, x2_2 =>
    if (16 : Int32) ≤ x2_2 then
      some x1_1
    else
      fX8_manyOf_L4 p1 n4 (x1_1 + ((p1 >>> (x2_2 &&& 31)) &&& (1 : Int32))) (x2_2 + 1)
def fX8_manyOf (N : Nat) (p1 : Int32) : Option Int32 :=
  fX8_manyOf_L4 p1 N (0 : Int32) (0 : Int32)
def fX8_touches_L4 (N : Nat) (a_now : Nat → Int32) : Nat → Int32 → Int32 → Option Int32
  | 0, _, _ => none
  | n4 + 1, x1_1, x2_2 =>
    if (6 : Int32) ≤ x2_2 then
      some (x1_1 / (2 : Int32))
    else
      vg ((6 : Int32) + x2_2) 498 (
      (fX8_manyOf N (a_now ((6 : Int32) + x2_2).toNatClampNeg)).bind fun q_5 =>
      fX8_touches_L4 N a_now n4 (x1_1 + q_5) (x2_2 + 1))
def fX8_touches (N : Nat) (a_now : Nat → Int32) : Option Int32 :=
  fX8_touches_L4 N a_now N (0 : Int32) (0 : Int32)
def fX8_book (N : Nat) (a_books : Nat → Int32) (a_numberA : Nat → Int32) (a_numberB : Nat → Int32) (a_now : Nat → Int32) (p1 : Int32) (p2 : Int32) : Option Int32 :=
  if (fX8_isBook a_books p1) = 0 then
    some (-1 : Int32)
  else
    if p2 = (0 : Int32) then
      vg p1 12 (
      some (a_numberA p1.toNatClampNeg))
    else
      if p2 = (1 : Int32) then
        vg p1 12 (
        some (a_numberB p1.toNatClampNeg))
      else
        if p2 = (2 : Int32) then
          (fX8_written a_numberA a_numberB a_now p1).bind fun q_8 =>
          some q_8
        else
          if p2 = (3 : Int32) then
            (fX8_shown a_numberA a_numberB a_now p1).bind fun q_11 =>
            some q_11
          else
            if p2 = (4 : Int32) then
              (fX8_carries N a_numberA a_numberB p1).bind fun q_14 =>
              some q_14
            else
              if p2 = (5 : Int32) then
                vg ((0 : Int32) + p1) 498 (
                some (a_now ((0 : Int32) + p1).toNatClampNeg))
              else
                if p2 = (6 : Int32) then
                  vg ((6 : Int32) + p1) 498 (
                  some (a_now ((6 : Int32) + p1).toNatClampNeg))
                else
                  if p2 = (7 : Int32) then
                    some (((a_now (12 : Int32).toNatClampNeg) >>> (p1 &&& 31)) &&& (1 : Int32))
                  else
                    some (-1 : Int32)
def fX8_know_L58 : Nat → Int32 → (Nat → Int32) → Option (Nat → Int32)
  | 0, _, _ => none
  | n58 + 1, x1_6, w_7 =>
    if (15 : Int32) ≤ x1_6 then
      some (upd w_7 (15 : Int32).toNatClampNeg ((w_7 (15 : Int32).toNatClampNeg) + (1 : Int32)))
    else
      vg x1_6 498 (
      vg (((16 : Int32) + ((15 : Int32) * (w_7 (15 : Int32).toNatClampNeg))) + x1_6) 498 (
      fX8_know_L58 n58 (x1_6 + 1) (upd w_7 (((16 : Int32) + ((15 : Int32) * (w_7 (15 : Int32).toNatClampNeg))) + x1_6).toNatClampNeg (w_7 x1_6.toNatClampNeg))))
def fX8_know_J56 (N : Nat) (w_5 : Nat → Int32) : Option (Nat → Int32) :=
  fX8_know_L58 N (0 : Int32) w_5
def fX8_know_L14 (N : Nat) : Nat → Int32 → (Nat → Int32) → Option (Nat → Int32)
  | 0, _, _ => none
  | n14 + 1, x1_12, w_13 =>
    if (135 : Int32) ≤ x1_12 then
      fX8_know_J56 N (upd w_13 (15 : Int32).toNatClampNeg ((w_13 (15 : Int32).toNatClampNeg) - (1 : Int32)))
    else
      vg ((31 : Int32) + x1_12) 498 (
      vg ((16 : Int32) + x1_12) 498 (
      fX8_know_L14 N n14 (x1_12 + 1) (upd w_13 ((16 : Int32) + x1_12).toNatClampNeg (w_13 ((31 : Int32) + x1_12).toNatClampNeg))))
def fX8_know (N : Nat) (a_now : Nat → Int32) : Option (Nat → Int32) :=
  if (a_now (15 : Int32).toNatClampNeg) = (10 : Int32) then
    fX8_know_L14 N N (0 : Int32) a_now
  else
    fX8_know_J56 N a_now
def fX8_forgets (N : Nat) (a_books : Nat → Int32) (a_numberA : Nat → Int32) (a_numberB : Nat → Int32) (a_now : Nat → Int32) (p1 : Int32) (p2 : Int32) : Option (Int32 × (Nat → Int32)) :=
  if (fX8_isBook a_books p1) = 0 then
    some ((-1 : Int32), a_now)
  else
    if (fX8_in p2 (0 : Int32) (1 : Int32)) = 0 then
      some ((-1 : Int32), a_now)
    else
      (fX8_carries N a_numberA a_numberB p1).bind fun q_5 =>
      if ((q_5 >>> (p2 &&& 31)) &&& (1 : Int32)) = 0 then
        some ((-2 : Int32), a_now)
      else
        vg ((0 : Int32) + p1) 498 (
        if (((a_now ((0 : Int32) + p1).toNatClampNeg) >>> (p2 &&& 31)) &&& (1 : Int32)) = (1 : Int32) then
          some ((-2 : Int32), a_now)
        else
          (fX8_know N a_now).bind fun q_10 =>
          vg ((0 : Int32) + p1) 498 (
          vg ((0 : Int32) + p1) 498 (
          (fX8_written a_numberA a_numberB (upd q_10 ((0 : Int32) + p1).toNatClampNeg ((q_10 ((0 : Int32) + p1).toNatClampNeg) ||| ((1 : Int32) <<< (p2 &&& 31)))) p1).bind fun q_14 =>
          some (q_14, (upd q_10 ((0 : Int32) + p1).toNatClampNeg ((q_10 ((0 : Int32) + p1).toNatClampNeg) ||| ((1 : Int32) <<< (p2 &&& 31))))))))
def fX8_rights (N : Nat) (a_books : Nat → Int32) (a_now : Nat → Int32) (p1 : Int32) : Option (Int32 × (Nat → Int32)) :=
  if (fX8_isBook a_books p1) = 0 then
    some ((-1 : Int32), a_now)
  else
    vg ((0 : Int32) + p1) 498 (
    (fX8_manyOf N (a_now ((0 : Int32) + p1).toNatClampNeg)).bind fun q_4 =>
    if q_4 = 0 then
      some ((-2 : Int32), a_now)
    else
      (fX8_know N a_now).bind fun q_7 =>
      vg ((0 : Int32) + p1) 498 (
      some (q_4, (upd q_7 ((0 : Int32) + p1).toNatClampNeg (0 : Int32)))))
def fX8_puts (N : Nat) (a_books : Nat → Int32) (a_now : Nat → Int32) (p1 : Int32) : Option (Int32 × (Nat → Int32)) :=
  if (fX8_isBook a_books p1) = 0 then
    some ((-1 : Int32), a_now)
  else
    if (a_now (13 : Int32).toNatClampNeg) = p1 then
      some ((-2 : Int32), a_now)
    else
      (fX8_know N a_now).bind fun q_4 =>
      some ((q_4 (13 : Int32).toNatClampNeg), (upd q_4 (13 : Int32).toNatClampNeg p1))
def fX8_lays (N : Nat) (a_books : Nat → Int32) (a_now : Nat → Int32) (p1 : Int32) (p2 : Int32) (p3 : Int32) : Option (Int32 × (Nat → Int32)) :=
  if (fX8_isBook a_books p1) = 0 then
    some ((-1 : Int32), a_now)
  else
    if (fX8_isBook a_books p2) = 0 then
      some ((-1 : Int32), a_now)
    else
      if p1 = p2 then
        some ((-1 : Int32), a_now)
      else
        if (fX8_in p3 (0 : Int32) (1 : Int32)) = 0 then
          some ((-1 : Int32), a_now)
        else
          vg ((6 : Int32) + p1) 498 (
          if (((a_now ((6 : Int32) + p1).toNatClampNeg) >>> (p2 &&& 31)) &&& (1 : Int32)) = p3 then
            some ((-2 : Int32), a_now)
          else
            (fX8_know N a_now).bind fun q_10 =>
            vg ((6 : Int32) + p1) 498 (
            vg ((6 : Int32) + p1) 498 (
            vg ((6 : Int32) + p2) 498 (
            vg ((6 : Int32) + p2) 498 (
            (fX8_touches N (upd (upd q_10 ((6 : Int32) + p1).toNatClampNeg ((q_10 ((6 : Int32) + p1).toNatClampNeg) ^^^ ((1 : Int32) <<< (p2 &&& 31)))) ((6 : Int32) + p2).toNatClampNeg (((upd q_10 ((6 : Int32) + p1).toNatClampNeg ((q_10 ((6 : Int32) + p1).toNatClampNeg) ^^^ ((1 : Int32) <<< (p2 &&& 31)))) ((6 : Int32) + p2).toNatClampNeg) ^^^ ((1 : Int32) <<< (p1 &&& 31))))).bind fun q_16 =>
            some (q_16, (upd (upd q_10 ((6 : Int32) + p1).toNatClampNeg ((q_10 ((6 : Int32) + p1).toNatClampNeg) ^^^ ((1 : Int32) <<< (p2 &&& 31)))) ((6 : Int32) + p2).toNatClampNeg (((upd q_10 ((6 : Int32) + p1).toNatClampNeg ((q_10 ((6 : Int32) + p1).toNatClampNeg) ^^^ ((1 : Int32) <<< (p2 &&& 31)))) ((6 : Int32) + p2).toNatClampNeg) ^^^ ((1 : Int32) <<< (p1 &&& 31))))))))))
def fX8_traps (N : Nat) (a_books : Nat → Int32) (a_now : Nat → Int32) (p1 : Int32) (p2 : Int32) : Option (Int32 × (Nat → Int32)) :=
  if (fX8_isBook a_books p1) = 0 then
    some ((-1 : Int32), a_now)
  else
    if (fX8_in p2 (0 : Int32) (1 : Int32)) = 0 then
      some ((-1 : Int32), a_now)
    else
      if (((a_now (12 : Int32).toNatClampNeg) >>> (p1 &&& 31)) &&& (1 : Int32)) = p2 then
        some ((-2 : Int32), a_now)
      else
        (fX8_know N a_now).bind fun q_6 =>
        (fX8_manyOf N ((upd q_6 (12 : Int32).toNatClampNeg ((q_6 (12 : Int32).toNatClampNeg) ^^^ ((1 : Int32) <<< (p1 &&& 31)))) (12 : Int32).toNatClampNeg)).bind fun q_8 =>
        some (q_8, (upd q_6 (12 : Int32).toNatClampNeg ((q_6 (12 : Int32).toNatClampNeg) ^^^ ((1 : Int32) <<< (p1 &&& 31)))))
def fX8_takeNear_L2 (a_now : Nat → Int32) : Nat → Int32 → (Nat → Int32) → Option (Nat → Int32)
  | 0, _, _ => none
  | n2 + 1, x1_1, w_2 =>
    if (6 : Int32) ≤ x1_1 then
      some w_2
    else
      vg ((6 : Int32) + x1_1) 498 (
      vg x1_1 6 (
      fX8_takeNear_L2 a_now n2 (x1_1 + 1) (upd w_2 x1_1.toNatClampNeg (a_now ((6 : Int32) + x1_1).toNatClampNeg))))
def fX8_takeNear (N : Nat) (a_now : Nat → Int32) (a_near : Nat → Int32) : Option (Nat → Int32) :=
  fX8_takeNear_L2 a_now N (0 : Int32) a_near
def fX8_goesTo_L8 (N : Nat) (a_books : Nat → Int32) (a_numberA : Nat → Int32) (a_numberB : Nat → Int32) (a_now : Nat → Int32) (a_near : Nat → Int32) (p1 : Int32) : Nat → Int32 → Int32 → Int32 → Option Int32
  | 0, _, _, _ => none
  | n8 + 1, x2_1, x3_2, x4_3 =>
    if (a_books (0 : Int32).toNatClampNeg) ≤ x4_3 then
      if x2_1 = (-9 : Int32) then
        some p1
      else
        if (((a_now (12 : Int32).toNatClampNeg) >>> (p1 &&& 31)) &&& (1 : Int32)) = (1 : Int32) then
          some p1
        else
          some x2_1
    else
      (fX8_written a_numberA a_numberB a_now x4_3).bind fun q_7 =>
      (fX8_tens N q_7).bind fun q_9 =>
      vg p1 6 (
      if (((a_near p1.toNatClampNeg) >>> (x4_3 &&& 31)) &&& (1 : Int32)) = (1 : Int32) then
        if q_9 ≤ x3_2 then
          fX8_goesTo_L8 N a_books a_numberA a_numberB a_now a_near p1 n8 x2_1 x3_2 (x4_3 + 1)
        else
          fX8_goesTo_L8 N a_books a_numberA a_numberB a_now a_near p1 n8 x4_3 q_9 (x4_3 + 1)
      else
        fX8_goesTo_L8 N a_books a_numberA a_numberB a_now a_near p1 n8 x2_1 x3_2 (x4_3 + 1))
def fX8_goesTo (N : Nat) (a_books : Nat → Int32) (a_numberA : Nat → Int32) (a_numberB : Nat → Int32) (a_now : Nat → Int32) (a_near : Nat → Int32) (p1 : Int32) : Option Int32 :=
  fX8_goesTo_L8 N a_books a_numberA a_numberB a_now a_near p1 N (-9 : Int32) (-1 : Int32) (0 : Int32)
def fX8_goesIn_L5 (N : Nat) (a_books : Nat → Int32) (a_numberA : Nat → Int32) (a_numberB : Nat → Int32) (a_now : Nat → Int32) (a_near : Nat → Int32) (p2 : Int32) : Nat → Int32 → Int32 → Option Int32
  | 0, _, _ => none
  | n5 + 1, x3_1, x4_2 =>
    if p2 ≤ x4_2 then
      some x3_1
    else
      (fX8_goesTo N a_books a_numberA a_numberB a_now a_near x3_1).bind fun q_4 =>
      fX8_goesIn_L5 N a_books a_numberA a_numberB a_now a_near p2 n5 q_4 (x4_2 + 1)
def fX8_goesIn (N : Nat) (a_books : Nat → Int32) (a_numberA : Nat → Int32) (a_numberB : Nat → Int32) (a_now : Nat → Int32) (a_near : Nat → Int32) (p1 : Int32) (p2 : Int32) : Option Int32 :=
  fX8_goesIn_L5 N a_books a_numberA a_numberB a_now a_near p2 N p1 (0 : Int32)
def fX8_day_J58 (q_2 : (Nat → Int32)) (q_4 : (Nat → Int32)) (y2_8 : Int32) : Option (Int32 × (Nat → Int32) × (Nat → Int32)) :=
  some (((upd (upd q_2 (13 : Int32).toNatClampNeg y2_8) (14 : Int32).toNatClampNeg (((upd q_2 (13 : Int32).toNatClampNeg y2_8) (14 : Int32).toNatClampNeg) + (1 : Int32))) (13 : Int32).toNatClampNeg), (upd (upd q_2 (13 : Int32).toNatClampNeg y2_8) (14 : Int32).toNatClampNeg (((upd q_2 (13 : Int32).toNatClampNeg y2_8) (14 : Int32).toNatClampNeg) + (1 : Int32))), q_4)
def fX8_day (N : Nat) (a_books : Nat → Int32) (a_numberA : Nat → Int32) (a_numberB : Nat → Int32) (a_now : Nat → Int32) (a_near : Nat → Int32) : Option (Int32 × (Nat → Int32) × (Nat → Int32)) :=
  if (a_now (14 : Int32).toNatClampNeg) = (999 : Int32) then
    some ((-2 : Int32), a_now, a_near)
  else
    (fX8_know N a_now).bind fun q_2 =>
    (fX8_takeNear N q_2 a_near).bind fun q_4 =>
    if (q_2 (13 : Int32).toNatClampNeg) = (-9 : Int32) then
      fX8_day_J58 q_2 q_4 (-9 : Int32)
    else
      (fX8_goesTo N a_books a_numberA a_numberB q_2 q_4 (q_2 (13 : Int32).toNatClampNeg)).bind fun q_10 =>
      fX8_day_J58 q_2 q_4 q_10
def fX8_undo_L26 : Nat → Int32 → (Nat → Int32) → Option (Int32 × (Nat → Int32))
  | 0, _, _ => none
  | n26 + 1, x1_2, w_3 =>
    if (15 : Int32) ≤ x1_2 then
      some ((w_3 (15 : Int32).toNatClampNeg), w_3)
    else
      vg (((16 : Int32) + ((15 : Int32) * (w_3 (15 : Int32).toNatClampNeg))) + x1_2) 498 (
      vg x1_2 498 (
      fX8_undo_L26 n26 (x1_2 + 1) (upd w_3 x1_2.toNatClampNeg (w_3 (((16 : Int32) + ((15 : Int32) * (w_3 (15 : Int32).toNatClampNeg))) + x1_2).toNatClampNeg))))
def fX8_undo (N : Nat) (a_now : Nat → Int32) : Option (Int32 × (Nat → Int32)) :=
  if (a_now (15 : Int32).toNatClampNeg) = 0 then
    some ((-2 : Int32), a_now)
  else
    fX8_undo_L26 N (0 : Int32) (upd a_now (15 : Int32).toNatClampNeg ((a_now (15 : Int32).toNatClampNeg) - (1 : Int32)))
def fX8_now_J75 (x2_1 : Int32) (x3_2 : Int32) (x4_3 : Int32) (x5_4 : Int32) (x6_5 : Int32) (q_17 : Int32) (q_19 : Int32) (q_21 : Int32) (q_23 : Int32) (k13 : Int32 → Int32 → Int32 → Int32 → Int32 → Option Int32) (y1_25 : Int32) : Option Int32 :=
  if ((q_17 - q_19) - (q_17 - q_19) / (11 : Int32) * (11 : Int32)) = 0 then
    k13 (x2_1 + q_21) (x3_2 + q_23) (x4_3 ||| y1_25) (x5_4 ||| (0 : Int32)) (x6_5 + 1)
  else
    k13 (x2_1 + q_21) (x3_2 + q_23) (x4_3 ||| y1_25) (x5_4 ||| ((1 : Int32) <<< (x6_5 &&& 31))) (x6_5 + 1)
def fX8_now_L13 (N : Nat) (a_books : Nat → Int32) (a_numberA : Nat → Int32) (a_numberB : Nat → Int32) (a_now : Nat → Int32) (p1 : Int32) : Nat → Int32 → Int32 → Int32 → Int32 → Int32 → Option Int32
  | 0, _, _, _, _, _ => none
  | n13 + 1, x2_1, x3_2, x4_3, x5_4, x6_5 =>
    if (a_books (0 : Int32).toNatClampNeg) ≤ x6_5 then
      if p1 = (0 : Int32) then
        some (a_now (14 : Int32).toNatClampNeg)
      else
        if p1 = (1 : Int32) then
          some (a_now (13 : Int32).toNatClampNeg)
        else
          if p1 = (2 : Int32) then
            some x2_1
          else
            if p1 = (3 : Int32) then
              some x3_2
            else
              if p1 = (4 : Int32) then
                some x4_3
              else
                if p1 = (5 : Int32) then
                  some x5_4
                else
                  if p1 = (6 : Int32) then
                    (fX8_touches N a_now).bind fun q_14 =>
                    some q_14
                  else
                    some (-1 : Int32)
    else
      (fX8_shown a_numberA a_numberB a_now x6_5).bind fun q_17 =>
      (fX8_sum a_numberA a_numberB x6_5).bind fun q_19 =>
      (fX8_shown a_numberA a_numberB a_now x6_5).bind fun q_21 =>
      (fX8_sum a_numberA a_numberB x6_5).bind fun q_23 =>
      if ((q_17 - q_19) - (q_17 - q_19) / (9 : Int32) * (9 : Int32)) = 0 then
        fX8_now_J75 x2_1 x3_2 x4_3 x5_4 x6_5 q_17 q_19 q_21 q_23 (fun z13_0 z13_1 z13_2 z13_3 z13_4 => fX8_now_L13 N a_books a_numberA a_numberB a_now p1 n13 z13_0 z13_1 z13_2 z13_3 z13_4) (0 : Int32)
      else
        fX8_now_J75 x2_1 x3_2 x4_3 x5_4 x6_5 q_17 q_19 q_21 q_23 (fun z13_0 z13_1 z13_2 z13_3 z13_4 => fX8_now_L13 N a_books a_numberA a_numberB a_now p1 n13 z13_0 z13_1 z13_2 z13_3 z13_4) ((1 : Int32) <<< (x6_5 &&& 31))
def fX8_now (N : Nat) (a_books : Nat → Int32) (a_numberA : Nat → Int32) (a_numberB : Nat → Int32) (a_now : Nat → Int32) (p1 : Int32) : Option Int32 :=
  fX8_now_L13 N a_books a_numberA a_numberB a_now p1 N (0 : Int32) (0 : Int32) (0 : Int32) (0 : Int32) (0 : Int32)
def fX8_inDays (N : Nat) (a_books : Nat → Int32) (a_numberA : Nat → Int32) (a_numberB : Nat → Int32) (a_now : Nat → Int32) (a_near : Nat → Int32) (p1 : Int32) : Option (Int32 × (Nat → Int32)) :=
  if (fX8_in p1 (0 : Int32) (99 : Int32)) = 0 then
    some ((-1 : Int32), a_near)
  else
    (fX8_takeNear N a_now a_near).bind fun q_3 =>
    if (a_now (13 : Int32).toNatClampNeg) = (-9 : Int32) then
      some ((-9 : Int32), q_3)
    else
      (fX8_goesIn N a_books a_numberA a_numberB a_now q_3 (a_now (13 : Int32).toNatClampNeg) p1).bind fun q_6 =>
      some (q_6, q_3)
def fX8_round_L54 (N : Nat) (a_books : Nat → Int32) (a_numberA : Nat → Int32) (a_numberB : Nat → Int32) (a_now : Nat → Int32) (p1 : Int32) (q_4 : (Nat → Int32)) (x2_6 : Int32) (q_8 : Int32) (k32 : Int32 → Option (Int32 × (Nat → Int32))) : Nat → Int32 → Option (Int32 × (Nat → Int32))
  | 0, _ => none
  | n54 + 1, x4_10 =>
    if (6 : Int32) < x4_10 then
      k32 (x2_6 + 1)
    else
      (fX8_goesIn N a_books a_numberA a_numberB a_now q_4 q_8 x4_10).bind fun q_12 =>
      if q_12 = q_8 then
        if p1 = 0 then
          some (x2_6, q_4)
        else
          some (x4_10, q_4)
      else
        fX8_round_L54 N a_books a_numberA a_numberB a_now p1 q_4 x2_6 q_8 k32 n54 (x4_10 + 1)
def fX8_round_L32 (N : Nat) (a_books : Nat → Int32) (a_numberA : Nat → Int32) (a_numberB : Nat → Int32) (a_now : Nat → Int32) (p1 : Int32) (q_4 : (Nat → Int32)) : Nat → Int32 → Option (Int32 × (Nat → Int32))
  | 0, _ => none
  | n32 + 1, x2_6 =>
    if (6 : Int32) < x2_6 then
      some ((-9 : Int32), q_4)
    else
      (fX8_goesIn N a_books a_numberA a_numberB a_now q_4 (a_now (13 : Int32).toNatClampNeg) x2_6).bind fun q_8 =>
      fX8_round_L54 N a_books a_numberA a_numberB a_now p1 q_4 x2_6 q_8 (fun z32_0 => fX8_round_L32 N a_books a_numberA a_numberB a_now p1 q_4 n32 z32_0) N (1 : Int32)
def fX8_round (N : Nat) (a_books : Nat → Int32) (a_numberA : Nat → Int32) (a_numberB : Nat → Int32) (a_now : Nat → Int32) (a_near : Nat → Int32) (p1 : Int32) : Option (Int32 × (Nat → Int32)) :=
  if (fX8_in p1 (0 : Int32) (1 : Int32)) = 0 then
    some ((-1 : Int32), a_near)
  else
    if (a_now (13 : Int32).toNatClampNeg) = (-9 : Int32) then
      some ((-9 : Int32), a_near)
    else
      (fX8_takeNear N a_now a_near).bind fun q_4 =>
      fX8_round_L32 N a_books a_numberA a_numberB a_now p1 q_4 N (0 : Int32)
def fX8_from_L29 (N : Nat) (a_books : Nat → Int32) (a_numberA : Nat → Int32) (a_numberB : Nat → Int32) (a_now : Nat → Int32) (p1 : Int32) (p2 : Int32) (q_5 : (Nat → Int32)) : Nat → Int32 → Int32 → Option (Int32 × (Nat → Int32))
  | 0, _, _ => none
  | n29 + 1, x3_7, x4_8 =>
    if (a_books (0 : Int32).toNatClampNeg) ≤ x4_8 then
      some (x3_7, q_5)
    else
      (fX8_goesIn N a_books a_numberA a_numberB a_now q_5 x4_8 p2).bind fun q_10 =>
      if q_10 = p1 then
        fX8_from_L29 N a_books a_numberA a_numberB a_now p1 p2 q_5 n29 (x3_7 ||| ((1 : Int32) <<< (x4_8 &&& 31))) (x4_8 + 1)
      else
        fX8_from_L29 N a_books a_numberA a_numberB a_now p1 p2 q_5 n29 (x3_7 ||| (0 : Int32)) (x4_8 + 1)
def fX8_from (N : Nat) (a_books : Nat → Int32) (a_numberA : Nat → Int32) (a_numberB : Nat → Int32) (a_now : Nat → Int32) (a_near : Nat → Int32) (p1 : Int32) (p2 : Int32) : Option (Int32 × (Nat → Int32)) :=
  if (fX8_isBook a_books p1) = 0 then
    some ((-1 : Int32), a_near)
  else
    if (fX8_in p2 (0 : Int32) (20 : Int32)) = 0 then
      some ((-1 : Int32), a_near)
    else
      (fX8_takeNear N a_now a_near).bind fun q_5 =>
      fX8_from_L29 N a_books a_numberA a_numberB a_now p1 p2 q_5 N (0 : Int32) (0 : Int32)
def fX8_turn (a_near : Nat → Int32) (p1 : Int32) (p2 : Int32) : Option (Nat → Int32) :=
  vg p1 6 (
  vg p1 6 (
  vg p2 6 (
  vg p2 6 (
  some (upd (upd a_near p1.toNatClampNeg ((a_near p1.toNatClampNeg) ^^^ ((1 : Int32) <<< (p2 &&& 31)))) p2.toNatClampNeg (((upd a_near p1.toNatClampNeg ((a_near p1.toNatClampNeg) ^^^ ((1 : Int32) <<< (p2 &&& 31)))) p2.toNatClampNeg) ^^^ ((1 : Int32) <<< (p1 &&& 31))))))))
def fX8_isLess (a_books : Nat → Int32) (a_now : Nat → Int32) (p1 : Int32) : Option Int32 :=
  if (p1 - p1 / (6 : Int32) * (6 : Int32)) ≤ (p1 / (6 : Int32)) then
    some (0 : Int32)
  else
    if (a_books (0 : Int32).toNatClampNeg) ≤ (p1 - p1 / (6 : Int32) * (6 : Int32)) then
      some (0 : Int32)
    else
      vg ((6 : Int32) + (p1 / (6 : Int32))) 498 (
      if (((a_now ((6 : Int32) + (p1 / (6 : Int32))).toNatClampNeg) >>> ((p1 - p1 / (6 : Int32) * (6 : Int32)) &&& 31)) &&& (1 : Int32)) = 0 then
        some (1 : Int32)
      else
        some (0 : Int32))
def fX8_isLured_J39 (N : Nat) (a_books : Nat → Int32) (a_numberA : Nat → Int32) (a_numberB : Nat → Int32) (a_now : Nat → Int32) (p1 : Int32) (p2 : Int32) (w_8 : Nat → Int32) : Option (Int32 × (Nat → Int32)) :=
  (fX8_goesIn N a_books a_numberA a_numberB a_now w_8 (a_now (13 : Int32).toNatClampNeg) p2).bind fun q_9 =>
  if q_9 = p1 then
    some ((1 : Int32), w_8)
  else
    some ((0 : Int32), w_8)
def fX8_isLured_J20 (N : Nat) (a_books : Nat → Int32) (a_numberA : Nat → Int32) (a_numberB : Nat → Int32) (a_now : Nat → Int32) (p1 : Int32) (p2 : Int32) (p4 : Int32) (w_5 : Nat → Int32) : Option (Int32 × (Nat → Int32)) :=
  if p4 < 0 then
    fX8_isLured_J39 N a_books a_numberA a_numberB a_now p1 p2 w_5
  else
    (fX8_turn w_5 (p4 / (6 : Int32)) (p4 - p4 / (6 : Int32) * (6 : Int32))).bind fun q_13 =>
    fX8_isLured_J39 N a_books a_numberA a_numberB a_now p1 p2 q_13
def fX8_isLured (N : Nat) (a_books : Nat → Int32) (a_numberA : Nat → Int32) (a_numberB : Nat → Int32) (a_now : Nat → Int32) (a_near : Nat → Int32) (p1 : Int32) (p2 : Int32) (p3 : Int32) (p4 : Int32) : Option (Int32 × (Nat → Int32)) :=
  (fX8_takeNear N a_now a_near).bind fun q_1 =>
  if p3 < 0 then
    fX8_isLured_J20 N a_books a_numberA a_numberB a_now p1 p2 p4 q_1
  else
    (fX8_turn q_1 (p3 / (6 : Int32)) (p3 - p3 / (6 : Int32) * (6 : Int32))).bind fun q_16 =>
    fX8_isLured_J20 N a_books a_numberA a_numberB a_now p1 p2 p4 q_16
def fX8_told (p1 : Int32) : Int32 :=
  if 0 ≤ p1 then
    (((10 : Int32) * (p1 / (6 : Int32))) + (p1 - p1 / (6 : Int32) * (6 : Int32)))
  else
    (-9 : Int32)
def fX8_lure_L146 (N : Nat) (a_books : Nat → Int32) (a_numberA : Nat → Int32) (a_numberB : Nat → Int32) (a_now : Nat → Int32) (p1 : Int32) (p2 : Int32) (p3 : Int32) (x4_15 : Int32) (k133 : Int32 → (Nat → Int32) → Option (Int32 × (Nat → Int32))) : Nat → Int32 → (Nat → Int32) → Option (Int32 × (Nat → Int32))
  | 0, _, _ => none
  | n146 + 1, x5_18, w_19 =>
    if (36 : Int32) ≤ x5_18 then
      k133 (x4_15 + 1) w_19
    else
      (fX8_isLess a_books a_now x4_15).bind fun q_21 =>
      if q_21 = 0 then
        fX8_lure_L146 N a_books a_numberA a_numberB a_now p1 p2 p3 x4_15 k133 n146 (x5_18 + 1) w_19
      else
        (fX8_isLess a_books a_now x5_18).bind fun q_25 =>
        if q_25 = 0 then
          fX8_lure_L146 N a_books a_numberA a_numberB a_now p1 p2 p3 x4_15 k133 n146 (x5_18 + 1) w_19
        else
          (fX8_isLured N a_books a_numberA a_numberB a_now w_19 p1 p2 x4_15 x5_18).bind fun q_29 =>
          if q_29.1 = 0 then
            fX8_lure_L146 N a_books a_numberA a_numberB a_now p1 p2 p3 x4_15 k133 n146 (x5_18 + 1) q_29.2
          else
            if p3 = 0 then
              some ((2 : Int32), q_29.2)
            else
              if p3 = (1 : Int32) then
                some ((fX8_told x4_15), q_29.2)
              else
                some ((fX8_told x5_18), q_29.2)
def fX8_lure_L133 (N : Nat) (a_books : Nat → Int32) (a_numberA : Nat → Int32) (a_numberB : Nat → Int32) (a_now : Nat → Int32) (p1 : Int32) (p2 : Int32) (p3 : Int32) : Nat → Int32 → (Nat → Int32) → Option (Int32 × (Nat → Int32))
  | 0, _, _ => none
  | n133 + 1, x4_15, w_16 =>
    if (36 : Int32) ≤ x4_15 then
      some ((-9 : Int32), w_16)
    else
      fX8_lure_L146 N a_books a_numberA a_numberB a_now p1 p2 p3 x4_15 (fun z133_0 z133_1 => fX8_lure_L133 N a_books a_numberA a_numberB a_now p1 p2 p3 n133 z133_0 z133_1) N (x4_15 + (1 : Int32)) w_16
def fX8_lure_L71 (N : Nat) (a_books : Nat → Int32) (a_numberA : Nat → Int32) (a_numberB : Nat → Int32) (a_now : Nat → Int32) (p1 : Int32) (p2 : Int32) (p3 : Int32) : Nat → Int32 → (Nat → Int32) → Option (Int32 × (Nat → Int32))
  | 0, _, _ => none
  | n71 + 1, x4_12, w_13 =>
    if (36 : Int32) ≤ x4_12 then
      fX8_lure_L133 N a_books a_numberA a_numberB a_now p1 p2 p3 N (0 : Int32) w_13
    else
      (fX8_isLess a_books a_now x4_12).bind fun q_35 =>
      if q_35 = 0 then
        fX8_lure_L71 N a_books a_numberA a_numberB a_now p1 p2 p3 n71 (x4_12 + 1) w_13
      else
        (fX8_isLured N a_books a_numberA a_numberB a_now w_13 p1 p2 x4_12 (-9 : Int32)).bind fun q_39 =>
        if q_39.1 = 0 then
          fX8_lure_L71 N a_books a_numberA a_numberB a_now p1 p2 p3 n71 (x4_12 + 1) q_39.2
        else
          if p3 = 0 then
            some ((1 : Int32), q_39.2)
          else
            if p3 = (1 : Int32) then
              some ((fX8_told x4_12), q_39.2)
            else
              some ((-9 : Int32), q_39.2)
def fX8_lure (N : Nat) (a_books : Nat → Int32) (a_numberA : Nat → Int32) (a_numberB : Nat → Int32) (a_now : Nat → Int32) (a_near : Nat → Int32) (p1 : Int32) (p2 : Int32) (p3 : Int32) : Option (Int32 × (Nat → Int32)) :=
  if (fX8_isBook a_books p1) = 0 then
    some ((-1 : Int32), a_near)
  else
    if (fX8_in p2 (1 : Int32) (20 : Int32)) = 0 then
      some ((-1 : Int32), a_near)
    else
      if (fX8_in p3 (0 : Int32) (2 : Int32)) = 0 then
        some ((-1 : Int32), a_near)
      else
        if (a_now (13 : Int32).toNatClampNeg) = (-9 : Int32) then
          some ((-2 : Int32), a_near)
        else
          (fX8_isLured N a_books a_numberA a_numberB a_now a_near p1 p2 (-9 : Int32) (-9 : Int32)).bind fun q_8 =>
          if q_8.1 = 0 then
            fX8_lure_L71 N a_books a_numberA a_numberB a_now p1 p2 p3 N (0 : Int32) q_8.2
          else
            if p3 = 0 then
              some ((0 : Int32), q_8.2)
            else
              some ((-9 : Int32), q_8.2)
def fX8_touching_L17 (a_now : Nat → Int32) (x3_3 : Int32) (k6 : Int32 → Int32 → Int32 → Option Int32) : Nat → Int32 → Int32 → Int32 → Option Int32
  | 0, _, _, _ => none
  | n17 + 1, x1_5, x2_6, x4_7 =>
    if (6 : Int32) ≤ x4_7 then
      k6 x1_5 x2_6 (x3_3 + 1)
    else
      vg ((6 : Int32) + x3_3) 498 (
      if (((a_now ((6 : Int32) + x3_3).toNatClampNeg) >>> (x4_7 &&& 31)) &&& (1 : Int32)) = (1 : Int32) then
        fX8_touching_L17 a_now x3_3 k6 n17 (x1_5 ||| ((1 : Int32) <<< (x2_6 &&& 31))) (x2_6 + 1) (x4_7 + 1)
      else
        fX8_touching_L17 a_now x3_3 k6 n17 (x1_5 ||| (0 : Int32)) (x2_6 + 1) (x4_7 + 1))
def fX8_touching_L6 (N : Nat) (a_now : Nat → Int32) : Nat → Int32 → Int32 → Int32 → Option Int32
  | 0, _, _, _ => none
  | n6 + 1, x1_1, x2_2, x3_3 =>
    if (6 : Int32) ≤ x3_3 then
      some x1_1
    else
      fX8_touching_L17 a_now x3_3 (fun z6_0 z6_1 z6_2 => fX8_touching_L6 N a_now n6 z6_0 z6_1 z6_2) N x1_1 x2_2 (x3_3 + (1 : Int32))
def fX8_touching (N : Nat) (a_now : Nat → Int32) : Option Int32 :=
  fX8_touching_L6 N a_now N (0 : Int32) (0 : Int32) (0 : Int32)
def fX8_layApart_L19 (p1 : Int32) (x3_4 : Int32) (k8 : Int32 → Int32 → (Nat → Int32) → Option (Nat → Int32)) : Nat → Int32 → Int32 → (Nat → Int32) → Option (Nat → Int32)
  | 0, _, _, _ => none
  | n19 + 1, x2_7, x4_8, w_9 =>
    if (6 : Int32) ≤ x4_8 then
      k8 x2_7 (x3_4 + 1) w_9
    else
      if ((p1 >>> (x2_7 &&& 31)) &&& (1 : Int32)) = (1 : Int32) then
        (fX8_turn w_9 x3_4 x4_8).bind fun q_12 =>
        fX8_layApart_L19 p1 x3_4 k8 n19 (x2_7 + 1) (x4_8 + 1) q_12
      else
        fX8_layApart_L19 p1 x3_4 k8 n19 (x2_7 + 1) (x4_8 + 1) w_9
def fX8_layApart_L8 (N : Nat) (p1 : Int32) : Nat → Int32 → Int32 → (Nat → Int32) → Option (Nat → Int32)
  | 0, _, _, _ => none
  | n8 + 1, x2_3, x3_4, w_5 =>
    if (6 : Int32) ≤ x3_4 then
      some w_5
    else
      fX8_layApart_L19 p1 x3_4 (fun z8_0 z8_1 z8_2 => fX8_layApart_L8 N p1 n8 z8_0 z8_1 z8_2) N x2_3 (x3_4 + (1 : Int32)) w_5
def fX8_layApart (N : Nat) (a_now : Nat → Int32) (a_near : Nat → Int32) (p1 : Int32) : Option (Nat → Int32) :=
  (fX8_takeNear N a_now a_near).bind fun q_1 =>
  fX8_layApart_L8 N p1 N (0 : Int32) (0 : Int32) q_1
def fX8_everComes_L22 (N : Nat) (a_books : Nat → Int32) (a_numberA : Nat → Int32) (a_numberB : Nat → Int32) (a_now : Nat → Int32) (a_near : Nat → Int32) (p1 : Int32) : Nat → Int32 → Int32 → Int32 → Option Int32
  | 0, _, _, _ => none
  | n22 + 1, x2_2, x3_3, x4_4 =>
    if (6 : Int32) ≤ x4_4 then
      (if x3_3 = 0 ∨ x3_3 = 1 then
      some x3_3
        else none)
    else
      (fX8_goesTo N a_books a_numberA a_numberB a_now a_near x2_2).bind fun q_7 =>
      if x3_3 = 0 then
        if q_7 = p1 then
          fX8_everComes_L22 N a_books a_numberA a_numberB a_now a_near p1 n22 q_7 (1 : Int32) (x4_4 + 1)
        else
          fX8_everComes_L22 N a_books a_numberA a_numberB a_now a_near p1 n22 q_7 (0 : Int32) (x4_4 + 1)
      else
        fX8_everComes_L22 N a_books a_numberA a_numberB a_now a_near p1 n22 q_7 (1 : Int32) (x4_4 + 1)
def fX8_everComes_J18 (N : Nat) (a_books : Nat → Int32) (a_numberA : Nat → Int32) (a_numberB : Nat → Int32) (a_now : Nat → Int32) (a_near : Nat → Int32) (p1 : Int32) (y0_1 : Int32) : Option Int32 :=
  fX8_everComes_L22 N a_books a_numberA a_numberB a_now a_near p1 N (a_now (13 : Int32).toNatClampNeg) y0_1 (0 : Int32)
def fX8_everComes (N : Nat) (a_books : Nat → Int32) (a_numberA : Nat → Int32) (a_numberB : Nat → Int32) (a_now : Nat → Int32) (a_near : Nat → Int32) (p1 : Int32) : Option Int32 :=
  if (a_now (13 : Int32).toNatClampNeg) = p1 then
    fX8_everComes_J18 N a_books a_numberA a_numberB a_now a_near p1 (1 : Int32)
  else
    fX8_everComes_J18 N a_books a_numberA a_numberB a_now a_near p1 (0 : Int32)
def fX8_cut_J99 (N : Nat) (a_books : Nat → Int32) (a_numberA : Nat → Int32) (a_numberB : Nat → Int32) (a_now : Nat → Int32) (p1 : Int32) (x3_7 : Int32) (x4_8 : Int32) (w_9 : Nat → Int32) (k49 : Int32 → Int32 → (Nat → Int32) → Option (Int32 × (Nat → Int32))) (y0_19 : Int32) : Option (Int32 × (Nat → Int32)) :=
  if y0_19 = 0 then
    k49 x3_7 (x4_8 + 1) w_9
  else
    (fX8_layApart N a_now w_9 x4_8).bind fun q_21 =>
    (fX8_everComes N a_books a_numberA a_numberB a_now q_21 p1).bind fun q_23 =>
    if q_23 = 0 then
      k49 x4_8 (x4_8 + 1) q_21
    else
      k49 x3_7 (x4_8 + 1) q_21
def fX8_cut_J98 (N : Nat) (a_books : Nat → Int32) (a_numberA : Nat → Int32) (a_numberB : Nat → Int32) (a_now : Nat → Int32) (p1 : Int32) (x3_7 : Int32) (x4_8 : Int32) (w_9 : Nat → Int32) (k49 : Int32 → Int32 → (Nat → Int32) → Option (Int32 × (Nat → Int32))) : Option (Int32 × (Nat → Int32)) :=
  fX8_cut_J99 N a_books a_numberA a_numberB a_now p1 x3_7 x4_8 w_9 k49 (0 : Int32)
def fX8_cut_J94 (N : Nat) (a_books : Nat → Int32) (a_numberA : Nat → Int32) (a_numberB : Nat → Int32) (a_now : Nat → Int32) (p1 : Int32) (x3_7 : Int32) (x4_8 : Int32) (w_9 : Nat → Int32) (k49 : Int32 → Int32 → (Nat → Int32) → Option (Int32 × (Nat → Int32))) : Option (Int32 × (Nat → Int32)) :=
  fX8_cut_J99 N a_books a_numberA a_numberB a_now p1 x3_7 x4_8 w_9 k49 (1 : Int32)
def fX8_cut_L49 (N : Nat) (a_books : Nat → Int32) (a_numberA : Nat → Int32) (a_numberB : Nat → Int32) (a_now : Nat → Int32) (p1 : Int32) (q_5 : Int32) : Nat → Int32 → Int32 → (Nat → Int32) → Option (Int32 × (Nat → Int32))
  | 0, _, _, _ => none
  | n49 + 1, x3_7, x4_8, w_9 =>
    if q_5 ≤ x4_8 then
      some (x3_7, w_9)
    else
      if (x4_8 &&& (q_5 ^^^ (-1 : Int32))) = 0 then
        (fX8_manyOf N x4_8).bind fun q_46 =>
        (fX8_manyOf N x3_7).bind fun q_48 =>
        if q_46 < q_48 then
          fX8_cut_J94 N a_books a_numberA a_numberB a_now p1 x3_7 x4_8 w_9 (fun z49_0 z49_1 z49_2 => fX8_cut_L49 N a_books a_numberA a_numberB a_now p1 q_5 n49 z49_0 z49_1 z49_2) 
        else
          (fX8_manyOf N x4_8).bind fun q_65 =>
          (fX8_manyOf N x3_7).bind fun q_67 =>
          if q_65 = q_67 then
            if x3_7 ≤ x4_8 then
              fX8_cut_J98 N a_books a_numberA a_numberB a_now p1 x3_7 x4_8 w_9 (fun z49_0 z49_1 z49_2 => fX8_cut_L49 N a_books a_numberA a_numberB a_now p1 q_5 n49 z49_0 z49_1 z49_2) 
            else
              fX8_cut_J94 N a_books a_numberA a_numberB a_now p1 x3_7 x4_8 w_9 (fun z49_0 z49_1 z49_2 => fX8_cut_L49 N a_books a_numberA a_numberB a_now p1 q_5 n49 z49_0 z49_1 z49_2) 
          else
            fX8_cut_J98 N a_books a_numberA a_numberB a_now p1 x3_7 x4_8 w_9 (fun z49_0 z49_1 z49_2 => fX8_cut_L49 N a_books a_numberA a_numberB a_now p1 q_5 n49 z49_0 z49_1 z49_2) 
      else
        fX8_cut_J98 N a_books a_numberA a_numberB a_now p1 x3_7 x4_8 w_9 (fun z49_0 z49_1 z49_2 => fX8_cut_L49 N a_books a_numberA a_numberB a_now p1 q_5 n49 z49_0 z49_1 z49_2) 
def fX8_cut (N : Nat) (a_books : Nat → Int32) (a_numberA : Nat → Int32) (a_numberB : Nat → Int32) (a_now : Nat → Int32) (a_near : Nat → Int32) (p1 : Int32) : Option (Int32 × (Nat → Int32)) :=
  if (fX8_isBook a_books p1) = 0 then
    some ((-1 : Int32), a_near)
  else
    if (a_now (13 : Int32).toNatClampNeg) = (-9 : Int32) then
      some ((-2 : Int32), a_near)
    else
      if (a_now (13 : Int32).toNatClampNeg) = p1 then
        some ((-9 : Int32), a_near)
      else
        (fX8_touching N a_now).bind fun q_5 =>
        fX8_cut_L49 N a_books a_numberA a_numberB a_now p1 q_5 N q_5 (0 : Int32) a_near
def fX8_part_L5 (p1 : Int32) (p2 : Int32) (p3 : Int32) : Nat → Int32 → Int32 → Option Int32
  | 0, _, _ => none
  | n5 + 1, x3_1, x4_2 =>
    if x4_2 = 0 then
      if p3 = 0 then
        vz x3_1 (
        some (p1 / x3_1))
      else
        vz x3_1 (
        some (p2 / x3_1))
    else
      vz x4_2 (
      fX8_part_L5 p1 p2 p3 n5 x4_2 (x3_1 - x3_1 / x4_2 * x4_2))
def fX8_part (N : Nat) (p1 : Int32) (p2 : Int32) (p3 : Int32) : Option Int32 :=
  fX8_part_L5 p1 p2 p3 N p1 p2
def fX8_odds_J152 (N : Nat) (a_books : Nat → Int32) (a_numberA : Nat → Int32) (a_numberB : Nat → Int32) (a_now : Nat → Int32) (q_10 : (Nat → Int32)) (x8_20 : Int32) (x9_21 : Int32) (x10_22 : Int32) (y0_25 : Int32) (k113 : Int32 → Int32 → Int32 → Option (Int32 × (Nat → Int32))) (y1_26 : Int32) : Option (Int32 × (Nat → Int32)) :=
  if y0_25 = 0 then
    (fX8_goesTo N a_books a_numberA a_numberB a_now q_10 x9_21).bind fun q_28 =>
    k113 (x8_20 * y1_26) q_28 (x10_22 + 1)
  else
    k113 (x8_20 * y1_26) x9_21 (x10_22 + 1)
def fX8_odds_J135 (N : Nat) (a_books : Nat → Int32) (a_numberA : Nat → Int32) (a_numberB : Nat → Int32) (a_now : Nat → Int32) (p1 : Int32) (q_10 : (Nat → Int32)) (x8_20 : Int32) (x9_21 : Int32) (x10_22 : Int32) (k113 : Int32 → Int32 → Int32 → Option (Int32 × (Nat → Int32))) (y0_25 : Int32) : Option (Int32 × (Nat → Int32)) :=
  if y0_25 = 0 then
    fX8_odds_J152 N a_books a_numberA a_numberB a_now q_10 x8_20 x9_21 x10_22 y0_25 k113 ((10 : Int32) - p1)
  else
    fX8_odds_J152 N a_books a_numberA a_numberB a_now q_10 x8_20 x9_21 x10_22 y0_25 k113 p1
def fX8_odds_L113 (N : Nat) (a_books : Nat → Int32) (a_numberA : Nat → Int32) (a_numberB : Nat → Int32) (a_now : Nat → Int32) (p1 : Int32) (p2 : Int32) (p3 : Int32) (q_10 : (Nat → Int32)) (x5_15 : Int32) (x7_16 : Int32) (k90 : Int32 → Int32 → Option (Int32 × (Nat → Int32))) : Nat → Int32 → Int32 → Int32 → Option (Int32 × (Nat → Int32))
  | 0, _, _, _ => none
  | n113 + 1, x8_20, x9_21, x10_22 =>
    if p2 ≤ x10_22 then
      if x9_21 = p3 then
        k90 (x5_15 + x8_20) (x7_16 + 1)
      else
        k90 (x5_15 + (0 : Int32)) (x7_16 + 1)
    else
      if ((x7_16 >>> (x10_22 &&& 31)) &&& (1 : Int32)) = (1 : Int32) then
        fX8_odds_J135 N a_books a_numberA a_numberB a_now p1 q_10 x8_20 x9_21 x10_22 (fun z113_0 z113_1 z113_2 => fX8_odds_L113 N a_books a_numberA a_numberB a_now p1 p2 p3 q_10 x5_15 x7_16 k90 n113 z113_0 z113_1 z113_2) (1 : Int32)
      else
        fX8_odds_J135 N a_books a_numberA a_numberB a_now p1 q_10 x8_20 x9_21 x10_22 (fun z113_0 z113_1 z113_2 => fX8_odds_L113 N a_books a_numberA a_numberB a_now p1 p2 p3 q_10 x5_15 x7_16 k90 n113 z113_0 z113_1 z113_2) (0 : Int32)
def fX8_odds_L90 (N : Nat) (a_books : Nat → Int32) (a_numberA : Nat → Int32) (a_numberB : Nat → Int32) (a_now : Nat → Int32) (p1 : Int32) (p2 : Int32) (p3 : Int32) (p4 : Int32) (q_10 : (Nat → Int32)) (x6_12 : Int32) : Nat → Int32 → Int32 → Option (Int32 × (Nat → Int32))
  | 0, _, _ => none
  | n90 + 1, x5_15, x7_16 =>
    if ((1 : Int32) <<< (p2 &&& 31)) ≤ x7_16 then
      (fX8_part N x5_15 x6_12 p4).bind fun q_18 =>
      some (q_18, q_10)
    else
      fX8_odds_L113 N a_books a_numberA a_numberB a_now p1 p2 p3 q_10 x5_15 x7_16 (fun z90_0 z90_1 => fX8_odds_L90 N a_books a_numberA a_numberB a_now p1 p2 p3 p4 q_10 x6_12 n90 z90_0 z90_1) N (1 : Int32) (a_now (13 : Int32).toNatClampNeg) (0 : Int32)
def fX8_odds_L68 (N : Nat) (a_books : Nat → Int32) (a_numberA : Nat → Int32) (a_numberB : Nat → Int32) (a_now : Nat → Int32) (p1 : Int32) (p2 : Int32) (p3 : Int32) (p4 : Int32) (q_10 : (Nat → Int32)) : Nat → Int32 → Int32 → Option (Int32 × (Nat → Int32))
  | 0, _, _ => none
  | n68 + 1, x6_12, x7_13 =>
    if p2 ≤ x7_13 then
      fX8_odds_L90 N a_books a_numberA a_numberB a_now p1 p2 p3 p4 q_10 x6_12 N (0 : Int32) (0 : Int32)
    else
      fX8_odds_L68 N a_books a_numberA a_numberB a_now p1 p2 p3 p4 q_10 n68 (x6_12 * (10 : Int32)) (x7_13 + 1)
def fX8_odds (N : Nat) (a_books : Nat → Int32) (a_numberA : Nat → Int32) (a_numberB : Nat → Int32) (a_now : Nat → Int32) (a_near : Nat → Int32) (p1 : Int32) (p2 : Int32) (p3 : Int32) (p4 : Int32) : Option (Int32 × (Nat → Int32)) :=
  if (fX8_in p1 (0 : Int32) (10 : Int32)) = 0 then
    some ((-1 : Int32), a_near)
  else
    if (fX8_in p2 (0 : Int32) (6 : Int32)) = 0 then
      some ((-1 : Int32), a_near)
    else
      if (fX8_isBook a_books p3) = 0 then
        some ((-1 : Int32), a_near)
      else
        if (fX8_in p4 (0 : Int32) (1 : Int32)) = 0 then
          some ((-1 : Int32), a_near)
        else
          if (a_now (13 : Int32).toNatClampNeg) = (-9 : Int32) then
            some ((-2 : Int32), a_near)
          else
            (fX8_takeNear N a_now a_near).bind fun q_10 =>
            fX8_odds_L68 N a_books a_numberA a_numberB a_now p1 p2 p3 p4 q_10 N (1 : Int32) (0 : Int32)
def fX8_saw (a_books : Nat → Int32) (a_seenDays : Nat → Int32) (a_seenBook : Nat → Int32) (a_seenIs : Nat → Int32) (v_seen : Int32) (p1 : Int32) (p2 : Int32) (p3 : Int32) : Option (Int32 × (Nat → Int32) × (Nat → Int32) × (Nat → Int32) × Int32) :=
  if (fX8_in p1 (0 : Int32) (20 : Int32)) = 0 then
    some ((-1 : Int32), a_seenDays, a_seenBook, a_seenIs, v_seen)
  else
    if (fX8_isBook a_books p2) = 0 then
      some ((-1 : Int32), a_seenDays, a_seenBook, a_seenIs, v_seen)
    else
      if (fX8_in p3 (0 : Int32) (1 : Int32)) = 0 then
        some ((-1 : Int32), a_seenDays, a_seenBook, a_seenIs, v_seen)
      else
        if v_seen = (6 : Int32) then
          some ((-3 : Int32), a_seenDays, a_seenBook, a_seenIs, v_seen)
        else
          vg v_seen 6 (
          vg v_seen 6 (
          vg v_seen 6 (
          some ((v_seen + (1 : Int32)), (upd a_seenDays v_seen.toNatClampNeg p1), (upd a_seenBook v_seen.toNatClampNeg p2), (upd a_seenIs v_seen.toNatClampNeg p3), (v_seen + (1 : Int32))))))
def fX8_forget (v_seen : Int32) : (Int32 × Int32) :=
  (v_seen, (0 : Int32))
def fX8_fits_J63 (a_seenIs : Nat → Int32) (x4_7 : Int32) (k23 : Int32 → Int32 → Option (Int32 × (Nat → Int32))) (y0_15 : Int32) : Option (Int32 × (Nat → Int32)) :=
  vg x4_7 6 (
  if y0_15 = (a_seenIs x4_7.toNatClampNeg) then
    k23 (1 : Int32) (x4_7 + 1)
  else
    k23 (0 : Int32) (x4_7 + 1))
def fX8_fits_L23 (N : Nat) (a_books : Nat → Int32) (a_numberA : Nat → Int32) (a_numberB : Nat → Int32) (a_now : Nat → Int32) (a_seenDays : Nat → Int32) (a_seenBook : Nat → Int32) (a_seenIs : Nat → Int32) (v_seen : Int32) (q_1 : (Nat → Int32)) (x1_3 : Int32) (x2_4 : Int32) (k8 : Int32 → Int32 → Option (Int32 × (Nat → Int32))) : Nat → Int32 → Int32 → Option (Int32 × (Nat → Int32))
  | 0, _, _ => none
  | n23 + 1, x3_6, x4_7 =>
    if v_seen ≤ x4_7 then
      if x3_6 = 0 then
        k8 (x1_3 ||| (0 : Int32)) (x2_4 + 1)
      else
        k8 (x1_3 ||| ((1 : Int32) <<< (x2_4 &&& 31))) (x2_4 + 1)
    else
      if x3_6 = 0 then
        fX8_fits_L23 N a_books a_numberA a_numberB a_now a_seenDays a_seenBook a_seenIs v_seen q_1 x1_3 x2_4 k8 n23 (0 : Int32) (x4_7 + 1)
      else
        vg x4_7 6 (
        (fX8_goesIn N a_books a_numberA a_numberB a_now q_1 x2_4 (a_seenDays x4_7.toNatClampNeg)).bind fun q_12 =>
        vg x4_7 6 (
        if q_12 = (a_seenBook x4_7.toNatClampNeg) then
          fX8_fits_J63 a_seenIs x4_7 (fun z23_0 z23_1 => fX8_fits_L23 N a_books a_numberA a_numberB a_now a_seenDays a_seenBook a_seenIs v_seen q_1 x1_3 x2_4 k8 n23 z23_0 z23_1) (1 : Int32)
        else
          fX8_fits_J63 a_seenIs x4_7 (fun z23_0 z23_1 => fX8_fits_L23 N a_books a_numberA a_numberB a_now a_seenDays a_seenBook a_seenIs v_seen q_1 x1_3 x2_4 k8 n23 z23_0 z23_1) (0 : Int32)))
def fX8_fits_L8 (N : Nat) (a_books : Nat → Int32) (a_numberA : Nat → Int32) (a_numberB : Nat → Int32) (a_now : Nat → Int32) (a_seenDays : Nat → Int32) (a_seenBook : Nat → Int32) (a_seenIs : Nat → Int32) (v_seen : Int32) (q_1 : (Nat → Int32)) : Nat → Int32 → Int32 → Option (Int32 × (Nat → Int32))
  | 0, _, _ => none
  | n8 + 1, x1_3, x2_4 =>
    if (a_books (0 : Int32).toNatClampNeg) ≤ x2_4 then
      some (x1_3, q_1)
    else
      fX8_fits_L23 N a_books a_numberA a_numberB a_now a_seenDays a_seenBook a_seenIs v_seen q_1 x1_3 x2_4 (fun z8_0 z8_1 => fX8_fits_L8 N a_books a_numberA a_numberB a_now a_seenDays a_seenBook a_seenIs v_seen q_1 n8 z8_0 z8_1) N (1 : Int32) (0 : Int32)
def fX8_fits (N : Nat) (a_books : Nat → Int32) (a_numberA : Nat → Int32) (a_numberB : Nat → Int32) (a_now : Nat → Int32) (a_near : Nat → Int32) (a_seenDays : Nat → Int32) (a_seenBook : Nat → Int32) (a_seenIs : Nat → Int32) (v_seen : Int32) : Option (Int32 × (Nat → Int32)) :=
  (fX8_takeNear N a_now a_near).bind fun q_1 =>
  fX8_fits_L8 N a_books a_numberA a_numberB a_now a_seenDays a_seenBook a_seenIs v_seen q_1 N (0 : Int32) (0 : Int32)
def fX8_isHidden (p1 : Int32) (p2 : Int32) : Option Int32 :=
  vz p2 (
  if (p1 - p1 / p2 * p2) = 0 then
    some (1 : Int32)
  else
    some (0 : Int32))
def fX8_hidden_J201 (a_numberA : Nat → Int32) (p1 : Int32) (p2 : Int32) (q_4 : Int32) (q_6 : Int32) (q_8 : Int32) (q_10 : Int32) (y1_16 : Int32) (y1_21 : Int32) (y1_24 : Int32) (y1_27 : Int32) : Option Int32 :=
  if ((((100 : Int32) * q_4) + ((10 : Int32) * q_6)) + q_8) = (a_numberA p1.toNatClampNeg) then
    some (((((q_10 + y1_16) + y1_21) + y1_24) + y1_27) + (0 : Int32))
  else
    (fX8_isHidden (((((100 : Int32) * q_4) + ((10 : Int32) * q_6)) + q_8) - (a_numberA p1.toNatClampNeg)) p2).bind fun q_29 =>
    some (((((q_10 + y1_16) + y1_21) + y1_24) + y1_27) + q_29)
def fX8_hidden_J178 (a_numberA : Nat → Int32) (p1 : Int32) (p2 : Int32) (q_4 : Int32) (q_6 : Int32) (q_8 : Int32) (q_10 : Int32) (y1_16 : Int32) (y1_21 : Int32) (y1_24 : Int32) : Option Int32 :=
  if ((((100 : Int32) * q_6) + ((10 : Int32) * q_8)) + q_4) = (a_numberA p1.toNatClampNeg) then
    fX8_hidden_J201 a_numberA p1 p2 q_4 q_6 q_8 q_10 y1_16 y1_21 y1_24 (0 : Int32)
  else
    (fX8_isHidden (((((100 : Int32) * q_6) + ((10 : Int32) * q_8)) + q_4) - (a_numberA p1.toNatClampNeg)) p2).bind fun q_32 =>
    fX8_hidden_J201 a_numberA p1 p2 q_4 q_6 q_8 q_10 y1_16 y1_21 y1_24 q_32
def fX8_hidden_J155 (a_numberA : Nat → Int32) (p1 : Int32) (p2 : Int32) (q_4 : Int32) (q_6 : Int32) (q_8 : Int32) (q_10 : Int32) (y1_16 : Int32) (y1_21 : Int32) : Option Int32 :=
  if ((((100 : Int32) * q_8) + ((10 : Int32) * q_4)) + q_6) = (a_numberA p1.toNatClampNeg) then
    fX8_hidden_J178 a_numberA p1 p2 q_4 q_6 q_8 q_10 y1_16 y1_21 (0 : Int32)
  else
    (fX8_isHidden (((((100 : Int32) * q_8) + ((10 : Int32) * q_4)) + q_6) - (a_numberA p1.toNatClampNeg)) p2).bind fun q_35 =>
    fX8_hidden_J178 a_numberA p1 p2 q_4 q_6 q_8 q_10 y1_16 y1_21 q_35
def fX8_hidden_J129 (N : Nat) (a_numberA : Nat → Int32) (a_numberB : Nat → Int32) (p1 : Int32) (p2 : Int32) (q_4 : Int32) (q_6 : Int32) (q_8 : Int32) (q_10 : Int32) (y1_16 : Int32) : Option Int32 :=
  (fX8_carries N a_numberA a_numberB p1).bind fun q_17 =>
  if (q_17 &&& (2 : Int32)) = (2 : Int32) then
    (fX8_isHidden (100 : Int32) p2).bind fun q_38 =>
    fX8_hidden_J155 a_numberA p1 p2 q_4 q_6 q_8 q_10 y1_16 q_38
  else
    fX8_hidden_J155 a_numberA p1 p2 q_4 q_6 q_8 q_10 y1_16 (0 : Int32)
def fX8_hidden_J22 (N : Nat) (a_numberA : Nat → Int32) (a_numberB : Nat → Int32) (p1 : Int32) (p2 : Int32) : Option Int32 :=
  vg p1 12 (
  (fX8_figure N (a_numberA p1.toNatClampNeg) (0 : Int32)).bind fun q_4 =>
  (fX8_figure N (a_numberA p1.toNatClampNeg) (1 : Int32)).bind fun q_6 =>
  (fX8_figure N (a_numberA p1.toNatClampNeg) (2 : Int32)).bind fun q_8 =>
  (fX8_isHidden (10 : Int32) p2).bind fun q_10 =>
  (fX8_carries N a_numberA a_numberB p1).bind fun q_12 =>
  if (q_12 &&& (1 : Int32)) = (1 : Int32) then
    (fX8_isHidden (10 : Int32) p2).bind fun q_41 =>
    fX8_hidden_J129 N a_numberA a_numberB p1 p2 q_4 q_6 q_8 q_10 q_41
  else
    fX8_hidden_J129 N a_numberA a_numberB p1 p2 q_4 q_6 q_8 q_10 (0 : Int32))
def fX8_hidden (N : Nat) (a_books : Nat → Int32) (a_numberA : Nat → Int32) (a_numberB : Nat → Int32) (p1 : Int32) (p2 : Int32) : Option Int32 :=
  if (fX8_isBook a_books p1) = 0 then
    some (-1 : Int32)
  else
    if p2 = (9 : Int32) then
      fX8_hidden_J22 N a_numberA a_numberB p1 p2 
    else
      if p2 = (11 : Int32) then
        fX8_hidden_J22 N a_numberA a_numberB p1 p2 
      else
        some (-1 : Int32)
def fX8_look_J146 (x6_6 : Int32) (w_7 : Int32) (w_8 : Int32) (w_9 : Int32) (k101 : Int32 → Int32 → Int32 → Int32 → Option (Int32 × Int32 × Int32)) (y0_13 : Int32) : Option (Int32 × Int32 × Int32) :=
  k101 (x6_6 + 1) (w_7 + (1 : Int32)) (w_8 &&& y0_13) (w_9 ||| y0_13)
def fX8_look_J124 (p2 : Int32) (x3_1 : Int32) (x4_2 : Int32) (x6_6 : Int32) (w_7 : Int32) (w_8 : Int32) (w_9 : Int32) (k101 : Int32 → Int32 → Int32 → Int32 → Option (Int32 × Int32 × Int32)) (y1_11 : Int32) : Option (Int32 × Int32 × Int32) :=
  if (x3_1 + y1_11) = p2 then
    if 0 ≤ x6_6 then
      fX8_look_J146 x6_6 w_7 w_8 w_9 k101 (x4_2 ||| ((1 : Int32) <<< (x6_6 &&& 31)))
    else
      fX8_look_J146 x6_6 w_7 w_8 w_9 k101 x4_2
  else
    k101 (x6_6 + 1) w_7 w_8 w_9
def fX8_look_L101 (a_books : Nat → Int32) (p2 : Int32) (x3_1 : Int32) (x4_2 : Int32) : Nat → Int32 → Int32 → Int32 → Int32 → Option (Int32 × Int32 × Int32)
  | 0, _, _, _, _ => none
  | n101 + 1, x6_6, w_7, w_8, w_9 =>
    if (a_books (0 : Int32).toNatClampNeg) ≤ x6_6 then
      some (w_7, w_8, w_9)
    else
      if 0 ≤ x6_6 then
        fX8_look_J124 p2 x3_1 x4_2 x6_6 w_7 w_8 w_9 (fun z101_0 z101_1 z101_2 z101_3 => fX8_look_L101 a_books p2 x3_1 x4_2 n101 z101_0 z101_1 z101_2 z101_3) (10 : Int32)
      else
        fX8_look_J124 p2 x3_1 x4_2 x6_6 w_7 w_8 w_9 (fun z101_0 z101_1 z101_2 z101_3 => fX8_look_L101 a_books p2 x3_1 x4_2 n101 z101_0 z101_1 z101_2 z101_3) (0 : Int32)
def fX8_look_L11 (N : Nat) (a_books : Nat → Int32) (a_numberA : Nat → Int32) (a_numberB : Nat → Int32) (v_sets : Int32) (v_inEach : Int32) (v_inSome : Int32) (p2 : Int32) : Nat → Int32 → Int32 → Int32 → Int32 → Option (Int32 × Int32 × Int32)
  | 0, _, _, _, _ => none
  | n11 + 1, x3_1, x4_2, x5_3, x6_4 =>
    if (a_books (0 : Int32).toNatClampNeg) ≤ x6_4 then
      fX8_look_L101 a_books p2 x3_1 x4_2 N (-1 : Int32) v_sets v_inEach v_inSome
    else
      (fX8_carries N a_numberA a_numberB x6_4).bind fun q_16 =>
      if ((x5_3 - x5_3 / (4 : Int32) * (4 : Int32)) &&& (q_16 ^^^ (-1 : Int32))) = 0 then
        (fX8_sum a_numberA a_numberB x6_4).bind fun q_19 =>
        if (x5_3 - x5_3 / (4 : Int32) * (4 : Int32)) = 0 then
          fX8_look_L11 N a_books a_numberA a_numberB v_sets v_inEach v_inSome p2 n11 (x3_1 + ((q_19 - ((10 : Int32) * ((x5_3 - x5_3 / (4 : Int32) * (4 : Int32)) &&& (1 : Int32)))) - ((100 : Int32) * ((x5_3 - x5_3 / (4 : Int32) * (4 : Int32)) >>> ((1 : Int32) &&& 31))))) (x4_2 ||| (0 : Int32)) (x5_3 / (4 : Int32)) (x6_4 + 1)
        else
          fX8_look_L11 N a_books a_numberA a_numberB v_sets v_inEach v_inSome p2 n11 (x3_1 + ((q_19 - ((10 : Int32) * ((x5_3 - x5_3 / (4 : Int32) * (4 : Int32)) &&& (1 : Int32)))) - ((100 : Int32) * ((x5_3 - x5_3 / (4 : Int32) * (4 : Int32)) >>> ((1 : Int32) &&& 31))))) (x4_2 ||| ((1 : Int32) <<< (x6_4 &&& 31))) (x5_3 / (4 : Int32)) (x6_4 + 1)
      else
        some (v_sets, v_inEach, v_inSome)
def fX8_look (N : Nat) (a_books : Nat → Int32) (a_numberA : Nat → Int32) (a_numberB : Nat → Int32) (v_sets : Int32) (v_inEach : Int32) (v_inSome : Int32) (p1 : Int32) (p2 : Int32) : Option (Int32 × Int32 × Int32) :=
  fX8_look_L11 N a_books a_numberA a_numberB v_sets v_inEach v_inSome p2 N (0 : Int32) (0 : Int32) p1 (0 : Int32)
def fX8_why_L43 (N : Nat) (a_books : Nat → Int32) (a_numberA : Nat → Int32) (a_numberB : Nat → Int32) (p1 : Int32) (q_3 : Int32) : Nat → Int32 → Int32 → Int32 → Int32 → Option (Int32 × Int32 × Int32 × Int32)
  | 0, _, _, _, _ => none
  | n43 + 1, x3_5, w_6, w_7, w_8 =>
    if ((1 : Int32) <<< (((2 : Int32) * (a_books (0 : Int32).toNatClampNeg)) &&& 31)) ≤ x3_5 then
      if p1 = 0 then
        some (w_6, w_6, w_7, w_8)
      else
        if p1 = (1 : Int32) then
          some (w_7, w_6, w_7, w_8)
        else
          some (w_8, w_6, w_7, w_8)
    else
      (fX8_look N a_books a_numberA a_numberB w_6 w_7 w_8 x3_5 q_3).bind fun q_12 =>
      fX8_why_L43 N a_books a_numberA a_numberB p1 q_3 n43 (x3_5 + 1) q_12.1 q_12.2.1 q_12.2.2
def fX8_why (N : Nat) (a_books : Nat → Int32) (a_numberA : Nat → Int32) (a_numberB : Nat → Int32) (a_now : Nat → Int32) (v_sets : Int32) (v_inEach : Int32) (v_inSome : Int32) (p1 : Int32) : Option (Int32 × Int32 × Int32 × Int32) :=
  if (fX8_in p1 (0 : Int32) (2 : Int32)) = 0 then
    some ((-1 : Int32), v_sets, v_inEach, v_inSome)
  else
    (fX8_now N a_books a_numberA a_numberB a_now (2 : Int32)).bind fun q_3 =>
    fX8_why_L43 N a_books a_numberA a_numberB p1 q_3 N (0 : Int32) (0 : Int32) (((1 : Int32) <<< ((a_books (0 : Int32).toNatClampNeg) &&& 31)) - (1 : Int32)) (0 : Int32)
def fX8_proofs_L16 (p1 : Int32) : Nat → Int32 → Int32 → Option Int32
  | 0, _, _ => none
  | n16 + 1, x2_3, x3_4 =>
    if p1 ≤ x3_4 then
      some x2_3
    else
      fX8_proofs_L16 p1 n16 (x2_3 + 1) (x3_4 * (2 : Int32))
def fX8_proofs (N : Nat) (p1 : Int32) : Option Int32 :=
  if (fX8_in p1 (0 : Int32) (99 : Int32)) = 0 then
    some (-1 : Int32)
  else
    fX8_proofs_L16 p1 N (0 : Int32) (1 : Int32)
def fX8_mark (N : Nat) (a_books : Nat → Int32) (a_numberA : Nat → Int32) (a_numberB : Nat → Int32) (a_now : Nat → Int32) (v_trace : Int64) (p1 : Int32) (p2 : Int32) : Option (Int32 × Int64) :=
  if (fX8_in p1 (0 : Int32) (5 : Int32)) = 0 then
    some ((-1000000 : Int32), v_trace)
  else
    if (fX8_isBook a_books p2) = 0 then
      some ((-1000000 : Int32), v_trace)
    else
      (fX8_shown a_numberA a_numberB a_now p2).bind fun q_5 =>
      if p1 = (0 : Int32) then
        some (q_5, (v_trace + (1 : Int64)))
      else
        if p1 = (1 : Int32) then
          vlet (v_trace + lc_11) fun t_9 =>
          (fX8_tens N q_5).bind fun q_10 =>
          some ((q_5 + q_10), t_9)
        else
          if p1 = (2 : Int32) then
            vlet (v_trace + lc_101) fun t_13 =>
            (fX8_sum a_numberA a_numberB p2).bind fun q_14 =>
            some ((q_5 - q_14), t_13)
          else
            if p1 = (3 : Int32) then
              vlet (v_trace + lc_1011) fun t_17 =>
              (fX8_tens N q_5).bind fun q_18 =>
              some (((2 : Int32) * (q_5 + q_18)), t_17)
            else
              if p1 = (4 : Int32) then
                vlet (v_trace + lc_10101) fun t_21 =>
                (fX8_sum a_numberA a_numberB p2).bind fun q_22 =>
                vg ((6 : Int32) + p2) 498 (
                (fX8_manyOf N (a_now ((6 : Int32) + p2).toNatClampNeg)).bind fun q_25 =>
                some (((q_5 - q_22) + q_25), t_21))
              else
                vlet (v_trace + lc_100001) fun t_28 =>
                some ((q_5 + (a_now (14 : Int32).toNatClampNeg)), t_28)
def fX8_keep_L13 (a_isKept : Nat → Int32) (p1 : Int32) : Nat → Int32 → (Nat → Int32) → Option (Int32 × (Nat → Int32) × (Nat → Int32))
  | 0, _, _ => none
  | n13 + 1, x2_3, w_4 =>
    if (166 : Int32) ≤ x2_3 then
      vg p1 2 (
      some ((w_4 (14 : Int32).toNatClampNeg), w_4, (upd a_isKept p1.toNatClampNeg (vp_nar .boolean (1 : Int32)))))
    else
      vg x2_3 498 (
      vg (((166 : Int32) * ((1 : Int32) + p1)) + x2_3) 498 (
      fX8_keep_L13 a_isKept p1 n13 (x2_3 + 1) (upd w_4 (((166 : Int32) * ((1 : Int32) + p1)) + x2_3).toNatClampNeg (w_4 x2_3.toNatClampNeg))))
def fX8_keep (N : Nat) (a_now : Nat → Int32) (a_isKept : Nat → Int32) (p1 : Int32) : Option (Int32 × (Nat → Int32) × (Nat → Int32)) :=
  if (fX8_in p1 (0 : Int32) (1 : Int32)) = 0 then
    some ((-1 : Int32), a_now, a_isKept)
  else
    fX8_keep_L13 a_isKept p1 N (0 : Int32) a_now
def fX8_back_L25 (p1 : Int32) : Nat → Int32 → (Nat → Int32) → Option (Int32 × (Nat → Int32))
  | 0, _, _ => none
  | n25 + 1, x2_5, w_6 =>
    if (166 : Int32) ≤ x2_5 then
      some ((w_6 (14 : Int32).toNatClampNeg), w_6)
    else
      vg (((166 : Int32) * ((1 : Int32) + p1)) + x2_5) 498 (
      vg x2_5 498 (
      fX8_back_L25 p1 n25 (x2_5 + 1) (upd w_6 x2_5.toNatClampNeg (w_6 (((166 : Int32) * ((1 : Int32) + p1)) + x2_5).toNatClampNeg))))
def fX8_back (N : Nat) (a_now : Nat → Int32) (a_isKept : Nat → Int32) (p1 : Int32) : Option (Int32 × (Nat → Int32)) :=
  if (fX8_in p1 (0 : Int32) (1 : Int32)) = 0 then
    some ((-1 : Int32), a_now)
  else
    vg p1 2 (
    if (a_isKept p1.toNatClampNeg) = 0 then
      some ((-2 : Int32), a_now)
    else
      fX8_back_L25 p1 N (0 : Int32) a_now)
def fX8_count (N : Nat) (a_books : Nat → Int32) (a_now : Nat → Int32) (v_typed : Int32) (v_seen : Int32) (p1 : Int32) : Option Int32 :=
  if p1 = (0 : Int32) then
    some (a_books (0 : Int32).toNatClampNeg)
  else
    if p1 = (1 : Int32) then
      (fX8_manyOf N (a_now (12 : Int32).toNatClampNeg)).bind fun q_3 =>
      some q_3
    else
      if p1 = (2 : Int32) then
        some v_seen
      else
        if p1 = (3 : Int32) then
          some (a_now (15 : Int32).toNatClampNeg)
        else
          if p1 = (4 : Int32) then
            some v_typed
          else
            some (-1 : Int32)
def fX8_trace (v_trace : Int64) : Int64 :=
  v_trace
def fX7_keepA (v_now_forgotten : Int32) (v_now_touches : Int32) (v_now_trapped : Int32) (v_now_one : Int32) (v_now_date : Int32) (a_history_steps : Nat → Int64) (v_history_known : Int32) (a_firstImage_history_steps : Nat → Int64) (v_firstImage_history_known : Int32) (v_firstImage_packed : Int64) (v_firstImage_kept : Int32) (p1 : Int32) : (Int32 × (Nat → Int64) × Int32 × Int64 × Int32) :=
  if (fX7_within p1 (0 : Int32) (1 : Int32)) = 0 then
    ((-1 : Int32), a_firstImage_history_steps, v_firstImage_history_known, v_firstImage_packed, v_firstImage_kept)
  else
    (v_now_date, (fX2_fill a_firstImage_history_steps v_firstImage_history_known v_firstImage_packed v_firstImage_kept v_now_forgotten v_now_touches v_now_trapped v_now_one v_now_date a_history_steps v_history_known).1, (fX2_fill a_firstImage_history_steps v_firstImage_history_known v_firstImage_packed v_firstImage_kept v_now_forgotten v_now_touches v_now_trapped v_now_one v_now_date a_history_steps v_history_known).2.1, (fX2_fill a_firstImage_history_steps v_firstImage_history_known v_firstImage_packed v_firstImage_kept v_now_forgotten v_now_touches v_now_trapped v_now_one v_now_date a_history_steps v_history_known).2.2.1, (fX2_fill a_firstImage_history_steps v_firstImage_history_known v_firstImage_packed v_firstImage_kept v_now_forgotten v_now_touches v_now_trapped v_now_one v_now_date a_history_steps v_history_known).2.2.2)
def fX7_keepB (v_now_forgotten : Int32) (v_now_touches : Int32) (v_now_trapped : Int32) (v_now_one : Int32) (v_now_date : Int32) (a_history_steps : Nat → Int64) (v_history_known : Int32) (a_secondImage_history_steps : Nat → Int64) (v_secondImage_history_known : Int32) (v_secondImage_packed : Int64) (v_secondImage_kept : Int32) (p1 : Int32) : (Int32 × (Nat → Int64) × Int32 × Int64 × Int32) :=
  if (fX7_within p1 (0 : Int32) (1 : Int32)) = 0 then
    ((-1 : Int32), a_secondImage_history_steps, v_secondImage_history_known, v_secondImage_packed, v_secondImage_kept)
  else
    (v_now_date, (fX2_fill a_secondImage_history_steps v_secondImage_history_known v_secondImage_packed v_secondImage_kept v_now_forgotten v_now_touches v_now_trapped v_now_one v_now_date a_history_steps v_history_known).1, (fX2_fill a_secondImage_history_steps v_secondImage_history_known v_secondImage_packed v_secondImage_kept v_now_forgotten v_now_touches v_now_trapped v_now_one v_now_date a_history_steps v_history_known).2.1, (fX2_fill a_secondImage_history_steps v_secondImage_history_known v_secondImage_packed v_secondImage_kept v_now_forgotten v_now_touches v_now_trapped v_now_one v_now_date a_history_steps v_history_known).2.2.1, (fX2_fill a_secondImage_history_steps v_secondImage_history_known v_secondImage_packed v_secondImage_kept v_now_forgotten v_now_touches v_now_trapped v_now_one v_now_date a_history_steps v_history_known).2.2.2)
def fX7_backA (v_now_forgotten : Int32) (v_now_touches : Int32) (v_now_trapped : Int32) (v_now_one : Int32) (v_now_date : Int32) (a_history_steps : Nat → Int64) (v_history_known : Int32) (a_firstImage_history_steps : Nat → Int64) (v_firstImage_history_known : Int32) (v_firstImage_packed : Int64) (v_firstImage_kept : Int32) (p1 : Int32) : (Int32 × Int32 × Int32 × Int32 × Int32 × Int32 × (Nat → Int64) × Int32) :=
  if (fX7_within p1 (0 : Int32) (1 : Int32)) = 0 then
    ((-1 : Int32), v_now_forgotten, v_now_touches, v_now_trapped, v_now_one, v_now_date, a_history_steps, v_history_known)
  else
    if v_firstImage_kept = 0 then
      ((-2 : Int32), v_now_forgotten, v_now_touches, v_now_trapped, v_now_one, v_now_date, a_history_steps, v_history_known)
    else
      ((fX2_restore a_firstImage_history_steps v_firstImage_history_known v_firstImage_packed v_now_forgotten v_now_touches v_now_trapped v_now_one v_now_date a_history_steps v_history_known).2.2.2.2.1, (fX2_restore a_firstImage_history_steps v_firstImage_history_known v_firstImage_packed v_now_forgotten v_now_touches v_now_trapped v_now_one v_now_date a_history_steps v_history_known).1, (fX2_restore a_firstImage_history_steps v_firstImage_history_known v_firstImage_packed v_now_forgotten v_now_touches v_now_trapped v_now_one v_now_date a_history_steps v_history_known).2.1, (fX2_restore a_firstImage_history_steps v_firstImage_history_known v_firstImage_packed v_now_forgotten v_now_touches v_now_trapped v_now_one v_now_date a_history_steps v_history_known).2.2.1, (fX2_restore a_firstImage_history_steps v_firstImage_history_known v_firstImage_packed v_now_forgotten v_now_touches v_now_trapped v_now_one v_now_date a_history_steps v_history_known).2.2.2.1, (fX2_restore a_firstImage_history_steps v_firstImage_history_known v_firstImage_packed v_now_forgotten v_now_touches v_now_trapped v_now_one v_now_date a_history_steps v_history_known).2.2.2.2.1, (fX2_restore a_firstImage_history_steps v_firstImage_history_known v_firstImage_packed v_now_forgotten v_now_touches v_now_trapped v_now_one v_now_date a_history_steps v_history_known).2.2.2.2.2.1, (fX2_restore a_firstImage_history_steps v_firstImage_history_known v_firstImage_packed v_now_forgotten v_now_touches v_now_trapped v_now_one v_now_date a_history_steps v_history_known).2.2.2.2.2.2)
def fX7_backB (v_now_forgotten : Int32) (v_now_touches : Int32) (v_now_trapped : Int32) (v_now_one : Int32) (v_now_date : Int32) (a_history_steps : Nat → Int64) (v_history_known : Int32) (a_secondImage_history_steps : Nat → Int64) (v_secondImage_history_known : Int32) (v_secondImage_packed : Int64) (v_secondImage_kept : Int32) (p1 : Int32) : (Int32 × Int32 × Int32 × Int32 × Int32 × Int32 × (Nat → Int64) × Int32) :=
  if (fX7_within p1 (0 : Int32) (1 : Int32)) = 0 then
    ((-1 : Int32), v_now_forgotten, v_now_touches, v_now_trapped, v_now_one, v_now_date, a_history_steps, v_history_known)
  else
    if v_secondImage_kept = 0 then
      ((-2 : Int32), v_now_forgotten, v_now_touches, v_now_trapped, v_now_one, v_now_date, a_history_steps, v_history_known)
    else
      ((fX2_restore a_secondImage_history_steps v_secondImage_history_known v_secondImage_packed v_now_forgotten v_now_touches v_now_trapped v_now_one v_now_date a_history_steps v_history_known).2.2.2.2.1, (fX2_restore a_secondImage_history_steps v_secondImage_history_known v_secondImage_packed v_now_forgotten v_now_touches v_now_trapped v_now_one v_now_date a_history_steps v_history_known).1, (fX2_restore a_secondImage_history_steps v_secondImage_history_known v_secondImage_packed v_now_forgotten v_now_touches v_now_trapped v_now_one v_now_date a_history_steps v_history_known).2.1, (fX2_restore a_secondImage_history_steps v_secondImage_history_known v_secondImage_packed v_now_forgotten v_now_touches v_now_trapped v_now_one v_now_date a_history_steps v_history_known).2.2.1, (fX2_restore a_secondImage_history_steps v_secondImage_history_known v_secondImage_packed v_now_forgotten v_now_touches v_now_trapped v_now_one v_now_date a_history_steps v_history_known).2.2.2.1, (fX2_restore a_secondImage_history_steps v_secondImage_history_known v_secondImage_packed v_now_forgotten v_now_touches v_now_trapped v_now_one v_now_date a_history_steps v_history_known).2.2.2.2.1, (fX2_restore a_secondImage_history_steps v_secondImage_history_known v_secondImage_packed v_now_forgotten v_now_touches v_now_trapped v_now_one v_now_date a_history_steps v_history_known).2.2.2.2.2.1, (fX2_restore a_secondImage_history_steps v_secondImage_history_known v_secondImage_packed v_now_forgotten v_now_touches v_now_trapped v_now_one v_now_date a_history_steps v_history_known).2.2.2.2.2.2)
