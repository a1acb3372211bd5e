def f_X11_within (w : qW) (a1 : Int64) (a2 : Int64) (a3 : Int64) : Option (Int32 × qW) :=
  if (lg_cmp a1 a2) < 0 then (some (0 &&& 1, w)) else (if 0 < (lg_cmp a1 a3) then (some (0 &&& 1, w)) else (some (1 &&& 1, w)))
def f_X11_isIn (w : qW) (a1 : Int32) (a2 : Int32) : Option (Int32 × qW) :=
  if ((a1 >>> (a2 &&& 31)) &&& 1) = 1 then (some (1 &&& 1, w)) else (some (0 &&& 1, w))
def f_X11_bitsOf_B4 (k4 : qW → Int32 → Int32 → Int32 → Option (Int32 × qW)) (w : qW) (l0 : Int32) (l1 : Int32) (l2 : Int32) : Option (Int32 × qW) :=
  if 12 ≤ l2 then (some (l1, w)) else (q_bn (l1 + ((l0 >>> (l2 &&& 31)) &&& 1) : Int32) (fun v1 => q_bn (l2 + 1 : Int32) (fun v2 => k4 w l0 v1 v2)))
def f_X11_bitsOf_R4 : Nat → qW → Int32 → Int32 → Int32 → Option (Int32 × qW)
  | 0, _, _, _, _ => none
  | n + 1, w, l0, l1, l2 => f_X11_bitsOf_B4 (f_X11_bitsOf_R4 n) w l0 l1 l2
def f_X11_bitsOf (w : qW) (a1 : Int32) : Option (Int32 × qW) :=
  f_X11_bitsOf_R4  q_fuel w a1 0 0
def f_X11_becomes_B97 (w : qW) (l1 : Int32) (l2 : Int32) (l3 : Int32) : Option (Int32 × qW) :=
  q_st w 50 40 (q_I w 48 5) l1 (fun w1 => q_st w1 51 40 (q_I w1 48 5) l3 (fun w2 => q_st w2 52 40 (q_I w2 48 5) l2 (fun w3 => q_bn (q_sI w3 48 5 ((q_I w3 48 5) + 1)) (fun w4 => q_bn (q_sI w4 48 4 (q_I w4 48 5)) (fun w5 => q_st w5 49 57 l1 l2 (fun w6 => some (l3, w6)))))))
def f_X11_becomes_B26 (k26 : qW → Int32 → Int32 → Int32 → Int32 → Option (Int32 × qW)) (w : qW) (l1 : Int32) (l2 : Int32) (l3 : Int32) (l4 : Int32) : Option (Int32 × qW) :=
  if 40 ≤ l4 then (q_bn (q_sI w 48 5 ((q_I w 48 5) - 1)) (fun w1 => f_X11_becomes_B97 w1 l1 l2 l3)) else (q_ld (q_A w 50) 40 l4 (fun v2 => q_st w 50 40 (l4 - 1) v2 (fun w3 => q_ld (q_A w3 51) 40 l4 (fun v4 => q_st w3 51 40 (l4 - 1) v4 (fun w5 => q_ld (q_A w5 52) 40 l4 (fun v6 => q_st w5 52 40 (l4 - 1) v6 (fun w7 => q_bn (l4 + 1 : Int32) (fun v8 => k26 w7 l1 l2 l3 v8))))))))
def f_X11_becomes_R26 : Nat → qW → Int32 → Int32 → Int32 → Int32 → Option (Int32 × qW)
  | 0, _, _, _, _, _ => none
  | n + 1, w, l1, l2, l3, l4 => f_X11_becomes_B26 (f_X11_becomes_R26 n) w l1 l2 l3 l4
def f_X11_becomes (w : qW) (a1 : Int32) (a2 : Int32) : Option (Int32 × qW) :=
  q_ld (q_A w 49) 57 a1 (fun v1 => if v1 = a2 then (some (v1, w)) else (if (q_I w 48 5) = 40 then (f_X11_becomes_R26  q_fuel w a1 a2 v1 1) else (f_X11_becomes_B97 w a1 a2 v1)))
def f_X11_undo (w : qW) : Option (Int32 × qW) :=
  if (q_I w 48 5) = 0 then (some ((-5), w)) else (q_bn (q_sI w 48 5 ((q_I w 48 5) - 1)) (fun w1 => q_ld (q_A w1 50) 40 (q_I w1 48 5) (fun v2 => q_ld (q_A w1 51) 40 (q_I w1 48 5) (fun v3 => q_st w1 49 57 v2 v3 (fun w4 => some (q_I w4 48 5, w4))))))
def f_X11_redo (w : qW) : Option (Int32 × qW) :=
  if (q_I w 48 5) = (q_I w 48 4) then (some ((-5), w)) else (q_ld (q_A w 50) 40 (q_I w 48 5) (fun v1 => q_ld (q_A w 52) 40 (q_I w 48 5) (fun v2 => q_st w 49 57 v1 v2 (fun w3 => q_bn (q_sI w3 48 5 ((q_I w3 48 5) + 1)) (fun w4 => some ((q_I w4 48 4) - (q_I w4 48 5), w4))))))
def f_X11_isMan (w : qW) (a1 : Int64) : Option (Int32 × qW) :=
  q_cl (f_X11_within w a1 0 (Int32.toInt64 ((q_I w 48 6) - 1))) (fun r1 w2 => some (r1 &&& 1, w2))
def f_X11_isSitter (w : qW) (a1 : Int64) : Option (Int32 × qW) :=
  q_cl (f_X11_within w a1 0 (Int32.toInt64 ((q_I w 48 7) - 1))) (fun r1 w2 => some (r1 &&& 1, w2))
def f_X11_isCell (w : qW) (a1 : Int64) : Option (Int32 × qW) :=
  q_cl (f_X11_within w a1 0 143) (fun r1 w2 => some (r1 &&& 1, w2))
def f_X11_isHour (w : qW) (a1 : Int64) : Option (Int32 × qW) :=
  q_cl (f_X11_within w a1 0 11) (fun r1 w2 => some (r1 &&& 1, w2))
def f_X11_man (w : qW) (a1 : Int32) (a2 : Int32) : Option (Int32 × qW) :=
  q_cl (f_X11_isCell w (Int32.toInt64 a1)) (fun r1 w2 => if r1 = 0 then (some ((-1), w2)) else (q_cl (f_X11_within w2 (Int32.toInt64 a2) 0 2) (fun r3 w4 => if r3 = 0 then (some ((-1), w4)) else (if (q_I w4 48 6) = 7 then (some ((-3), w4)) else (q_st w4 49 57 (q_I w4 48 6) a1 (fun w5 => q_st w5 49 57 ((8 : Int32) + (q_I w5 48 6)) a2 (fun w6 => q_st w6 49 57 ((16 : Int32) + (q_I w6 48 6)) 1 (fun w7 => q_st w7 49 57 ((24 : Int32) + (q_I w7 48 6)) 10 (fun w8 => q_bn (q_sI w8 48 6 ((q_I w8 48 6) + 1)) (fun w9 => some ((q_I w9 48 6) - 1, w9)))))))))))
def f_X11_mayCome (w : qW) (a1 : Int64) (a2 : Int64) (a3 : Int64) : Option (Int32 × qW) :=
  q_cl (f_X11_isCell w a1) (fun r1 w2 => if r1 = 0 then (some (0 &&& 1, w2)) else (q_cl (f_X11_within w2 a2 0 4095) (fun r3 w4 => if r3 = 0 then (some (0 &&& 1, w4)) else (q_cl (f_X11_within w4 a3 1 12) (fun r5 w6 => if r5 = 0 then (some (0 &&& 1, w6)) else (some (1 &&& 1, w6)))))))
def f_X11_adds (w : qW) (a1 : Int32) (a2 : Int32) (a3 : Int32) : Option (Unit × qW) :=
  q_st w 49 57 ((32 : Int32) + (q_I w 48 7)) a1 (fun w1 => q_st w1 49 57 ((40 : Int32) + (q_I w1 48 7)) a2 (fun w2 => q_st w2 49 57 ((48 : Int32) + (q_I w2 48 7)) a3 (fun w3 => q_bn (q_sI w3 48 7 ((q_I w3 48 7) + 1)) (fun w4 => some ((), w4)))))
def f_X11_sitter (w : qW) (a1 : Int32) (a2 : Int32) : Option (Int32 × qW) :=
  q_cl (f_X11_mayCome w (Int32.toInt64 a1) (Int32.toInt64 a2) 6) (fun r1 w2 => if r1 = 0 then (some ((-1), w2)) else (if (q_I w2 48 7) = 8 then (some ((-3), w2)) else (q_cl (f_X11_adds w2 a1 a2 6) (fun _ w4 => some ((q_I w4 48 7) - 1, w4)))))
def f_X11_isShelf (w : qW) (a1 : Int32) : Option (Int32 × qW) :=
  q_cl (f_X11_within w (Int32.toInt64 a1) 0 5) (fun r1 w2 => some (r1 &&& 1, w2))
def f_X11_sitters_B209 (k69 : qW → Int32 → Int32 → Int32 → Int32 → Int32 → Option (Int32 × qW)) (w : qW) (l1 : Int32) (l2 : Int32) (l3 : Int32) (l4 : Int32) (l5 : Int32) : Option (Int32 × qW) :=
  k69 w l1 l2 l3 l4 l5
def f_X11_sitters_B167 (k69 : qW → Int32 → Int32 → Int32 → Int32 → Int32 → Option (Int32 × qW)) (w : qW) (l1 : Int32) (l2 : Int32) (l3 : Int32) (l4 : Int32) (l6 : Int32) (s0 : Int32) : Option (Int32 × qW) :=
  if s0 = 0 then (f_X11_sitters_B209 k69 w l1 l2 l3 l4 s0) else (q_ld (q_G w 65) 360 l6 (fun v1 => q_ld (q_G w 65) 360 (l6 + 1) (fun v2 => q_ld (q_G w 65) 360 (l6 + 2) (fun v3 => q_cl (f_X11_adds w (Int64.toInt32 v1) (Int64.toInt32 v2) (Int64.toInt32 v3)) (fun _ w5 => q_bn (l4 + 1 : Int32) (fun v6 => f_X11_sitters_B209 k69 w5 l1 l2 l3 v6 s0))))))
def f_X11_sitters_B166 (k69 : qW → Int32 → Int32 → Int32 → Int32 → Int32 → Option (Int32 × qW)) (w : qW) (l1 : Int32) (l2 : Int32) (l3 : Int32) (l4 : Int32) (l6 : Int32) : Option (Int32 × qW) :=
  f_X11_sitters_B167 k69 w l1 l2 l3 l4 l6 0
def f_X11_sitters_B111 (k69 : qW → Int32 → Int32 → Int32 → Int32 → Int32 → Option (Int32 × qW)) (w : qW) (l1 : Int32) (l2 : Int32) (l3 : Int32) (l4 : Int32) (s0 : Int32) : Option (Int32 × qW) :=
  q_bn ((((60 : Int32) * l1) + l2) + ((3 : Int32) * l4) : Int32) (fun v1 => if s0 = 0 then (f_X11_sitters_B166 k69 w l1 l2 l3 l4 v1) else (q_ld (q_G w 65) 360 v1 (fun v2 => q_ld (q_G w 65) 360 (v1 + 1) (fun v3 => q_ld (q_G w 65) 360 (v1 + 2) (fun v4 => q_cl (f_X11_mayCome w v2 v3 v4) (fun r5 w6 => if r5 = 0 then (f_X11_sitters_B166 k69 w6 l1 l2 l3 l4 v1) else (f_X11_sitters_B167 k69 w6 l1 l2 l3 l4 v1 1)))))))
def f_X11_sitters_B110 (k69 : qW → Int32 → Int32 → Int32 → Int32 → Int32 → Option (Int32 × qW)) (w : qW) (l1 : Int32) (l2 : Int32) (l3 : Int32) (l4 : Int32) : Option (Int32 × qW) :=
  f_X11_sitters_B111 k69 w l1 l2 l3 l4 0
def f_X11_sitters_B69 (k69 : qW → Int32 → Int32 → Int32 → Int32 → Int32 → Option (Int32 × qW)) (w : qW) (l1 : Int32) (l2 : Int32) (l3 : Int32) (l4 : Int32) (l5 : Int32) : Option (Int32 × qW) :=
  if l5 = 0 then (some (l4, w)) else (if l3 ≤ l4 then (some (l4, w)) else (q_ld (q_A w 64) 6 l1 (fun v1 => if ((v1 - 3) - ((3 : Int32) * l4)) < l2 then (f_X11_sitters_B110 k69 w l1 l2 l3 l4) else (if 8 ≤ (q_I w 48 7) then (f_X11_sitters_B110 k69 w l1 l2 l3 l4) else (f_X11_sitters_B111 k69 w l1 l2 l3 l4 1)))))
def f_X11_sitters_R69 : Nat → qW → Int32 → Int32 → Int32 → Int32 → Int32 → Option (Int32 × qW)
  | 0, _, _, _, _, _, _ => none
  | n + 1, w, l1, l2, l3, l4, l5 => f_X11_sitters_B69 (f_X11_sitters_R69 n) w l1 l2 l3 l4 l5
def f_X11_sitters_B67 (w : qW) (l1 : Int32) (l2 : Int32) (l3 : Int32) (l4 : Int32) (s0 : Int32) : Option (Int32 × qW) :=
  f_X11_sitters_R69  q_fuel w l1 l2 l3 l4 s0
def f_X11_sitters_B66 (w : qW) (l1 : Int32) (l2 : Int32) (l3 : Int32) (l4 : Int32) : Option (Int32 × qW) :=
  f_X11_sitters_B67 w l1 l2 l3 l4 0
def f_X11_sitters_B44 (w : qW) (l1 : Int32) (l2 : Int32) (l3 : Int32) : Option (Int32 × qW) :=
  q_ld (q_A w 63) 6 l1 (fun v1 => if v1 = 51 then (if l2 < 0 then (f_X11_sitters_B66 w l1 l2 l3 0) else (f_X11_sitters_B67 w l1 l2 l3 0 1)) else (f_X11_sitters_B66 w l1 l2 l3 0))
def f_X11_sitters (w : qW) (a1 : Int32) (a2 : Int32) (a3 : Int32) : Option (Int32 × qW) :=
  q_cl (f_X11_isShelf w a1) (fun r1 w2 => if r1 = 0 then (some ((-1), w2)) else (q_cl (f_X11_within w2 (Int32.toInt64 a3) 1 8) (fun r3 w4 => if r3 = 0 then (some ((-1), w4)) else (q_ld (q_A w4 63) 6 a1 (fun v5 => if v5 < 0 then (f_X11_sitters_B44 w4 a1 a2 a3) else (q_ld (q_A w4 63) 6 a1 (fun v6 => if v6 = 51 then (f_X11_sitters_B44 w4 a1 a2 a3) else (some ((-12), w4)))))))))
def f_X11_placeOf (w : qW) (a1 : Int32) (a2 : Int32) : Option (Int32 × qW) :=
  q_cl (f_X11_within w (Int32.toInt64 a2) 0 3) (fun r1 w2 => if r1 = 0 then (q_cl (f_X11_within w2 (Int32.toInt64 a2) 4 6) (fun r3 w4 => if r3 = 0 then (if a2 = 7 then (if a1 = 0 then (some (56, w4)) else (some ((-1), w4))) else (some ((-1), w4))) else (q_cl (f_X11_isSitter w4 (Int32.toInt64 a1)) (fun r5 w6 => if r5 = 0 then (some ((-1), w6)) else (some (((32 : Int32) + ((8 : Int32) * (a2 - 4))) + a1, w6)))))) else (q_cl (f_X11_isMan w2 (Int32.toInt64 a1)) (fun r7 w8 => if r7 = 0 then (some ((-1), w8)) else (some (((8 : Int32) * a2) + a1, w8)))))
def f_X11_mayBecome (w : qW) (a1 : Int32) (a2 : Int32) : Option (Int32 × qW) :=
  if a1 = 0 then (q_cl (f_X11_isCell w (Int32.toInt64 a2)) (fun r1 w2 => some (r1 &&& 1, w2))) else (if a1 = 1 then (q_cl (f_X11_within w (Int32.toInt64 a2) 0 2) (fun r4 w5 => some (r4 &&& 1, w5))) else (if a1 = 2 then (q_cl (f_X11_within w (Int32.toInt64 a2) 0 4) (fun r7 w8 => some (r7 &&& 1, w8))) else (if a1 = 3 then (q_cl (f_X11_within w (Int32.toInt64 a2) 0 99) (fun r10 w11 => some (r10 &&& 1, w11))) else (if a1 = 4 then (q_cl (f_X11_isCell w (Int32.toInt64 a2)) (fun r13 w14 => some (r13 &&& 1, w14))) else (if a1 = 5 then (q_cl (f_X11_within w (Int32.toInt64 a2) 0 4095) (fun r16 w17 => some (r16 &&& 1, w17))) else (if a1 = 6 then (q_cl (f_X11_within w (Int32.toInt64 a2) 1 12) (fun r19 w20 => some (r19 &&& 1, w20))) else (q_cl (f_X11_within w (Int32.toInt64 a2) 0 9) (fun r22 w23 => some (r22 &&& 1, w23)))))))))
def f_X11_mend (w : qW) (a1 : Int32) (a2 : Int32) (a3 : Int32) : Option (Int32 × qW) :=
  q_cl (f_X11_placeOf w a1 a2) (fun r1 w2 => if r1 < 0 then (some ((-1), w2)) else (q_cl (f_X11_mayBecome w2 a2 a3) (fun r3 w4 => if r3 = 0 then (some ((-1), w4)) else (q_cl (f_X11_becomes w4 r1 a3) (fun r5 w6 => some (r5, w6))))))
def f_X11_of (w : qW) (a1 : Int32) (a2 : Int32) : Option (Int32 × qW) :=
  q_cl (f_X11_placeOf w a1 a2) (fun r1 w2 => if r1 < 0 then (some ((-1), w2)) else (q_ld (q_A w2 49) 57 r1 (fun v3 => some (v3, w2))))
def f_X11_feed (w : qW) (a1 : Int32) : Option (Int32 × qW) :=
  q_cl (f_X11_within w (Int32.toInt64 a1) 0 255) (fun r1 w2 => if r1 = 0 then (some ((-1), w2)) else (if (q_I w2 48 9) = 120 then (some ((-3), w2)) else (q_st w2 53 120 (q_I w2 48 9) a1 (fun w3 => q_bn (q_sI w3 48 9 ((q_I w3 48 9) + 1)) (fun w4 => some (q_I w4 48 9, w4))))))
def f_X11_byteAt (w : qW) : Option (Int32 × qW) :=
  if (q_I w 48 14) ≤ (q_I w 48 13) then (some (0, w)) else (if 0 ≤ (q_I w 48 12) then (q_ld (q_A w 54) 120 ((q_I w 48 12) + (q_I w 48 13)) (fun v1 => some (v1, w))) else (q_ld (q_A w 53) 120 (q_I w 48 13) (fun v2 => some (v2, w))))
def f_X11_wrong (w : qW) : Option (Int32 × qW) :=
  if 0 ≤ (q_I w 48 15) then (q_bn (q_sI w 48 15 (q_I w 48 15)) (fun w1 => some (0, w1))) else (q_bn (q_sI w 48 15 (q_I w 48 13)) (fun w2 => some (0, w2)))
def f_X11_takes (w : qW) (a1 : Int32) : Option (Int32 × qW) :=
  if 0 ≤ (q_I w 48 15) then (some (0 &&& 1, w)) else (q_cl (f_X11_byteAt w ) (fun r1 w2 => if r1 = a1 then (q_bn (q_sI w2 48 13 ((q_I w2 48 13) + 1)) (fun w3 => some (1 &&& 1, w3))) else (some (0 &&& 1, w2))))
def f_X11_nameOf (w : qW) (a1 : Int32) : Option (Int32 × qW) :=
  if a1 = 97 then (some (2, w)) else (if a1 = 98 then (some (3, w)) else (if a1 = 104 then (some (4, w)) else (if a1 = 107 then (some (0, w)) else (if a1 = 109 then (some (5, w)) else (if a1 = 115 then (some (1, w)) else (some ((-1), w)))))))
def f_X11_either_B32 (r_X11_either : qW → Option (Int32 × qW)) (r_X11_both : qW → Option (Int32 × qW)) (r_X11_compared : qW → Option (Int32 × qW)) (r_X11_sums : qW → Option (Int32 × qW)) (r_X11_product : qW → Option (Int32 × qW)) (r_X11_one : qW → Option (Int32 × qW)) (k5 : qW → Int32 → Option (Int32 × qW)) (w : qW) (s0 : Int32) : Option (Int32 × qW) :=
  k5 w s0
def f_X11_either_B27 (r_X11_either : qW → Option (Int32 × qW)) (r_X11_both : qW → Option (Int32 × qW)) (r_X11_compared : qW → Option (Int32 × qW)) (r_X11_sums : qW → Option (Int32 × qW)) (r_X11_product : qW → Option (Int32 × qW)) (r_X11_one : qW → Option (Int32 × qW)) (k5 : qW → Int32 → Option (Int32 × qW)) (w : qW) : Option (Int32 × qW) :=
  f_X11_either_B32 r_X11_either r_X11_both r_X11_compared r_X11_sums r_X11_product r_X11_one k5 w 1
def f_X11_either_B5 (r_X11_either : qW → Option (Int32 × qW)) (r_X11_both : qW → Option (Int32 × qW)) (r_X11_compared : qW → Option (Int32 × qW)) (r_X11_sums : qW → Option (Int32 × qW)) (r_X11_product : qW → Option (Int32 × qW)) (r_X11_one : qW → Option (Int32 × qW)) (k5 : qW → Int32 → Option (Int32 × qW)) (w : qW) (l1 : Int32) : Option (Int32 × qW) :=
  q_cl (f_X11_takes w 124) (fun r1 w2 => if r1 = 0 then (some (l1, w2)) else (q_cl (r_X11_both w2 ) (fun r3 w4 => if l1 = 0 then (if r3 = 0 then (f_X11_either_B32 r_X11_either r_X11_both r_X11_compared r_X11_sums r_X11_product r_X11_one k5 w4 0) else (f_X11_either_B27 r_X11_either r_X11_both r_X11_compared r_X11_sums r_X11_product r_X11_one k5 w4 )) else (f_X11_either_B27 r_X11_either r_X11_both r_X11_compared r_X11_sums r_X11_product r_X11_one k5 w4 ))))
def f_X11_either_R5 (r_X11_either : qW → Option (Int32 × qW)) (r_X11_both : qW → Option (Int32 × qW)) (r_X11_compared : qW → Option (Int32 × qW)) (r_X11_sums : qW → Option (Int32 × qW)) (r_X11_product : qW → Option (Int32 × qW)) (r_X11_one : qW → Option (Int32 × qW)) : Nat → qW → Int32 → Option (Int32 × qW)
  | 0, _, _ => none
  | n + 1, w, l1 => f_X11_either_B5 r_X11_either r_X11_both r_X11_compared r_X11_sums r_X11_product r_X11_one (f_X11_either_R5 r_X11_either r_X11_both r_X11_compared r_X11_sums r_X11_product r_X11_one n) w l1
def b_X11_either (r_X11_either : qW → Option (Int32 × qW)) (r_X11_both : qW → Option (Int32 × qW)) (r_X11_compared : qW → Option (Int32 × qW)) (r_X11_sums : qW → Option (Int32 × qW)) (r_X11_product : qW → Option (Int32 × qW)) (r_X11_one : qW → Option (Int32 × qW)) (w : qW) : Option (Int32 × qW) :=
  q_cl (r_X11_both w ) (fun r1 w2 => f_X11_either_R5 r_X11_either r_X11_both r_X11_compared r_X11_sums r_X11_product r_X11_one  q_fuel w2 r1)
def f_X11_both_B32 (r_X11_either : qW → Option (Int32 × qW)) (r_X11_both : qW → Option (Int32 × qW)) (r_X11_compared : qW → Option (Int32 × qW)) (r_X11_sums : qW → Option (Int32 × qW)) (r_X11_product : qW → Option (Int32 × qW)) (r_X11_one : qW → Option (Int32 × qW)) (k5 : qW → Int32 → Option (Int32 × qW)) (w : qW) (s0 : Int32) : Option (Int32 × qW) :=
  k5 w s0
def f_X11_both_B31 (r_X11_either : qW → Option (Int32 × qW)) (r_X11_both : qW → Option (Int32 × qW)) (r_X11_compared : qW → Option (Int32 × qW)) (r_X11_sums : qW → Option (Int32 × qW)) (r_X11_product : qW → Option (Int32 × qW)) (r_X11_one : qW → Option (Int32 × qW)) (k5 : qW → Int32 → Option (Int32 × qW)) (w : qW) : Option (Int32 × qW) :=
  f_X11_both_B32 r_X11_either r_X11_both r_X11_compared r_X11_sums r_X11_product r_X11_one k5 w 0
def f_X11_both_B5 (r_X11_either : qW → Option (Int32 × qW)) (r_X11_both : qW → Option (Int32 × qW)) (r_X11_compared : qW → Option (Int32 × qW)) (r_X11_sums : qW → Option (Int32 × qW)) (r_X11_product : qW → Option (Int32 × qW)) (r_X11_one : qW → Option (Int32 × qW)) (k5 : qW → Int32 → Option (Int32 × qW)) (w : qW) (l1 : Int32) : Option (Int32 × qW) :=
  q_cl (f_X11_takes w 38) (fun r1 w2 => if r1 = 0 then (some (l1, w2)) else (q_cl (r_X11_compared w2 ) (fun r3 w4 => if l1 = 0 then (f_X11_both_B31 r_X11_either r_X11_both r_X11_compared r_X11_sums r_X11_product r_X11_one k5 w4 ) else (if r3 = 0 then (f_X11_both_B31 r_X11_either r_X11_both r_X11_compared r_X11_sums r_X11_product r_X11_one k5 w4 ) else (f_X11_both_B32 r_X11_either r_X11_both r_X11_compared r_X11_sums r_X11_product r_X11_one k5 w4 1)))))
def f_X11_both_R5 (r_X11_either : qW → Option (Int32 × qW)) (r_X11_both : qW → Option (Int32 × qW)) (r_X11_compared : qW → Option (Int32 × qW)) (r_X11_sums : qW → Option (Int32 × qW)) (r_X11_product : qW → Option (Int32 × qW)) (r_X11_one : qW → Option (Int32 × qW)) : Nat → qW → Int32 → Option (Int32 × qW)
  | 0, _, _ => none
  | n + 1, w, l1 => f_X11_both_B5 r_X11_either r_X11_both r_X11_compared r_X11_sums r_X11_product r_X11_one (f_X11_both_R5 r_X11_either r_X11_both r_X11_compared r_X11_sums r_X11_product r_X11_one n) w l1
def b_X11_both (r_X11_either : qW → Option (Int32 × qW)) (r_X11_both : qW → Option (Int32 × qW)) (r_X11_compared : qW → Option (Int32 × qW)) (r_X11_sums : qW → Option (Int32 × qW)) (r_X11_product : qW → Option (Int32 × qW)) (r_X11_one : qW → Option (Int32 × qW)) (w : qW) : Option (Int32 × qW) :=
  q_cl (r_X11_compared w ) (fun r1 w2 => f_X11_both_R5 r_X11_either r_X11_both r_X11_compared r_X11_sums r_X11_product r_X11_one  q_fuel w2 r1)
def f_X11_compared_B85 (r_X11_either : qW → Option (Int32 × qW)) (r_X11_both : qW → Option (Int32 × qW)) (r_X11_compared : qW → Option (Int32 × qW)) (r_X11_sums : qW → Option (Int32 × qW)) (r_X11_product : qW → Option (Int32 × qW)) (r_X11_one : qW → Option (Int32 × qW)) (w : qW) : Option (Int32 × qW) :=
  some (1, w)
def f_X11_compared_B37 (r_X11_either : qW → Option (Int32 × qW)) (r_X11_both : qW → Option (Int32 × qW)) (r_X11_compared : qW → Option (Int32 × qW)) (r_X11_sums : qW → Option (Int32 × qW)) (r_X11_product : qW → Option (Int32 × qW)) (r_X11_one : qW → Option (Int32 × qW)) (w : qW) (l1 : Int32) (l2 : Int32) : Option (Int32 × qW) :=
  q_bn (q_sI w 48 13 ((q_I w 48 13) + 1)) (fun w1 => q_cl (r_X11_sums w1 ) (fun r2 w3 => if l2 = 60 then (if r2 ≤ l1 then (some (0, w3)) else (f_X11_compared_B85 r_X11_either r_X11_both r_X11_compared r_X11_sums r_X11_product r_X11_one w3 )) else (if l2 = 61 then (if l1 = r2 then (f_X11_compared_B85 r_X11_either r_X11_both r_X11_compared r_X11_sums r_X11_product r_X11_one w3 ) else (some (0, w3))) else (if l1 ≤ r2 then (some (0, w3)) else (f_X11_compared_B85 r_X11_either r_X11_both r_X11_compared r_X11_sums r_X11_product r_X11_one w3 )))))
def b_X11_compared (r_X11_either : qW → Option (Int32 × qW)) (r_X11_both : qW → Option (Int32 × qW)) (r_X11_compared : qW → Option (Int32 × qW)) (r_X11_sums : qW → Option (Int32 × qW)) (r_X11_product : qW → Option (Int32 × qW)) (r_X11_one : qW → Option (Int32 × qW)) (w : qW) : Option (Int32 × qW) :=
  q_cl (r_X11_sums w ) (fun r1 w2 => q_cl (f_X11_byteAt w2 ) (fun r3 w4 => if 0 ≤ (q_I w4 48 15) then (some (r1, w4)) else (if r3 = 60 then (f_X11_compared_B37 r_X11_either r_X11_both r_X11_compared r_X11_sums r_X11_product r_X11_one w4 r1 r3) else (if r3 = 61 then (f_X11_compared_B37 r_X11_either r_X11_both r_X11_compared r_X11_sums r_X11_product r_X11_one w4 r1 r3) else (if r3 = 62 then (f_X11_compared_B37 r_X11_either r_X11_both r_X11_compared r_X11_sums r_X11_product r_X11_one w4 r1 r3) else (some (r1, w4)))))))
def f_X11_sums_B73 (r_X11_either : qW → Option (Int32 × qW)) (r_X11_both : qW → Option (Int32 × qW)) (r_X11_compared : qW → Option (Int32 × qW)) (r_X11_sums : qW → Option (Int32 × qW)) (r_X11_product : qW → Option (Int32 × qW)) (r_X11_one : qW → Option (Int32 × qW)) (k5 : qW → Int32 → Option (Int32 × qW)) (w : qW) (s0 : Int32) : Option (Int32 × qW) :=
  k5 w s0
def f_X11_sums_B44 (r_X11_either : qW → Option (Int32 × qW)) (r_X11_both : qW → Option (Int32 × qW)) (r_X11_compared : qW → Option (Int32 × qW)) (r_X11_sums : qW → Option (Int32 × qW)) (r_X11_product : qW → Option (Int32 × qW)) (r_X11_one : qW → Option (Int32 × qW)) (k5 : qW → Int32 → Option (Int32 × qW)) (w : qW) (l1 : Int32) (s0 : Int32) : Option (Int32 × qW) :=
  q_bn (q_sI w 48 13 ((q_I w 48 13) + 1)) (fun w1 => q_cl (r_X11_product w1 ) (fun r2 w3 => if s0 = 0 then (f_X11_sums_B73 r_X11_either r_X11_both r_X11_compared r_X11_sums r_X11_product r_X11_one k5 w3 (l1 - r2)) else (f_X11_sums_B73 r_X11_either r_X11_both r_X11_compared r_X11_sums r_X11_product r_X11_one k5 w3 (l1 + r2))))
def f_X11_sums_B30 (r_X11_either : qW → Option (Int32 × qW)) (r_X11_both : qW → Option (Int32 × qW)) (r_X11_compared : qW → Option (Int32 × qW)) (r_X11_sums : qW → Option (Int32 × qW)) (r_X11_product : qW → Option (Int32 × qW)) (r_X11_one : qW → Option (Int32 × qW)) (k5 : qW → Int32 → Option (Int32 × qW)) (w : qW) (l1 : Int32) : Option (Int32 × qW) :=
  q_cl (f_X11_byteAt w ) (fun r1 w2 => if r1 = 43 then (f_X11_sums_B44 r_X11_either r_X11_both r_X11_compared r_X11_sums r_X11_product r_X11_one k5 w2 l1 1) else (f_X11_sums_B44 r_X11_either r_X11_both r_X11_compared r_X11_sums r_X11_product r_X11_one k5 w2 l1 0))
def f_X11_sums_B5 (r_X11_either : qW → Option (Int32 × qW)) (r_X11_both : qW → Option (Int32 × qW)) (r_X11_compared : qW → Option (Int32 × qW)) (r_X11_sums : qW → Option (Int32 × qW)) (r_X11_product : qW → Option (Int32 × qW)) (r_X11_one : qW → Option (Int32 × qW)) (k5 : qW → Int32 → Option (Int32 × qW)) (w : qW) (l1 : Int32) : Option (Int32 × qW) :=
  if 0 ≤ (q_I w 48 15) then (some (l1, w)) else (q_cl (f_X11_byteAt w ) (fun r1 w2 => if r1 = 43 then (f_X11_sums_B30 r_X11_either r_X11_both r_X11_compared r_X11_sums r_X11_product r_X11_one k5 w2 l1) else (q_cl (f_X11_byteAt w2 ) (fun r3 w4 => if r3 = 45 then (f_X11_sums_B30 r_X11_either r_X11_both r_X11_compared r_X11_sums r_X11_product r_X11_one k5 w4 l1) else (some (l1, w4))))))
def f_X11_sums_R5 (r_X11_either : qW → Option (Int32 × qW)) (r_X11_both : qW → Option (Int32 × qW)) (r_X11_compared : qW → Option (Int32 × qW)) (r_X11_sums : qW → Option (Int32 × qW)) (r_X11_product : qW → Option (Int32 × qW)) (r_X11_one : qW → Option (Int32 × qW)) : Nat → qW → Int32 → Option (Int32 × qW)
  | 0, _, _ => none
  | n + 1, w, l1 => f_X11_sums_B5 r_X11_either r_X11_both r_X11_compared r_X11_sums r_X11_product r_X11_one (f_X11_sums_R5 r_X11_either r_X11_both r_X11_compared r_X11_sums r_X11_product r_X11_one n) w l1
def b_X11_sums (r_X11_either : qW → Option (Int32 × qW)) (r_X11_both : qW → Option (Int32 × qW)) (r_X11_compared : qW → Option (Int32 × qW)) (r_X11_sums : qW → Option (Int32 × qW)) (r_X11_product : qW → Option (Int32 × qW)) (r_X11_one : qW → Option (Int32 × qW)) (w : qW) : Option (Int32 × qW) :=
  q_cl (r_X11_product w ) (fun r1 w2 => f_X11_sums_R5 r_X11_either r_X11_both r_X11_compared r_X11_sums r_X11_product r_X11_one  q_fuel w2 r1)
def f_X11_product_B85 (r_X11_either : qW → Option (Int32 × qW)) (r_X11_both : qW → Option (Int32 × qW)) (r_X11_compared : qW → Option (Int32 × qW)) (r_X11_sums : qW → Option (Int32 × qW)) (r_X11_product : qW → Option (Int32 × qW)) (r_X11_one : qW → Option (Int32 × qW)) (k10 : qW → Int32 → Int32 → Option (Int32 × qW)) (w : qW) (s0 : Int32) : Option (Int32 × qW) :=
  q_cl (f_X11_byteAt w ) (fun r1 w2 => k10 w2 s0 r1)
def f_X11_product_B35 (r_X11_either : qW → Option (Int32 × qW)) (r_X11_both : qW → Option (Int32 × qW)) (r_X11_compared : qW → Option (Int32 × qW)) (r_X11_sums : qW → Option (Int32 × qW)) (r_X11_product : qW → Option (Int32 × qW)) (r_X11_one : qW → Option (Int32 × qW)) (k10 : qW → Int32 → Int32 → Option (Int32 × qW)) (w : qW) (l1 : Int32) (l2 : Int32) : Option (Int32 × qW) :=
  q_bn (q_sI w 48 13 ((q_I w 48 13) + 1)) (fun w1 => q_cl (r_X11_one w1 ) (fun r2 w3 => if l2 = 42 then (f_X11_product_B85 r_X11_either r_X11_both r_X11_compared r_X11_sums r_X11_product r_X11_one k10 w3 (l1 * r2)) else (if r2 = 0 then (f_X11_product_B85 r_X11_either r_X11_both r_X11_compared r_X11_sums r_X11_product r_X11_one k10 w3 0) else (if l2 = 47 then (q_nz r2 (f_X11_product_B85 r_X11_either r_X11_both r_X11_compared r_X11_sums r_X11_product r_X11_one k10 w3 (l1 / r2))) else (q_nz r2 (f_X11_product_B85 r_X11_either r_X11_both r_X11_compared r_X11_sums r_X11_product r_X11_one k10 w3 (q_rem l1 r2)))))))
def f_X11_product_B10 (r_X11_either : qW → Option (Int32 × qW)) (r_X11_both : qW → Option (Int32 × qW)) (r_X11_compared : qW → Option (Int32 × qW)) (r_X11_sums : qW → Option (Int32 × qW)) (r_X11_product : qW → Option (Int32 × qW)) (r_X11_one : qW → Option (Int32 × qW)) (k10 : qW → Int32 → Int32 → Option (Int32 × qW)) (w : qW) (l1 : Int32) (l2 : Int32) : Option (Int32 × qW) :=
  if 0 ≤ (q_I w 48 15) then (some (l1, w)) else (if l2 = 42 then (f_X11_product_B35 r_X11_either r_X11_both r_X11_compared r_X11_sums r_X11_product r_X11_one k10 w l1 l2) else (if l2 = 47 then (f_X11_product_B35 r_X11_either r_X11_both r_X11_compared r_X11_sums r_X11_product r_X11_one k10 w l1 l2) else (if l2 = 37 then (f_X11_product_B35 r_X11_either r_X11_both r_X11_compared r_X11_sums r_X11_product r_X11_one k10 w l1 l2) else (some (l1, w)))))
def f_X11_product_R10 (r_X11_either : qW → Option (Int32 × qW)) (r_X11_both : qW → Option (Int32 × qW)) (r_X11_compared : qW → Option (Int32 × qW)) (r_X11_sums : qW → Option (Int32 × qW)) (r_X11_product : qW → Option (Int32 × qW)) (r_X11_one : qW → Option (Int32 × qW)) : Nat → qW → Int32 → Int32 → Option (Int32 × qW)
  | 0, _, _, _ => none
  | n + 1, w, l1, l2 => f_X11_product_B10 r_X11_either r_X11_both r_X11_compared r_X11_sums r_X11_product r_X11_one (f_X11_product_R10 r_X11_either r_X11_both r_X11_compared r_X11_sums r_X11_product r_X11_one n) w l1 l2
def b_X11_product (r_X11_either : qW → Option (Int32 × qW)) (r_X11_both : qW → Option (Int32 × qW)) (r_X11_compared : qW → Option (Int32 × qW)) (r_X11_sums : qW → Option (Int32 × qW)) (r_X11_product : qW → Option (Int32 × qW)) (r_X11_one : qW → Option (Int32 × qW)) (w : qW) : Option (Int32 × qW) :=
  q_cl (r_X11_one w ) (fun r1 w2 => q_cl (f_X11_byteAt w2 ) (fun r3 w4 => f_X11_product_R10 r_X11_either r_X11_both r_X11_compared r_X11_sums r_X11_product r_X11_one  q_fuel w4 r1 r3))
def f_X11_one_B104 (r_X11_either : qW → Option (Int32 × qW)) (r_X11_both : qW → Option (Int32 × qW)) (r_X11_compared : qW → Option (Int32 × qW)) (r_X11_sums : qW → Option (Int32 × qW)) (r_X11_product : qW → Option (Int32 × qW)) (r_X11_one : qW → Option (Int32 × qW)) (w : qW) (l1 : Int32) (l2 : Int32) : Option (Int32 × qW) :=
  q_bn (q_sI w 48 16 ((q_I w 48 16) - 1)) (fun w1 => if l1 = 40 then (some (l2, w1)) else (if l1 = 45 then (some (-l2, w1)) else (if l2 = 0 then (some (1, w1)) else (some (0, w1)))))
def f_X11_one_B83 (r_X11_either : qW → Option (Int32 × qW)) (r_X11_both : qW → Option (Int32 × qW)) (r_X11_compared : qW → Option (Int32 × qW)) (r_X11_sums : qW → Option (Int32 × qW)) (r_X11_product : qW → Option (Int32 × qW)) (r_X11_one : qW → Option (Int32 × qW)) (w : qW) (l1 : Int32) (s0 : Int32) : Option (Int32 × qW) :=
  if l1 = 40 then (q_cl (f_X11_takes w 41) (fun r1 w2 => if r1 = 0 then (q_cl (f_X11_wrong w2 ) (fun r3 w4 => some (r3, w4))) else (f_X11_one_B104 r_X11_either r_X11_both r_X11_compared r_X11_sums r_X11_product r_X11_one w2 l1 s0))) else (f_X11_one_B104 r_X11_either r_X11_both r_X11_compared r_X11_sums r_X11_product r_X11_one w l1 s0)
def f_X11_one_B32 (r_X11_either : qW → Option (Int32 × qW)) (r_X11_both : qW → Option (Int32 × qW)) (r_X11_compared : qW → Option (Int32 × qW)) (r_X11_sums : qW → Option (Int32 × qW)) (r_X11_product : qW → Option (Int32 × qW)) (r_X11_one : qW → Option (Int32 × qW)) (w : qW) (l1 : Int32) : Option (Int32 × qW) :=
  if (q_I w 48 16) = 6 then (q_cl (f_X11_wrong w ) (fun r7 w8 => some (r7, w8))) else (q_bn (q_sI w 48 16 ((q_I w 48 16) + 1)) (fun w1 => q_bn (q_sI w1 48 13 ((q_I w1 48 13) + 1)) (fun w2 => if l1 = 40 then (q_cl (r_X11_either w2 ) (fun r5 w6 => f_X11_one_B83 r_X11_either r_X11_both r_X11_compared r_X11_sums r_X11_product r_X11_one w6 l1 r5)) else (q_cl (r_X11_one w2 ) (fun r3 w4 => f_X11_one_B83 r_X11_either r_X11_both r_X11_compared r_X11_sums r_X11_product r_X11_one w4 l1 r3)))))
def f_X11_one_B229 (r_X11_either : qW → Option (Int32 × qW)) (r_X11_both : qW → Option (Int32 × qW)) (r_X11_compared : qW → Option (Int32 × qW)) (r_X11_sums : qW → Option (Int32 × qW)) (r_X11_product : qW → Option (Int32 × qW)) (r_X11_one : qW → Option (Int32 × qW)) (w : qW) (l3 : Int32) (l4 : Int32) : Option (Int32 × qW) :=
  if l4 = 0 then (q_cl (f_X11_wrong w ) (fun r1 w2 => some (r1, w2))) else (some (l3, w))
def f_X11_one_B176 (r_X11_either : qW → Option (Int32 × qW)) (r_X11_both : qW → Option (Int32 × qW)) (r_X11_compared : qW → Option (Int32 × qW)) (r_X11_sums : qW → Option (Int32 × qW)) (r_X11_product : qW → Option (Int32 × qW)) (r_X11_one : qW → Option (Int32 × qW)) (k176 : qW → Int32 → Int32 → Option (Int32 × qW)) (w : qW) (l3 : Int32) (l4 : Int32) : Option (Int32 × qW) :=
  if 4 ≤ l4 then (f_X11_one_B229 r_X11_either r_X11_both r_X11_compared r_X11_sums r_X11_product r_X11_one w l3 l4) else (q_cl (f_X11_byteAt w ) (fun r1 w2 => if r1 < 48 then (f_X11_one_B229 r_X11_either r_X11_both r_X11_compared r_X11_sums r_X11_product r_X11_one w2 l3 l4) else (q_cl (f_X11_byteAt w2 ) (fun r3 w4 => if 57 < r3 then (f_X11_one_B229 r_X11_either r_X11_both r_X11_compared r_X11_sums r_X11_product r_X11_one w4 l3 l4) else (q_cl (f_X11_byteAt w4 ) (fun r5 w6 => q_bn ((((10 : Int32) * l3) + r5) - 48 : Int32) (fun v7 => q_bn (l4 + 1 : Int32) (fun v8 => q_bn (q_sI w6 48 13 ((q_I w6 48 13) + 1)) (fun w9 => k176 w9 v7 v8)))))))))
def f_X11_one_R176 (r_X11_either : qW → Option (Int32 × qW)) (r_X11_both : qW → Option (Int32 × qW)) (r_X11_compared : qW → Option (Int32 × qW)) (r_X11_sums : qW → Option (Int32 × qW)) (r_X11_product : qW → Option (Int32 × qW)) (r_X11_one : qW → Option (Int32 × qW)) : Nat → qW → Int32 → Int32 → Option (Int32 × qW)
  | 0, _, _, _ => none
  | n + 1, w, l3, l4 => f_X11_one_B176 r_X11_either r_X11_both r_X11_compared r_X11_sums r_X11_product r_X11_one (f_X11_one_R176 r_X11_either r_X11_both r_X11_compared r_X11_sums r_X11_product r_X11_one n) w l3 l4
def b_X11_one (r_X11_either : qW → Option (Int32 × qW)) (r_X11_both : qW → Option (Int32 × qW)) (r_X11_compared : qW → Option (Int32 × qW)) (r_X11_sums : qW → Option (Int32 × qW)) (r_X11_product : qW → Option (Int32 × qW)) (r_X11_one : qW → Option (Int32 × qW)) (w : qW) : Option (Int32 × qW) :=
  if (q_I w 48 15) < 0 then (q_cl (f_X11_byteAt w ) (fun r1 w2 => if r1 = 33 then (f_X11_one_B32 r_X11_either r_X11_both r_X11_compared r_X11_sums r_X11_product r_X11_one w2 r1) else (if r1 = 45 then (f_X11_one_B32 r_X11_either r_X11_both r_X11_compared r_X11_sums r_X11_product r_X11_one w2 r1) else (if r1 = 40 then (f_X11_one_B32 r_X11_either r_X11_both r_X11_compared r_X11_sums r_X11_product r_X11_one w2 r1) else (q_cl (f_X11_nameOf w2 r1) (fun r3 w4 => if r3 < 0 then (f_X11_one_R176 r_X11_either r_X11_both r_X11_compared r_X11_sums r_X11_product r_X11_one  q_fuel w4 0 0) else (q_bn (q_sI w4 48 13 ((q_I w4 48 13) + 1)) (fun w5 => q_ld (q_A w5 55) 6 r3 (fun v6 => some (v6, w5)))))))))) else (some (0, w))
def G_X11_either : Nat → (qW → Option (Int32 × qW)) × (qW → Option (Int32 × qW)) × (qW → Option (Int32 × qW)) × (qW → Option (Int32 × qW)) × (qW → Option (Int32 × qW)) × (qW → Option (Int32 × qW))
  | 0 => (fun _ => none, fun _ => none, fun _ => none, fun _ => none, fun _ => none, fun _ => none)
  | n + 1 => (b_X11_either ((G_X11_either n).1)  ((G_X11_either n).2.1)  ((G_X11_either n).2.2.1)  ((G_X11_either n).2.2.2.1)  ((G_X11_either n).2.2.2.2.1)  ((G_X11_either n).2.2.2.2.2), b_X11_both ((G_X11_either n).1)  ((G_X11_either n).2.1)  ((G_X11_either n).2.2.1)  ((G_X11_either n).2.2.2.1)  ((G_X11_either n).2.2.2.2.1)  ((G_X11_either n).2.2.2.2.2), b_X11_compared ((G_X11_either n).1)  ((G_X11_either n).2.1)  ((G_X11_either n).2.2.1)  ((G_X11_either n).2.2.2.1)  ((G_X11_either n).2.2.2.2.1)  ((G_X11_either n).2.2.2.2.2), b_X11_sums ((G_X11_either n).1)  ((G_X11_either n).2.1)  ((G_X11_either n).2.2.1)  ((G_X11_either n).2.2.2.1)  ((G_X11_either n).2.2.2.2.1)  ((G_X11_either n).2.2.2.2.2), b_X11_product ((G_X11_either n).1)  ((G_X11_either n).2.1)  ((G_X11_either n).2.2.1)  ((G_X11_either n).2.2.2.1)  ((G_X11_either n).2.2.2.2.1)  ((G_X11_either n).2.2.2.2.2), b_X11_one ((G_X11_either n).1)  ((G_X11_either n).2.1)  ((G_X11_either n).2.2.1)  ((G_X11_either n).2.2.2.1)  ((G_X11_either n).2.2.2.2.1)  ((G_X11_either n).2.2.2.2.2))
def f_X11_either (w : qW) : Option (Int32 × qW) := ((G_X11_either q_rfuel).1) w 
def f_X11_both (w : qW) : Option (Int32 × qW) := ((G_X11_either q_rfuel).2.1) w 
def f_X11_compared (w : qW) : Option (Int32 × qW) := ((G_X11_either q_rfuel).2.2.1) w 
def f_X11_sums (w : qW) : Option (Int32 × qW) := ((G_X11_either q_rfuel).2.2.2.1) w 
def f_X11_product (w : qW) : Option (Int32 × qW) := ((G_X11_either q_rfuel).2.2.2.2.1) w 
def f_X11_one (w : qW) : Option (Int32 × qW) := ((G_X11_either q_rfuel).2.2.2.2.2) w 
def f_X11_workOut_B96 (k33 : qW → Int32 → Int32 → Int32 → Option (Int32 × qW)) (w : qW) (l3 : Int32) (l4 : Int32) : Option (Int32 × qW) :=
  q_cl (f_X11_takes w 59) (fun r1 w2 => k33 w2 l3 l4 r1)
def f_X11_workOut_B74 (k33 : qW → Int32 → Int32 → Int32 → Option (Int32 × qW)) (w : qW) (l3 : Int32) (l4 : Int32) (l6 : Int32) (l7 : Int32) : Option (Int32 × qW) :=
  if 0 ≤ (q_I w 48 15) then (f_X11_workOut_B96 k33 w l3 l4) else (if l7 = 0 then (f_X11_workOut_B96 k33 w l3 l4) else (if l3 = 0 then (f_X11_workOut_B96 k33 w 1 l6) else (f_X11_workOut_B96 k33 w l3 l4)))
def f_X11_workOut_B66 (k33 : qW → Int32 → Int32 → Int32 → Option (Int32 × qW)) (w : qW) (l3 : Int32) (l4 : Int32) (s0 : Int32) : Option (Int32 × qW) :=
  q_cl (f_X11_either w ) (fun r1 w2 => f_X11_workOut_B74 k33 w2 l3 l4 r1 s0)
def f_X11_workOut_B33 (k33 : qW → Int32 → Int32 → Int32 → Option (Int32 × qW)) (w : qW) (l3 : Int32) (l4 : Int32) (l5 : Int32) : Option (Int32 × qW) :=
  if l5 = 0 then (if 0 ≤ (q_I w 48 15) then (some (l4, w)) else (if (q_I w 48 14) ≤ (q_I w 48 13) then (some (l4, w)) else (q_cl (f_X11_wrong w ) (fun r1 w2 => some (r1, w2))))) else (q_cl (f_X11_either w ) (fun r3 w4 => q_cl (f_X11_takes w4 63) (fun r5 w6 => if r5 = 0 then (f_X11_workOut_B74 k33 w6 l3 l4 r3 1) else (if r3 = 0 then (f_X11_workOut_B66 k33 w6 l3 l4 0) else (f_X11_workOut_B66 k33 w6 l3 l4 1)))))
def f_X11_workOut_R33 : Nat → qW → Int32 → Int32 → Int32 → Option (Int32 × qW)
  | 0, _, _, _, _ => none
  | n + 1, w, l3, l4, l5 => f_X11_workOut_B33 (f_X11_workOut_R33 n) w l3 l4 l5
def f_X11_workOut (w : qW) (a1 : Int32) (a2 : Int32) : Option (Int32 × qW) :=
  q_bn (q_sI w 48 12 a1) (fun w1 => q_bn (q_sI w1 48 13 0) (fun w2 => q_bn (q_sI w2 48 14 a2) (fun w3 => q_bn (q_sI w3 48 15 (-1)) (fun w4 => q_bn (q_sI w4 48 16 0) (fun w5 => f_X11_workOut_R33  q_fuel w5 0 0 1)))))
def f_X11_law_B37 (k37 : qW → Int32 → Int32 → Option (Int32 × qW)) (w : qW) (l2 : Int32) (l3 : Int32) : Option (Int32 × qW) :=
  if l2 ≤ l3 then (q_bn (q_sI w 48 11 l2) (fun w1 => some (1, w1))) else (q_ld (q_A w 53) 120 l3 (fun v2 => q_st w 54 120 l3 v2 (fun w3 => q_bn (l3 + 1 : Int32) (fun v4 => k37 w3 l2 v4))))
def f_X11_law_R37 : Nat → qW → Int32 → Int32 → Option (Int32 × qW)
  | 0, _, _, _ => none
  | n + 1, w, l2, l3 => f_X11_law_B37 (f_X11_law_R37 n) w l2 l3
def f_X11_law (w : qW) : Option (Int32 × qW) :=
  q_cl (f_X11_workOut w (-1) (q_I w 48 9)) (fun r1 w2 => q_bn (q_I w2 48 9 : Int32) (fun v3 => q_bn (q_sI w2 48 9 0) (fun w4 => if (q_I w4 48 15) < 0 then (f_X11_law_R37  q_fuel w4 v3 0) else (some (((-100) : Int32) - (q_I w4 48 15), w4)))))
def f_X11_longAt (w : qW) (a1 : Int32) : Option (Int32 × qW) :=
  if 4 ≤ a1 then (if 8 ≤ a1 then (some (a1 - 7, w)) else (some ((1 : Int32) + ((a1 - 4) / 2), w))) else (some ((4 : Int32) - a1, w))
def f_X11_shadeBy_B250 (w : qW) (l8 : Int32) : Option (Int32 × qW) :=
  if 0 ≤ l8 then (if l8 ≤ 12 then (some (l8, w)) else (some (12, w))) else (some (0, w))
def f_X11_shadeBy_B124 (w : qW) (l1 : Int32) (l3 : Int32) (l6 : Int32) (l7 : Int32) (s0 : Int32) (s1 : Int32) (s2 : Int32) : Option (Int32 × qW) :=
  if (s1 + s0) < s2 then (some (0, w)) else (q_ld (q_A w 49) 57 ((16 : Int32) + l1) (fun v1 => if l7 ≤ v1 then (q_ld (q_A w 49) 57 ((8 : Int32) + l1) (fun v2 => q_ld (q_A w 49) 57 56 (fun v3 => q_bn (((((6 : Int32) + ((2 : Int32) * v2)) - l6) - l7) - v3 : Int32) (fun v4 => if (q_I w 48 11) < 0 then (f_X11_shadeBy_B250 w v4) else (q_ld (q_A w 49) 57 ((8 : Int32) + l1) (fun v5 => q_st w 55 6 0 v5 (fun w6 => q_st w6 55 6 1 l6 (fun w7 => q_st w7 55 6 2 l7 (fun w8 => q_ld (q_A w8 49) 57 56 (fun v9 => q_st w8 55 6 3 v9 (fun w10 => q_st w10 55 6 4 l3 (fun w11 => q_st w11 55 6 5 l1 (fun w12 => q_cl (f_X11_workOut w12 0 (q_I w12 48 11)) (fun r13 w14 => f_X11_shadeBy_B250 w14 r13)))))))))))))) else (some (0, w))))
def f_X11_shadeBy_B92 (w : qW) (l1 : Int32) (l3 : Int32) (l6 : Int32) (s0 : Int32) : Option (Int32 × qW) :=
  if l6 < 1 then (some (0, w)) else (q_cl (f_X11_longAt w l3) (fun r1 w2 => q_ld (q_A w2 49) 57 ((8 : Int32) + l1) (fun v3 => if v3 = 2 then (f_X11_shadeBy_B124 w2 l1 l3 l6 s0 1 r1 l6) else (f_X11_shadeBy_B124 w2 l1 l3 l6 s0 0 r1 l6))))
def f_X11_shadeBy_B77 (w : qW) (l1 : Int32) (l3 : Int32) (l6 : Int32) (s0 : Int32) : Option (Int32 × qW) :=
  if 0 ≤ s0 then (f_X11_shadeBy_B92 w l1 l3 l6 s0) else (f_X11_shadeBy_B92 w l1 l3 l6 (-s0))
def f_X11_shadeBy_B75 (w : qW) (l1 : Int32) (l3 : Int32) (l5 : Int32) (l6 : Int32) : Option (Int32 × qW) :=
  f_X11_shadeBy_B77 w l1 l3 l6 l5
def f_X11_shadeBy_B57 (w : qW) (l1 : Int32) (l3 : Int32) (l4 : Int32) (l5 : Int32) (s0 : Int32) : Option (Int32 × qW) :=
  if l3 < 4 then (f_X11_shadeBy_B75 w l1 l3 l5 s0) else (if 8 ≤ l3 then (f_X11_shadeBy_B75 w l1 l3 l5 s0) else (f_X11_shadeBy_B77 w l1 l3 s0 l4))
def f_X11_shadeBy (w : qW) (a1 : Int32) (a2 : Int32) (a3 : Int32) : Option (Int32 × qW) :=
  q_ld (q_A w 49) 57 a1 (fun v1 => q_bn ((q_rem a2 12) - (q_rem v1 12) : Int32) (fun v2 => q_ld (q_A w 49) 57 a1 (fun v3 => q_bn ((a2 / 12) - (v3 / 12) : Int32) (fun v4 => if 4 ≤ a3 then (if 8 ≤ a3 then (f_X11_shadeBy_B57 w a1 a3 v2 v4 v2) else (f_X11_shadeBy_B57 w a1 a3 v2 v4 (-v4))) else (f_X11_shadeBy_B57 w a1 a3 v2 v4 (-v2))))))
def f_X11_shadeOf_B36 (k6 : qW → Int32 → Int32 → Int32 → Int32 → Int32 → Option (Int32 × qW)) (w : qW) (l1 : Int32) (l2 : Int32) (l3 : Int32) (l5 : Int32) (s0 : Int32) (s1 : Int32) : Option (Int32 × qW) :=
  q_bn (s1 + s0 : Int32) (fun v1 => q_bn (l5 + 1 : Int32) (fun v2 => k6 w l1 l2 l3 v1 v2))
def f_X11_shadeOf_B6 (k6 : qW → Int32 → Int32 → Int32 → Int32 → Int32 → Option (Int32 × qW)) (w : qW) (l1 : Int32) (l2 : Int32) (l3 : Int32) (l4 : Int32) (l5 : Int32) : Option (Int32 × qW) :=
  if 8 ≤ l5 then (if l4 ≤ 12 then (some (l4, w)) else (some (12, w))) else (q_cl (f_X11_isIn w l1 l5) (fun r1 w2 => if r1 = 0 then (f_X11_shadeOf_B36 k6 w2 l1 l2 l3 l5 0 l4) else (q_cl (f_X11_shadeBy w2 l5 l2 l3) (fun r3 w4 => f_X11_shadeOf_B36 k6 w4 l1 l2 l3 l5 r3 l4))))
def f_X11_shadeOf_R6 : Nat → qW → Int32 → Int32 → Int32 → Int32 → Int32 → Option (Int32 × qW)
  | 0, _, _, _, _, _, _ => none
  | n + 1, w, l1, l2, l3, l4, l5 => f_X11_shadeOf_B6 (f_X11_shadeOf_R6 n) w l1 l2 l3 l4 l5
def f_X11_shadeOf (w : qW) (a1 : Int32) (a2 : Int32) (a3 : Int32) : Option (Int32 × qW) :=
  f_X11_shadeOf_R6  q_fuel w a1 a2 a3 0 0
def f_X11_everybody (w : qW) : Option (Int32 × qW) :=
  some (((1 : Int32) <<< ((q_I w 48 6) &&& 31)) - 1, w)
def f_X11_shade_B42 (w : qW) (l1 : Int32) (l2 : Int32) : Option (Int32 × qW) :=
  if 0 ≤ l2 then (q_cl (f_X11_shadeBy w l2 (l1 / 100) (q_rem l1 100)) (fun r1 w2 => some (r1, w2))) else (q_cl (f_X11_everybody w ) (fun r3 w4 => q_cl (f_X11_shadeOf w4 r3 (l1 / 100) (q_rem l1 100)) (fun r5 w6 => some (r5, w6))))
def f_X11_shade (w : qW) (a1 : Int32) (a2 : Int32) : Option (Int32 × qW) :=
  if a1 < 0 then (some ((-1), w)) else (q_cl (f_X11_isCell w (Int32.toInt64 (a1 / 100))) (fun r1 w2 => if r1 = 0 then (some ((-1), w2)) else (q_cl (f_X11_isHour w2 (Int32.toInt64 (q_rem a1 100))) (fun r3 w4 => if r3 = 0 then (some ((-1), w4)) else (if a2 = (-1) then (f_X11_shade_B42 w4 a1 a2) else (q_cl (f_X11_isMan w4 (Int32.toInt64 a2)) (fun r5 w6 => if r5 = 0 then (some ((-1), w6)) else (f_X11_shade_B42 w6 a1 a2))))))))
def f_X11_walk_B95 (k31 : qW → Int32 → Int32 → Int32 → Int32 → Int32 → Int32 → Option (Int32 × qW)) (w : qW) (l1 : Int32) (l2 : Int32) (l3 : Int32) (l4 : Int32) (l6 : Int32) (s0 : Int32) : Option (Int32 × qW) :=
  q_bn (l6 + 1 : Int32) (fun v1 => k31 w l1 l2 l3 l4 s0 v1)
def f_X11_walk_B79 (k31 : qW → Int32 → Int32 → Int32 → Int32 → Int32 → Int32 → Option (Int32 × qW)) (w : qW) (l1 : Int32) (l2 : Int32) (l3 : Int32) (l5 : Int32) (l6 : Int32) (l7 : Int32) (s0 : Int32) : Option (Int32 × qW) :=
  if l7 ≤ l5 then (f_X11_walk_B95 k31 w l1 l2 l3 s0 l6 l5) else (f_X11_walk_B95 k31 w l1 l2 l3 s0 l6 l7)
def f_X11_walk_B63 (k31 : qW → Int32 → Int32 → Int32 → Int32 → Int32 → Int32 → Option (Int32 × qW)) (w : qW) (l1 : Int32) (l2 : Int32) (l4 : Int32) (l5 : Int32) (l6 : Int32) (l7 : Int32) (s0 : Int32) (s1 : Int32) : Option (Int32 × qW) :=
  q_bn (s1 + s0 : Int32) (fun v1 => if l7 ≤ l5 then (f_X11_walk_B79 k31 w l1 l2 v1 l5 l6 l7 l4) else (f_X11_walk_B79 k31 w l1 l2 v1 l5 l6 l7 l6))
def f_X11_walk_B31 (k31 : qW → Int32 → Int32 → Int32 → Int32 → Int32 → Int32 → Option (Int32 × qW)) (w : qW) (l1 : Int32) (l2 : Int32) (l3 : Int32) (l4 : Int32) (l5 : Int32) (l6 : Int32) : Option (Int32 × qW) :=
  if 144 ≤ l6 then (if l2 = 0 then (some (l3, w)) else (some (l4, w))) else (q_cl (f_X11_everybody w ) (fun r1 w2 => q_cl (f_X11_shadeOf w2 r1 l6 l1) (fun r3 w4 => if r3 ≤ 0 then (f_X11_walk_B63 k31 w4 l1 l2 l4 l5 l6 r3 0 l3) else (f_X11_walk_B63 k31 w4 l1 l2 l4 l5 l6 r3 1 l3))))
def f_X11_walk_R31 : Nat → qW → Int32 → Int32 → Int32 → Int32 → Int32 → Int32 → Option (Int32 × qW)
  | 0, _, _, _, _, _, _, _ => none
  | n + 1, w, l1, l2, l3, l4, l5, l6 => f_X11_walk_B31 (f_X11_walk_R31 n) w l1 l2 l3 l4 l5 l6
def f_X11_walk (w : qW) (a1 : Int32) (a2 : Int32) : Option (Int32 × qW) :=
  q_cl (f_X11_isHour w (Int32.toInt64 a1)) (fun r1 w2 => if r1 = 0 then (some ((-1), w2)) else (q_cl (f_X11_within w2 (Int32.toInt64 a2) 0 1) (fun r3 w4 => if r3 = 0 then (some ((-1), w4)) else (f_X11_walk_R31  q_fuel w4 a1 a2 0 0 (-1) 0))))
def f_X11_isServed (w : qW) (a1 : Int32) (a2 : Int32) (a3 : Int32) : Option (Int32 × qW) :=
  q_ld (q_A w 49) 57 ((32 : Int32) + a1) (fun v1 => q_cl (f_X11_shadeOf w a3 v1 a2) (fun r2 w3 => q_ld (q_A w3 49) 57 ((48 : Int32) + a1) (fun v4 => if r2 < v4 then (some (0 &&& 1, w3)) else (some (1 &&& 1, w3)))))
def f_X11_wants (w : qW) (a1 : Int32) (a2 : Int32) : Option (Int32 × qW) :=
  q_ld (q_A w 49) 57 ((40 : Int32) + a1) (fun v1 => q_cl (f_X11_isIn w v1 a2) (fun r2 w3 => some (r2 &&& 1, w3)))
def f_X11_missesOf_B39 (k5 : qW → Int32 → Int32 → Int32 → Int32 → Option (Int32 × qW)) (w : qW) (l1 : Int32) (l2 : Int32) (l4 : Int32) (s0 : Int32) (s1 : Int32) : Option (Int32 × qW) :=
  q_bn (s1 + s0 : Int32) (fun v1 => q_bn (l4 + 1 : Int32) (fun v2 => k5 w l1 l2 v1 v2))
def f_X11_missesOf_B38 (k5 : qW → Int32 → Int32 → Int32 → Int32 → Option (Int32 × qW)) (w : qW) (l1 : Int32) (l2 : Int32) (l4 : Int32) (s0 : Int32) : Option (Int32 × qW) :=
  f_X11_missesOf_B39 k5 w l1 l2 l4 0 s0
def f_X11_missesOf_B5 (k5 : qW → Int32 → Int32 → Int32 → Int32 → Option (Int32 × qW)) (w : qW) (l1 : Int32) (l2 : Int32) (l3 : Int32) (l4 : Int32) : Option (Int32 × qW) :=
  if 12 ≤ l4 then (some (l3, w)) else (q_cl (f_X11_wants w l1 l4) (fun r1 w2 => if r1 = 0 then (f_X11_missesOf_B38 k5 w2 l1 l2 l4 l3) else (q_cl (f_X11_isServed w2 l1 l4 l2) (fun r3 w4 => if r3 = 0 then (f_X11_missesOf_B39 k5 w4 l1 l2 l4 1 l3) else (f_X11_missesOf_B38 k5 w4 l1 l2 l4 l3)))))
def f_X11_missesOf_R5 : Nat → qW → Int32 → Int32 → Int32 → Int32 → Option (Int32 × qW)
  | 0, _, _, _, _, _ => none
  | n + 1, w, l1, l2, l3, l4 => f_X11_missesOf_B5 (f_X11_missesOf_R5 n) w l1 l2 l3 l4
def f_X11_missesOf (w : qW) (a1 : Int32) (a2 : Int32) : Option (Int32 × qW) :=
  f_X11_missesOf_R5  q_fuel w a1 a2 0 0
def f_X11_missesAll_B4 (k4 : qW → Int32 → Int32 → Int32 → Option (Int32 × qW)) (w : qW) (l1 : Int32) (l2 : Int32) (l3 : Int32) : Option (Int32 × qW) :=
  if (q_I w 48 7) ≤ l3 then (some (l2, w)) else (q_cl (f_X11_missesOf w l3 l1) (fun r1 w2 => q_bn (l2 + r1 : Int32) (fun v3 => q_bn (l3 + 1 : Int32) (fun v4 => k4 w2 l1 v3 v4))))
def f_X11_missesAll_R4 : Nat → qW → Int32 → Int32 → Int32 → Option (Int32 × qW)
  | 0, _, _, _, _ => none
  | n + 1, w, l1, l2, l3 => f_X11_missesAll_B4 (f_X11_missesAll_R4 n) w l1 l2 l3
def f_X11_missesAll (w : qW) (a1 : Int32) : Option (Int32 × qW) :=
  f_X11_missesAll_R4  q_fuel w a1 0 0
def f_X11_served_B71 (k41 : qW → Int32 → Int32 → Int32 → Option (Int32 × qW)) (w : qW) (l1 : Int32) (l4 : Int32) (s0 : Int32) (s1 : Int32) : Option (Int32 × qW) :=
  q_bn (s1 ||| s0 : Int32) (fun v1 => q_bn (l4 + 1 : Int32) (fun v2 => k41 w l1 v1 v2))
def f_X11_served_B41 (k41 : qW → Int32 → Int32 → Int32 → Option (Int32 × qW)) (w : qW) (l1 : Int32) (l3 : Int32) (l4 : Int32) : Option (Int32 × qW) :=
  if 12 ≤ l4 then (some (l3, w)) else (q_cl (f_X11_everybody w ) (fun r1 w2 => q_cl (f_X11_isServed w2 l1 l4 r1) (fun r3 w4 => if r3 = 0 then (f_X11_served_B71 k41 w4 l1 l4 0 l3) else (f_X11_served_B71 k41 w4 l1 l4 ((1 : Int32) <<< (l4 &&& 31)) l3))))
def f_X11_served_R41 : Nat → qW → Int32 → Int32 → Int32 → Option (Int32 × qW)
  | 0, _, _, _, _ => none
  | n + 1, w, l1, l3, l4 => f_X11_served_B41 (f_X11_served_R41 n) w l1 l3 l4
def f_X11_served (w : qW) (a1 : Int32) (a2 : Int32) : Option (Int32 × qW) :=
  q_cl (f_X11_isSitter w (Int32.toInt64 a1)) (fun r1 w2 => if r1 = 0 then (some ((-1), w2)) else (q_cl (f_X11_within w2 (Int32.toInt64 a2) 0 1) (fun r3 w4 => if r3 = 0 then (some ((-1), w4)) else (if a2 = 1 then (q_cl (f_X11_everybody w4 ) (fun r5 w6 => q_cl (f_X11_missesOf w6 a1 r5) (fun r7 w8 => some (r7, w8)))) else (f_X11_served_R41  q_fuel w4 a1 0 0)))))
def f_X11_at_B102 (k44 : qW → Int32 → Int32 → Int32 → Int32 → Option (Int32 × qW)) (w : qW) (l1 : Int32) (l2 : Int32) (l4 : Int32) (s0 : Int32) (s1 : Int32) : Option (Int32 × qW) :=
  q_bn (s1 ||| s0 : Int32) (fun v1 => q_bn (l4 + 1 : Int32) (fun v2 => k44 w l1 l2 v1 v2))
def f_X11_at_B101 (k44 : qW → Int32 → Int32 → Int32 → Int32 → Option (Int32 × qW)) (w : qW) (l1 : Int32) (l2 : Int32) (l4 : Int32) (s0 : Int32) : Option (Int32 × qW) :=
  f_X11_at_B102 k44 w l1 l2 l4 0 s0
def f_X11_at_B94 (k44 : qW → Int32 → Int32 → Int32 → Int32 → Option (Int32 × qW)) (w : qW) (l1 : Int32) (l2 : Int32) (l4 : Int32) (s0 : Int32) : Option (Int32 × qW) :=
  f_X11_at_B102 k44 w l1 l2 l4 ((1 : Int32) <<< (l4 &&& 31)) s0
def f_X11_at_B44 (k44 : qW → Int32 → Int32 → Int32 → Int32 → Option (Int32 × qW)) (w : qW) (l1 : Int32) (l2 : Int32) (l3 : Int32) (l4 : Int32) : Option (Int32 × qW) :=
  if (q_I w 48 7) ≤ l4 then (some (l3, w)) else (q_cl (f_X11_everybody w ) (fun r1 w2 => q_cl (f_X11_isServed w2 l4 l1 r1) (fun r3 w4 => if l2 = 0 then (if r3 = 0 then (f_X11_at_B101 k44 w4 l1 l2 l4 l3) else (f_X11_at_B94 k44 w4 l1 l2 l4 l3)) else (if r3 = 0 then (q_cl (f_X11_wants w4 l4 l1) (fun r5 w6 => if r5 = 0 then (f_X11_at_B101 k44 w6 l1 l2 l4 l3) else (f_X11_at_B94 k44 w6 l1 l2 l4 l3))) else (f_X11_at_B101 k44 w4 l1 l2 l4 l3)))))
def f_X11_at_R44 : Nat → qW → Int32 → Int32 → Int32 → Int32 → Option (Int32 × qW)
  | 0, _, _, _, _, _ => none
  | n + 1, w, l1, l2, l3, l4 => f_X11_at_B44 (f_X11_at_R44 n) w l1 l2 l3 l4
def f_X11_at_B19 (w : qW) (l1 : Int32) (l2 : Int32) : Option (Int32 × qW) :=
  q_cl (f_X11_isHour w (Int32.toInt64 l1)) (fun r1 w2 => if r1 = 0 then (some ((-1), w2)) else (q_cl (f_X11_within w2 (Int32.toInt64 l2) 0 1) (fun r3 w4 => if r3 = 0 then (some ((-1), w4)) else (f_X11_at_R44  q_fuel w4 l1 l2 0 0))))
def f_X11_at (w : qW) (a1 : Int32) (a2 : Int32) : Option (Int32 × qW) :=
  if a1 = 12 then (if a2 = 0 then (q_cl (f_X11_everybody w ) (fun r1 w2 => q_cl (f_X11_missesAll w2 r1) (fun r3 w4 => some (r3, w4)))) else (f_X11_at_B19 w a1 a2)) else (f_X11_at_B19 w a1 a2)
def f_X11_isEnough_B2 (k2 : qW → Int32 → Int32 → Option (Int32 × qW)) (w : qW) (l1 : Int32) (l2 : Int32) : Option (Int32 × qW) :=
  if (q_I w 48 7) ≤ l2 then (some (1 &&& 1, w)) else (q_cl (f_X11_missesOf w l2 l1) (fun r1 w2 => q_cl (f_X11_everybody w2 ) (fun r3 w4 => q_cl (f_X11_missesOf w4 l2 r3) (fun r5 w6 => if r1 ≤ r5 then (q_bn (l2 + 1 : Int32) (fun v7 => k2 w6 l1 v7)) else (some (0 &&& 1, w6))))))
def f_X11_isEnough_R2 : Nat → qW → Int32 → Int32 → Option (Int32 × qW)
  | 0, _, _, _ => none
  | n + 1, w, l1, l2 => f_X11_isEnough_B2 (f_X11_isEnough_R2 n) w l1 l2
def f_X11_isEnough (w : qW) (a1 : Int32) : Option (Int32 × qW) :=
  f_X11_isEnough_R2  q_fuel w a1 0
def f_X11_payOf_B34 (k4 : qW → Int32 → Int32 → Int32 → Option (Int32 × qW)) (w : qW) (l1 : Int32) (l3 : Int32) (s0 : Int32) (s1 : Int32) : Option (Int32 × qW) :=
  q_bn (s1 + s0 : Int32) (fun v1 => q_bn (l3 + 1 : Int32) (fun v2 => k4 w l1 v1 v2))
def f_X11_payOf_B4 (k4 : qW → Int32 → Int32 → Int32 → Option (Int32 × qW)) (w : qW) (l1 : Int32) (l2 : Int32) (l3 : Int32) : Option (Int32 × qW) :=
  if (q_I w 48 6) ≤ l3 then (some (l2, w)) else (q_cl (f_X11_isIn w l1 l3) (fun r1 w2 => if r1 = 0 then (f_X11_payOf_B34 k4 w2 l1 l3 0 l2) else (q_ld (q_A w2 49) 57 ((24 : Int32) + l3) (fun v3 => f_X11_payOf_B34 k4 w2 l1 l3 v3 l2))))
def f_X11_payOf_R4 : Nat → qW → Int32 → Int32 → Int32 → Option (Int32 × qW)
  | 0, _, _, _, _ => none
  | n + 1, w, l1, l2, l3 => f_X11_payOf_B4 (f_X11_payOf_R4 n) w l1 l2 l3
def f_X11_payOf (w : qW) (a1 : Int32) : Option (Int32 × qW) :=
  f_X11_payOf_R4  q_fuel w a1 0 0
def f_X11_enough_B135 (k78 : qW → Int32 → Int32 → Int32 → Option (Int32 × qW)) (w : qW) (l1 : Int32) (l2 : Int32) (l3 : Int32) : Option (Int32 × qW) :=
  q_bn (l3 + (-1) : Int32) (fun v1 => k78 w l1 l2 v1)
def f_X11_enough_B125 (k78 : qW → Int32 → Int32 → Int32 → Option (Int32 × qW)) (w : qW) (l1 : Int32) (l2 : Int32) (l3 : Int32) : Option (Int32 × qW) :=
  q_cl (f_X11_isEnough w l3) (fun r1 w2 => if r1 = 0 then (f_X11_enough_B135 k78 w2 l1 l2 l3) else (f_X11_enough_B135 k78 w2 l1 l3 l3))
def f_X11_enough_B102 (k78 : qW → Int32 → Int32 → Int32 → Option (Int32 × qW)) (w : qW) (l1 : Int32) (l2 : Int32) (l3 : Int32) (s0 : Int32) : Option (Int32 × qW) :=
  if s0 < 0 then (f_X11_enough_B125 k78 w l1 l2 l3) else (if s0 = 0 then (q_cl (f_X11_bitsOf w l3) (fun r1 w2 => q_cl (f_X11_bitsOf w2 l2) (fun r3 w4 => if r3 < r1 then (f_X11_enough_B135 k78 w4 l1 l2 l3) else (f_X11_enough_B125 k78 w4 l1 l2 l3)))) else (f_X11_enough_B135 k78 w l1 l2 l3))
def f_X11_enough_B78 (k78 : qW → Int32 → Int32 → Int32 → Option (Int32 × qW)) (w : qW) (l1 : Int32) (l2 : Int32) (l3 : Int32) : Option (Int32 × qW) :=
  if l3 < 0 then (if l1 = 0 then (q_cl (f_X11_bitsOf w l2) (fun r3 w4 => some (r3, w4))) else (if l1 = 3 then (q_cl (f_X11_payOf w l2) (fun r1 w2 => some (r1, w2))) else (some (l2, w)))) else (if 2 ≤ l1 then (q_cl (f_X11_payOf w l3) (fun r5 w6 => q_cl (f_X11_payOf w6 l2) (fun r7 w8 => f_X11_enough_B102 k78 w8 l1 l2 l3 (r5 - r7)))) else (f_X11_enough_B102 k78 w l1 l2 l3 0))
def f_X11_enough_R78 : Nat → qW → Int32 → Int32 → Int32 → Option (Int32 × qW)
  | 0, _, _, _, _ => none
  | n + 1, w, l1, l2, l3 => f_X11_enough_B78 (f_X11_enough_R78 n) w l1 l2 l3
def f_X11_enough_B56 (k23 : qW → Int32 → Int32 → Option (Int32 × qW)) (w : qW) (l3 : Int32) (s0 : Int32) (s1 : Int32) : Option (Int32 × qW) :=
  q_bn (s1 ||| s0 : Int32) (fun v1 => q_bn (l3 + 1 : Int32) (fun v2 => k23 w v1 v2))
def f_X11_enough_B23 (k23 : qW → Int32 → Int32 → Option (Int32 × qW)) (w : qW) (l2 : Int32) (l3 : Int32) : Option (Int32 × qW) :=
  if (q_I w 48 6) ≤ l3 then (some (l2, w)) else (q_cl (f_X11_everybody w ) (fun r1 w2 => q_cl (f_X11_isEnough w2 (r1 &&& (((1 : Int32) <<< (l3 &&& 31)) ^^^ (-1)))) (fun r3 w4 => if r3 = 0 then (f_X11_enough_B56 k23 w4 l3 ((1 : Int32) <<< (l3 &&& 31)) l2) else (f_X11_enough_B56 k23 w4 l3 0 l2))))
def f_X11_enough_R23 : Nat → qW → Int32 → Int32 → Option (Int32 × qW)
  | 0, _, _, _ => none
  | n + 1, w, l2, l3 => f_X11_enough_B23 (f_X11_enough_R23 n) w l2 l3
def f_X11_enough (w : qW) (a1 : Int32) : Option (Int32 × qW) :=
  q_cl (f_X11_within w (Int32.toInt64 a1) 0 4) (fun r1 w2 => if r1 = 0 then (some ((-1), w2)) else (if a1 = 4 then (f_X11_enough_R23  q_fuel w2 0 0) else (q_cl (f_X11_everybody w2 ) (fun r3 w4 => q_cl (f_X11_everybody w4 ) (fun r5 w6 => q_bn (r5 - 1 : Int32) (fun v7 => f_X11_enough_R78  q_fuel w6 a1 r3 v7))))))
def f_X11_isEnoughAt_B44 (k2 : qW → Int32 → Int32 → Int32 → Option (Int32 × qW)) (w : qW) (l1 : Int32) (l2 : Int32) (l3 : Int32) : Option (Int32 × qW) :=
  q_bn (l3 + 1 : Int32) (fun v1 => k2 w l1 l2 v1)
def f_X11_isEnoughAt_B2 (k2 : qW → Int32 → Int32 → Int32 → Option (Int32 × qW)) (w : qW) (l1 : Int32) (l2 : Int32) (l3 : Int32) : Option (Int32 × qW) :=
  if (q_I w 48 7) ≤ l3 then (some (1 &&& 1, w)) else (q_cl (f_X11_wants w l3 l1) (fun r1 w2 => if r1 = 0 then (f_X11_isEnoughAt_B44 k2 w2 l1 l2 l3) else (q_cl (f_X11_everybody w2 ) (fun r3 w4 => q_cl (f_X11_isServed w4 l3 l1 r3) (fun r5 w6 => if r5 = 0 then (f_X11_isEnoughAt_B44 k2 w6 l1 l2 l3) else (q_cl (f_X11_isServed w6 l3 l1 l2) (fun r7 w8 => if r7 = 0 then (some (0 &&& 1, w8)) else (f_X11_isEnoughAt_B44 k2 w8 l1 l2 l3))))))))
def f_X11_isEnoughAt_R2 : Nat → qW → Int32 → Int32 → Int32 → Option (Int32 × qW)
  | 0, _, _, _, _ => none
  | n + 1, w, l1, l2, l3 => f_X11_isEnoughAt_B2 (f_X11_isEnoughAt_R2 n) w l1 l2 l3
def f_X11_isEnoughAt (w : qW) (a1 : Int32) (a2 : Int32) : Option (Int32 × qW) :=
  f_X11_isEnoughAt_R2  q_fuel w a1 a2 0
def f_X11_rosterAt_B40 (k12 : qW → Int32 → Int32 → Int32 → Option (Int32 × qW)) (w : qW) (l1 : Int32) (l2 : Int32) (l3 : Int32) : Option (Int32 × qW) :=
  q_bn (l3 + (-1) : Int32) (fun v1 => k12 w l1 l2 v1)
def f_X11_rosterAt_B12 (k12 : qW → Int32 → Int32 → Int32 → Option (Int32 × qW)) (w : qW) (l1 : Int32) (l2 : Int32) (l3 : Int32) : Option (Int32 × qW) :=
  if l3 < 0 then (some (l2, w)) else (q_cl (f_X11_payOf w l3) (fun r1 w2 => q_cl (f_X11_payOf w2 l2) (fun r3 w4 => if r3 < r1 then (f_X11_rosterAt_B40 k12 w4 l1 l2 l3) else (q_cl (f_X11_isEnoughAt w4 l1 l3) (fun r5 w6 => if r5 = 0 then (f_X11_rosterAt_B40 k12 w6 l1 l2 l3) else (f_X11_rosterAt_B40 k12 w6 l1 l3 l3))))))
def f_X11_rosterAt_R12 : Nat → qW → Int32 → Int32 → Int32 → Option (Int32 × qW)
  | 0, _, _, _, _ => none
  | n + 1, w, l1, l2, l3 => f_X11_rosterAt_B12 (f_X11_rosterAt_R12 n) w l1 l2 l3
def f_X11_rosterAt (w : qW) (a1 : Int32) : Option (Int32 × qW) :=
  q_cl (f_X11_everybody w ) (fun r1 w2 => q_cl (f_X11_everybody w2 ) (fun r3 w4 => q_bn (r3 - 1 : Int32) (fun v5 => f_X11_rosterAt_R12  q_fuel w4 a1 r1 v5)))
def f_X11_roster_B30 (k30 : qW → Int32 → Int32 → Option (Int32 × qW)) (w : qW) (l2 : Int32) (l3 : Int32) : Option (Int32 × qW) :=
  if 12 ≤ l3 then (some (l2, w)) else (q_cl (f_X11_rosterAt w l3) (fun r1 w2 => q_cl (f_X11_payOf w2 r1) (fun r3 w4 => q_bn (l2 + r3 : Int32) (fun v5 => q_bn (l3 + 1 : Int32) (fun v6 => k30 w4 v5 v6)))))
def f_X11_roster_R30 : Nat → qW → Int32 → Int32 → Option (Int32 × qW)
  | 0, _, _, _ => none
  | n + 1, w, l2, l3 => f_X11_roster_B30 (f_X11_roster_R30 n) w l2 l3
def f_X11_roster (w : qW) (a1 : Int32) : Option (Int32 × qW) :=
  q_cl (f_X11_within w (Int32.toInt64 a1) 0 12) (fun r1 w2 => if r1 = 0 then (some ((-1), w2)) else (if 12 ≤ a1 then (f_X11_roster_R30  q_fuel w2 0 0) else (q_cl (f_X11_rosterAt w2 a1) (fun r3 w4 => some (r3, w4)))))
def f_X11_oneMore_B123 (k59 : qW → Int32 → Int32 → Int32 → Int32 → Option (Int32 × qW)) (w : qW) (l2 : Int32) (l3 : Int32) (l5 : Int32) (s0 : Int32) : Option (Int32 × qW) :=
  q_bn (l5 + 1 : Int32) (fun v1 => k59 w l2 l3 s0 v1)
def f_X11_oneMore_B108 (k59 : qW → Int32 → Int32 → Int32 → Int32 → Option (Int32 × qW)) (w : qW) (l2 : Int32) (l4 : Int32) (l5 : Int32) (l6 : Int32) (s0 : Int32) : Option (Int32 × qW) :=
  if l4 ≤ l6 then (f_X11_oneMore_B123 k59 w l2 s0 l5 l4) else (f_X11_oneMore_B123 k59 w l2 s0 l5 l6)
def f_X11_oneMore_B59 (k59 : qW → Int32 → Int32 → Int32 → Int32 → Option (Int32 × qW)) (w : qW) (l2 : Int32) (l3 : Int32) (l4 : Int32) (l5 : Int32) : Option (Int32 × qW) :=
  if 144 ≤ l5 then (q_st w 49 57 (q_I w 48 6) 0 (fun w1 => if l2 = 0 then (some (l3, w1)) else (some (l4, w1)))) else (q_st w 49 57 (q_I w 48 6) l5 (fun w2 => q_cl (f_X11_everybody w2 ) (fun r3 w4 => q_cl (f_X11_missesAll w4 (r3 ||| ((1 : Int32) <<< ((q_I w4 48 6) &&& 31)))) (fun r5 w6 => if l4 ≤ r5 then (f_X11_oneMore_B108 k59 w6 l2 l4 l5 r5 l3) else (f_X11_oneMore_B108 k59 w6 l2 l4 l5 r5 l5)))))
def f_X11_oneMore_R59 : Nat → qW → Int32 → Int32 → Int32 → Int32 → Option (Int32 × qW)
  | 0, _, _, _, _, _ => none
  | n + 1, w, l2, l3, l4, l5 => f_X11_oneMore_B59 (f_X11_oneMore_R59 n) w l2 l3 l4 l5
def f_X11_oneMore (w : qW) (a1 : Int32) (a2 : Int32) : Option (Int32 × qW) :=
  q_cl (f_X11_within w (Int32.toInt64 a1) 0 2) (fun r1 w2 => if r1 = 0 then (some ((-1), w2)) else (q_cl (f_X11_within w2 (Int32.toInt64 a2) 0 1) (fun r3 w4 => if r3 = 0 then (some ((-1), w4)) else (q_st w4 49 57 ((8 : Int32) + (q_I w4 48 6)) a1 (fun w5 => q_st w5 49 57 ((16 : Int32) + (q_I w5 48 6)) 1 (fun w6 => f_X11_oneMore_R59  q_fuel w6 a2 0 1000000 0))))))
def f_X11_stepFrom_B54 (w : qW) (l2 : Int32) (s0 : Int32) (s1 : Int32) : Option (Int32 × qW) :=
  q_bn (s1 + s0 : Int32) (fun v1 => q_cl (f_X11_within w (Int32.toInt64 l2) 0 11) (fun r2 w3 => if r2 = 0 then (some ((-1), w3)) else (q_cl (f_X11_within w3 (Int32.toInt64 v1) 0 11) (fun r4 w5 => if r4 = 0 then (some ((-1), w5)) else (some (((12 : Int32) * v1) + l2, w5))))))
def f_X11_stepFrom_B30 (w : qW) (l0 : Int32) (l1 : Int32) (s0 : Int32) (s1 : Int32) : Option (Int32 × qW) :=
  q_bn (s1 + s0 : Int32) (fun v1 => if l1 = 0 then (f_X11_stepFrom_B54 w v1 (-1) (l0 / 12)) else (if l1 = 2 then (f_X11_stepFrom_B54 w v1 1 (l0 / 12)) else (f_X11_stepFrom_B54 w v1 0 (l0 / 12))))
def f_X11_stepFrom (w : qW) (a1 : Int32) (a2 : Int32) : Option (Int32 × qW) :=
  if a2 = 4 then (some (a1, w)) else (if a2 = 1 then (f_X11_stepFrom_B30 w a1 a2 1 (q_rem a1 12)) else (if a2 = 3 then (f_X11_stepFrom_B30 w a1 a2 (-1) (q_rem a1 12)) else (f_X11_stepFrom_B30 w a1 a2 0 (q_rem a1 12))))
def f_X11_step_B113 (k44 : qW → Int32 → Int32 → Int32 → Int32 → Int32 → Int32 → Option (Int32 × qW)) (w : qW) (l1 : Int32) (l2 : Int32) (l3 : Int32) (l4 : Int32) (l5 : Int32) (l6 : Int32) : Option (Int32 × qW) :=
  q_bn (l6 + 1 : Int32) (fun v1 => k44 w l1 l2 l3 l4 l5 v1)
def f_X11_step_B111 (k44 : qW → Int32 → Int32 → Int32 → Int32 → Int32 → Int32 → Option (Int32 × qW)) (w : qW) (l1 : Int32) (l2 : Int32) (l3 : Int32) (l4 : Int32) (l6 : Int32) (s0 : Int32) : Option (Int32 × qW) :=
  f_X11_step_B113 k44 w l1 l2 l3 l4 s0 l6
def f_X11_step_B95 (k44 : qW → Int32 → Int32 → Int32 → Int32 → Int32 → Int32 → Option (Int32 × qW)) (w : qW) (l1 : Int32) (l2 : Int32) (l3 : Int32) (l5 : Int32) (l6 : Int32) (l8 : Int32) (s0 : Int32) : Option (Int32 × qW) :=
  if l5 ≤ l8 then (f_X11_step_B111 k44 w l1 l2 l3 s0 l6 l5) else (f_X11_step_B111 k44 w l1 l2 l3 s0 l6 l8)
def f_X11_step_B44 (k44 : qW → Int32 → Int32 → Int32 → Int32 → Int32 → Int32 → Option (Int32 × qW)) (w : qW) (l1 : Int32) (l2 : Int32) (l3 : Int32) (l4 : Int32) (l5 : Int32) (l6 : Int32) : Option (Int32 × qW) :=
  if 4 ≤ l6 then (q_st w 49 57 l1 l3 (fun w1 => if l2 = 0 then (some (l4, w1)) else (some (l5, w1)))) else (q_cl (f_X11_stepFrom w l3 l6) (fun r2 w3 => if r2 < 0 then (f_X11_step_B113 k44 w3 l1 l2 l3 l4 l5 l6) else (q_st w3 49 57 l1 r2 (fun w4 => q_cl (f_X11_everybody w4 ) (fun r5 w6 => q_cl (f_X11_missesAll w6 r5) (fun r7 w8 => if l5 ≤ r7 then (f_X11_step_B95 k44 w8 l1 l2 l3 l5 l6 r7 l4) else (f_X11_step_B95 k44 w8 l1 l2 l3 l5 l6 r7 l6)))))))
def f_X11_step_R44 : Nat → qW → Int32 → Int32 → Int32 → Int32 → Int32 → Int32 → Option (Int32 × qW)
  | 0, _, _, _, _, _, _, _ => none
  | n + 1, w, l1, l2, l3, l4, l5, l6 => f_X11_step_B44 (f_X11_step_R44 n) w l1 l2 l3 l4 l5 l6
def f_X11_step (w : qW) (a1 : Int32) (a2 : Int32) : Option (Int32 × qW) :=
  q_cl (f_X11_isMan w (Int32.toInt64 a1)) (fun r1 w2 => if r1 = 0 then (some ((-1), w2)) else (q_cl (f_X11_within w2 (Int32.toInt64 a2) 0 1) (fun r3 w4 => if r3 = 0 then (some ((-1), w4)) else (q_ld (q_A w4 49) 57 a1 (fun v5 => q_cl (f_X11_everybody w4 ) (fun r6 w7 => q_cl (f_X11_missesAll w7 r6) (fun r8 w9 => f_X11_step_R44  q_fuel w9 a1 a2 v5 4 r8 0)))))))
def f_X11_rowIs (w : qW) (a1 : Int32) (a2 : Int32) : Option (Int32 × qW) :=
  q_cl (f_X11_isShelf w a1) (fun r1 w2 => if r1 = 0 then (some ((-1), w2)) else (q_ld (q_A w2 63) 6 a1 (fun v3 => if 0 ≤ v3 then (q_ld (q_A w2 63) 6 a1 (fun v4 => if v4 = ((50 : Int32) + a2) then (some (1, w2)) else (some ((-12), w2)))) else (some ((-11), w2)))))
def f_X11_firstFalse_B3 (k3 : qW → Int32 → Int32 → Int32 → Int32 → Option (Int32 × qW)) (w : qW) (l1 : Int32) (l2 : Int32) (l3 : Int32) (l4 : Int32) : Option (Int32 × qW) :=
  q_ld (q_A w 64) 6 l1 (fun v1 => if v1 ≤ ((3 : Int32) * l4) then (some ((-2), w)) else (q_bn (((60 : Int32) * l1) + ((3 : Int32) * l4) : Int32) (fun v2 => q_ld (q_A w 64) 6 l1 (fun v3 => if v3 ≤ (((3 : Int32) * l4) + 2) then (some (l4, w)) else (q_ld (q_G w 65) 360 v2 (fun v4 => q_cl (f_X11_within w v4 0 11) (fun r5 w6 => if r5 = 0 then (some (l4, w6)) else (q_ld (q_G w6 65) 360 (v2 + 1) (fun v7 => q_cl (f_X11_within w6 v7 0 11) (fun r8 w9 => if r8 = 0 then (some (l4, w9)) else (q_ld (q_G w9 65) 360 (v2 + 1) (fun v10 => q_ld (q_G w9 65) 360 v2 (fun v11 => q_cl (f_X11_shadeOf w9 l3 (Int64.toInt32 (((12 : Int64) * v10) + v11)) l2) (fun r12 w13 => q_ld (q_G w13 65) 360 (v2 + 2) (fun v14 => if (lg_cmp (Int32.toInt64 r12) v14) = 0 then (q_bn (l4 + 1 : Int32) (fun v15 => k3 w13 l1 l2 l3 v15)) else (some (l4, w13)))))))))))))))))
def f_X11_firstFalse_R3 : Nat → qW → Int32 → Int32 → Int32 → Int32 → Option (Int32 × qW)
  | 0, _, _, _, _, _ => none
  | n + 1, w, l1, l2, l3, l4 => f_X11_firstFalse_B3 (f_X11_firstFalse_R3 n) w l1 l2 l3 l4
def f_X11_firstFalse (w : qW) (a1 : Int32) (a2 : Int32) (a3 : Int32) : Option (Int32 × qW) :=
  f_X11_firstFalse_R3  q_fuel w a1 a2 a3 0
def f_X11_judge_B18 (w : qW) : Option (Int32 × qW) :=
  some ((-1), w)
def f_X11_judge (w : qW) (a1 : Int32) (a2 : Int32) : Option (Int32 × qW) :=
  q_cl (f_X11_rowIs w a1 0) (fun r1 w2 => if r1 = (-1) then (f_X11_judge_B18 w2 ) else (q_cl (f_X11_isHour w2 (Int32.toInt64 a2)) (fun r3 w4 => if r3 = 0 then (f_X11_judge_B18 w4 ) else (q_cl (f_X11_rowIs w4 a1 0) (fun r5 w6 => if 0 ≤ r5 then (q_cl (f_X11_everybody w6 ) (fun r7 w8 => q_cl (f_X11_firstFalse w8 a1 a2 r7) (fun r9 w10 => some (r9, w10)))) else (q_cl (f_X11_rowIs w6 a1 0) (fun r11 w12 => some (r11, w12))))))))
def f_X11_stood_B189 (k110 : qW → Int32 → Int32 → Int32 → Int32 → Int32 → Int32 → Int32 → Int32 → Int32 → Option (Int32 × qW)) (w : qW) (l1 : Int32) (l2 : Int32) (l3 : Int32) (l4 : Int32) (l5 : Int32) (l6 : Int32) (l7 : Int32) (l8 : Int32) (l9 : Int32) : Option (Int32 × qW) :=
  q_bn (l9 + 1 : Int32) (fun v1 => k110 w l1 l2 l3 l4 l5 l6 l7 l8 v1)
def f_X11_stood_B183 (k110 : qW → Int32 → Int32 → Int32 → Int32 → Int32 → Int32 → Int32 → Int32 → Int32 → Option (Int32 × qW)) (w : qW) (l1 : Int32) (l2 : Int32) (l3 : Int32) (l4 : Int32) (l5 : Int32) (l6 : Int32) (l7 : Int32) (l9 : Int32) (s0 : Int32) (s1 : Int32) : Option (Int32 × qW) :=
  q_bn (s1 ||| s0 : Int32) (fun v1 => q_bn (l6 + 1 : Int32) (fun v2 => f_X11_stood_B189 k110 w l1 l2 l3 l4 l5 v2 l7 v1 l9))
def f_X11_stood_B166 (k110 : qW → Int32 → Int32 → Int32 → Int32 → Int32 → Int32 → Int32 → Int32 → Int32 → Option (Int32 × qW)) (w : qW) (l1 : Int32) (l2 : Int32) (l3 : Int32) (l4 : Int32) (l5 : Int32) (l6 : Int32) (l8 : Int32) (l9 : Int32) (s0 : Int32) : Option (Int32 × qW) :=
  if l3 = 2 then (f_X11_stood_B183 k110 w l1 l2 l3 l4 l5 l6 s0 l9 ((1 : Int32) <<< (l9 &&& 31)) l8) else (f_X11_stood_B183 k110 w l1 l2 l3 l4 l5 l6 s0 l9 0 l8)
def f_X11_stood_B124 (k110 : qW → Int32 → Int32 → Int32 → Int32 → Int32 → Int32 → Int32 → Int32 → Int32 → Option (Int32 × qW)) (w : qW) (l1 : Int32) (l2 : Int32) (l3 : Int32) (l4 : Int32) (l5 : Int32) (l6 : Int32) (l7 : Int32) (l8 : Int32) (l9 : Int32) (s0 : Int32) (s1 : Int32) : Option (Int32 × qW) :=
  if s0 ≤ s1 then (q_st w 49 57 l4 l5 (fun w1 => if l3 = 0 then (some (l6, w1)) else (if l3 = 1 then (some (l7, w1)) else (some (l8, w1))))) else (q_st w 49 57 l4 l9 (fun w2 => q_cl (f_X11_everybody w2 ) (fun r3 w4 => q_cl (f_X11_firstFalse w4 l1 (q_rem l2 100) r3) (fun r5 w6 => if r5 = (-2) then (if l6 = 0 then (f_X11_stood_B166 k110 w6 l1 l2 l3 l4 l5 l6 l8 l9 l9) else (f_X11_stood_B166 k110 w6 l1 l2 l3 l4 l5 l6 l8 l9 l7)) else (f_X11_stood_B189 k110 w6 l1 l2 l3 l4 l5 l6 l7 l8 l9)))))
def f_X11_stood_B110 (k110 : qW → Int32 → Int32 → Int32 → Int32 → Int32 → Int32 → Int32 → Int32 → Int32 → Option (Int32 × qW)) (w : qW) (l1 : Int32) (l2 : Int32) (l3 : Int32) (l4 : Int32) (l5 : Int32) (l6 : Int32) (l7 : Int32) (l8 : Int32) (l9 : Int32) : Option (Int32 × qW) :=
  if l3 = 2 then (f_X11_stood_B124 k110 w l1 l2 l3 l4 l5 l6 l7 l8 l9 3 l9) else (f_X11_stood_B124 k110 w l1 l2 l3 l4 l5 l6 l7 l8 l9 144 l9)
def f_X11_stood_R110 : Nat → qW → Int32 → Int32 → Int32 → Int32 → Int32 → Int32 → Int32 → Int32 → Int32 → Option (Int32 × qW)
  | 0, _, _, _, _, _, _, _, _, _, _ => none
  | n + 1, w, l1, l2, l3, l4, l5, l6, l7, l8, l9 => f_X11_stood_B110 (f_X11_stood_R110 n) w l1 l2 l3 l4 l5 l6 l7 l8 l9
def f_X11_stood_B86 (w : qW) (l1 : Int32) (l2 : Int32) (l3 : Int32) (s0 : Int32) : Option (Int32 × qW) :=
  q_ld (q_A w 49) 57 s0 (fun v1 => f_X11_stood_R110  q_fuel w l1 l2 l3 s0 v1 0 (-2) 0 0)
def f_X11_stood (w : qW) (a1 : Int32) (a2 : Int32) (a3 : Int32) : Option (Int32 × qW) :=
  q_cl (f_X11_rowIs w a1 0) (fun r1 w2 => if r1 = (-1) then (some ((-1), w2)) else (if a2 < 0 then (some ((-1), w2)) else (q_cl (f_X11_isMan w2 (Int32.toInt64 (a2 / 100))) (fun r3 w4 => if r3 = 0 then (some ((-1), w4)) else (q_cl (f_X11_isHour w4 (Int32.toInt64 (q_rem a2 100))) (fun r5 w6 => if r5 = 0 then (some ((-1), w6)) else (q_cl (f_X11_within w6 (Int32.toInt64 a3) 0 2) (fun r7 w8 => if r7 = 0 then (some ((-1), w8)) else (q_cl (f_X11_rowIs w8 a1 0) (fun r9 w10 => if 0 ≤ r9 then (if a3 = 2 then (f_X11_stood_B86 w10 a1 a2 a3 ((8 : Int32) + (a2 / 100))) else (f_X11_stood_B86 w10 a1 a2 a3 (a2 / 100))) else (q_cl (f_X11_rowIs w10 a1 0) (fun r11 w12 => some (r11, w12)))))))))))))
def f_X11_who_B110 (k64 : qW → Int32 → Int32 → Int32 → Int32 → Int32 → Int32 → Int32 → Option (Int32 × qW)) (w : qW) (l1 : Int32) (l2 : Int32) (l3 : Int32) (l4 : Int32) (l5 : Int32) (l6 : Int32) (l7 : Int32) : Option (Int32 × qW) :=
  q_bn (l7 + 1 : Int32) (fun v1 => k64 w l1 l2 l3 l4 l5 l6 v1)
def f_X11_who_B98 (k64 : qW → Int32 → Int32 → Int32 → Int32 → Int32 → Int32 → Int32 → Option (Int32 × qW)) (w : qW) (l1 : Int32) (l2 : Int32) (l3 : Int32) (l4 : Int32) (l6 : Int32) (l7 : Int32) (s0 : Int32) : Option (Int32 × qW) :=
  q_bn (l6 &&& l7 : Int32) (fun v1 => q_bn (l4 + 1 : Int32) (fun v2 => f_X11_who_B110 k64 w l1 l2 l3 v2 s0 v1 l7))
def f_X11_who_B64 (k64 : qW → Int32 → Int32 → Int32 → Int32 → Int32 → Int32 → Int32 → Option (Int32 × qW)) (w : qW) (l1 : Int32) (l2 : Int32) (l3 : Int32) (l4 : Int32) (l5 : Int32) (l6 : Int32) (l7 : Int32) : Option (Int32 × qW) :=
  q_cl (f_X11_everybody w ) (fun r1 w2 => if r1 < l7 then (if l3 = 0 then (some (l4, w2)) else (if l3 = 1 then (some (l5, w2)) else (if l4 = 0 then (some (0, w2)) else (some (l6, w2))))) else (q_cl (f_X11_firstFalse w2 l1 l2 l7) (fun r3 w4 => if r3 = (-2) then (if l4 = 0 then (f_X11_who_B98 k64 w4 l1 l2 l3 l4 l6 l7 l7) else (f_X11_who_B98 k64 w4 l1 l2 l3 l4 l6 l7 l5)) else (f_X11_who_B110 k64 w4 l1 l2 l3 l4 l5 l6 l7))))
def f_X11_who_R64 : Nat → qW → Int32 → Int32 → Int32 → Int32 → Int32 → Int32 → Int32 → Option (Int32 × qW)
  | 0, _, _, _, _, _, _, _, _ => none
  | n + 1, w, l1, l2, l3, l4, l5, l6, l7 => f_X11_who_B64 (f_X11_who_R64 n) w l1 l2 l3 l4 l5 l6 l7
def f_X11_who (w : qW) (a1 : Int32) (a2 : Int32) (a3 : Int32) : Option (Int32 × qW) :=
  q_cl (f_X11_rowIs w a1 0) (fun r1 w2 => if r1 = (-1) then (some ((-1), w2)) else (q_cl (f_X11_isHour w2 (Int32.toInt64 a2)) (fun r3 w4 => if r3 = 0 then (some ((-1), w4)) else (q_cl (f_X11_within w4 (Int32.toInt64 a3) 0 2) (fun r5 w6 => if r5 = 0 then (some ((-1), w6)) else (q_cl (f_X11_rowIs w6 a1 0) (fun r7 w8 => if 0 ≤ r7 then (q_cl (f_X11_everybody w8 ) (fun r9 w10 => f_X11_who_R64  q_fuel w10 a1 a2 a3 0 (-2) r9 0)) else (q_cl (f_X11_rowIs w8 a1 0) (fun r11 w12 => some (r11, w12))))))))))
def f_X11_wish_B50 (k50 : qW → Int32 → Int32 → Int32 → Int32 → Int32 → Option (Int32 × qW)) (w : qW) (l1 : Int32) (l2 : Int32) (l3 : Int32) (l4 : Int32) (l5 : Int32) : Option (Int32 × qW) :=
  q_ld (q_A w 64) 6 l1 (fun v1 => if v1 ≤ l5 then (q_ld (q_A w 64) 6 l1 (fun v2 => if v2 = 0 then (some ((-2), w)) else (if l2 = 0 then (some (l3, w)) else (some (l4, w))))) else (q_ld (q_G w 65) 360 (((60 : Int32) * l1) + l5) (fun v3 => q_cl (f_X11_within w v3 0 4095) (fun r4 w5 => if r4 = 0 then (some ((-2), w5)) else (q_bn (l3 &&& (Int64.toInt32 v3) : Int32) (fun v6 => q_bn (l4 &&& ((Int64.toInt32 v3) ^^^ (-1)) : Int32) (fun v7 => q_bn (l5 + 1 : Int32) (fun v8 => k50 w5 l1 l2 v6 v7 v8))))))))
def f_X11_wish_R50 : Nat → qW → Int32 → Int32 → Int32 → Int32 → Int32 → Option (Int32 × qW)
  | 0, _, _, _, _, _, _ => none
  | n + 1, w, l1, l2, l3, l4, l5 => f_X11_wish_B50 (f_X11_wish_R50 n) w l1 l2 l3 l4 l5
def f_X11_wish (w : qW) (a1 : Int32) (a2 : Int32) : Option (Int32 × qW) :=
  q_cl (f_X11_rowIs w a1 1) (fun r1 w2 => if r1 = (-1) then (some ((-1), w2)) else (q_cl (f_X11_within w2 (Int32.toInt64 a2) 0 1) (fun r3 w4 => if r3 = 0 then (some ((-1), w4)) else (q_cl (f_X11_rowIs w4 a1 1) (fun r5 w6 => if 0 ≤ r5 then (f_X11_wish_R50  q_fuel w6 a1 a2 4095 4095 0) else (q_cl (f_X11_rowIs w6 a1 1) (fun r7 w8 => some (r7, w8))))))))
def f_X11_givesAll_B5 (k5 : qW → Int32 → Int32 → Int32 → Int32 → Option (Int32 × qW)) (w : qW) (l1 : Int32) (l2 : Int32) (l3 : Int32) (l4 : Int32) : Option (Int32 × qW) :=
  if (q_I w 48 7) ≤ l4 then (some (l3, w)) else (q_ld (q_A w 49) 57 ((32 : Int32) + l4) (fun v1 => q_cl (f_X11_shadeBy w l1 v1 l2) (fun r2 w3 => q_bn (l3 + r2 : Int32) (fun v4 => q_bn (l4 + 1 : Int32) (fun v5 => k5 w3 l1 l2 v4 v5)))))
def f_X11_givesAll_R5 : Nat → qW → Int32 → Int32 → Int32 → Int32 → Option (Int32 × qW)
  | 0, _, _, _, _, _ => none
  | n + 1, w, l1, l2, l3, l4 => f_X11_givesAll_B5 (f_X11_givesAll_R5 n) w l1 l2 l3 l4
def f_X11_givesAll (w : qW) (a1 : Int32) (a2 : Int32) : Option (Int32 × qW) :=
  f_X11_givesAll_R5  q_fuel w a1 a2 0 0
def f_X11_share_B46 (k46 : qW → Int32 → Int32 → Int32 → Int32 → Option (Int32 × qW)) (w : qW) (l1 : Int32) (l2 : Int32) (l3 : Int32) (l4 : Int32) : Option (Int32 × qW) :=
  if (q_I w 48 6) ≤ l4 then (if l3 = 0 then (some (0, w)) else (q_cl (f_X11_givesAll w (l1 / 100) (q_rem l1 100)) (fun r1 w2 => q_nz l3 (some ((l2 * r1) / l3, w2))))) else (q_cl (f_X11_givesAll w l4 (q_rem l1 100)) (fun r3 w4 => q_bn (l3 + r3 : Int32) (fun v5 => q_bn (l4 + 1 : Int32) (fun v6 => k46 w4 l1 l2 v5 v6))))
def f_X11_share_R46 : Nat → qW → Int32 → Int32 → Int32 → Int32 → Option (Int32 × qW)
  | 0, _, _, _, _, _ => none
  | n + 1, w, l1, l2, l3, l4 => f_X11_share_B46 (f_X11_share_R46 n) w l1 l2 l3 l4
def f_X11_share (w : qW) (a1 : Int32) (a2 : Int32) : Option (Int32 × qW) :=
  if a1 < 0 then (some ((-1), w)) else (q_cl (f_X11_isMan w (Int32.toInt64 (a1 / 100))) (fun r1 w2 => if r1 = 0 then (some ((-1), w2)) else (q_cl (f_X11_isHour w2 (Int32.toInt64 (q_rem a1 100))) (fun r3 w4 => if r3 = 0 then (some ((-1), w4)) else (q_cl (f_X11_within w4 (Int32.toInt64 a2) 0 9999) (fun r5 w6 => if r5 = 0 then (some ((-1), w6)) else (f_X11_share_R46  q_fuel w6 a1 a2 0 0)))))))
def f_X11_late_B51 (k25 : qW → Int32 → Int32 → Int32 → Int32 → Option (Int32 × qW)) (w : qW) (l1 : Int32) (l2 : Int32) (l4 : Int32) (s0 : Int32) : Option (Int32 × qW) :=
  q_bn (l4 + 1 : Int32) (fun v1 => k25 w l1 l2 s0 v1)
def f_X11_late_B25 (k25 : qW → Int32 → Int32 → Int32 → Int32 → Option (Int32 × qW)) (w : qW) (l1 : Int32) (l2 : Int32) (l3 : Int32) (l4 : Int32) : Option (Int32 × qW) :=
  if l2 < l4 then (some (l3, w)) else (q_cl (f_X11_everybody w ) (fun r1 w2 => q_cl (f_X11_isServed w2 l1 l4 r1) (fun r3 w4 => if r3 = 0 then (f_X11_late_B51 k25 w4 l1 l2 l4 l3) else (f_X11_late_B51 k25 w4 l1 l2 l4 l4))))
def f_X11_late_R25 : Nat → qW → Int32 → Int32 → Int32 → Int32 → Option (Int32 × qW)
  | 0, _, _, _, _, _ => none
  | n + 1, w, l1, l2, l3, l4 => f_X11_late_B25 (f_X11_late_R25 n) w l1 l2 l3 l4
def f_X11_late (w : qW) (a1 : Int32) (a2 : Int32) : Option (Int32 × qW) :=
  q_cl (f_X11_isSitter w (Int32.toInt64 a1)) (fun r1 w2 => if r1 = 0 then (some ((-1), w2)) else (q_cl (f_X11_isHour w2 (Int32.toInt64 a2)) (fun r3 w4 => if r3 = 0 then (some ((-1), w4)) else (f_X11_late_R25  q_fuel w4 a1 a2 (-2) 0))))
def f_X11_isShadedFrom_B129 (r_X11_isShadedFrom : qW → Int32 → Int32 → Int32 → Int32 → Int32 → Option (Int32 × qW)) (w : qW) (l6 : Int32) (l7 : Int32) (l8 : Int32) (l9 : Int32) : Option (Int32 × qW) :=
  q_st w 49 57 l6 l8 (fun w1 => if l9 = l7 then (some (1 &&& 1, w1)) else (some (0 &&& 1, w1)))
def f_X11_isShadedFrom_B123 (r_X11_isShadedFrom : qW → Int32 → Int32 → Int32 → Int32 → Int32 → Option (Int32 × qW)) (k64 : qW → Int32 → Int32 → Int32 → Int32 → Int32 → Int32 → Int32 → Int32 → Int32 → Int32 → Option (Int32 × qW)) (w : qW) (l1 : Int32) (l2 : Int32) (l3 : Int32) (l4 : Int32) (l5 : Int32) (l6 : Int32) (l7 : Int32) (l8 : Int32) (l9 : Int32) (l10 : Int32) : Option (Int32 × qW) :=
  q_bn (l10 + 1 : Int32) (fun v1 => k64 w l1 l2 l3 l4 l5 l6 l7 l8 l9 v1)
def f_X11_isShadedFrom_B121 (r_X11_isShadedFrom : qW → Int32 → Int32 → Int32 → Int32 → Int32 → Option (Int32 × qW)) (k64 : qW → Int32 → Int32 → Int32 → Int32 → Int32 → Int32 → Int32 → Int32 → Int32 → Int32 → Option (Int32 × qW)) (w : qW) (l1 : Int32) (l2 : Int32) (l3 : Int32) (l4 : Int32) (l5 : Int32) (l6 : Int32) (l7 : Int32) (l8 : Int32) (l10 : Int32) (s0 : Int32) : Option (Int32 × qW) :=
  f_X11_isShadedFrom_B123 r_X11_isShadedFrom k64 w l1 l2 l3 l4 l5 l6 l7 l8 s0 l10
def f_X11_isShadedFrom_B64 (r_X11_isShadedFrom : qW → Int32 → Int32 → Int32 → Int32 → Int32 → Option (Int32 × qW)) (k64 : qW → Int32 → Int32 → Int32 → Int32 → Int32 → Int32 → Int32 → Int32 → Int32 → Int32 → Option (Int32 × qW)) (w : qW) (l1 : Int32) (l2 : Int32) (l3 : Int32) (l4 : Int32) (l5 : Int32) (l6 : Int32) (l7 : Int32) (l8 : Int32) (l9 : Int32) (l10 : Int32) : Option (Int32 × qW) :=
  if 4 < l10 then (f_X11_isShadedFrom_B129 r_X11_isShadedFrom w l6 l7 l8 l9) else (if l9 = 0 then (q_cl (f_X11_stepFrom w l8 l10) (fun r1 w2 => if r1 < 0 then (f_X11_isShadedFrom_B123 r_X11_isShadedFrom k64 w2 l1 l2 l3 l4 l5 l6 l7 l8 l9 l10) else (q_st w2 49 57 l6 r1 (fun w3 => q_cl (r_X11_isShadedFrom w3 l1 l2 l3 (l4 + 1) l5) (fun r4 w5 => if r4 = l7 then (f_X11_isShadedFrom_B121 r_X11_isShadedFrom k64 w5 l1 l2 l3 l4 l5 l6 l7 l8 l10 1) else (f_X11_isShadedFrom_B121 r_X11_isShadedFrom k64 w5 l1 l2 l3 l4 l5 l6 l7 l8 l10 0)))))) else (f_X11_isShadedFrom_B129 r_X11_isShadedFrom w l6 l7 l8 l9))
def f_X11_isShadedFrom_R64 (r_X11_isShadedFrom : qW → Int32 → Int32 → Int32 → Int32 → Int32 → Option (Int32 × qW)) : Nat → qW → Int32 → Int32 → Int32 → Int32 → Int32 → Int32 → Int32 → Int32 → Int32 → Int32 → Option (Int32 × qW)
  | 0, _, _, _, _, _, _, _, _, _, _, _ => none
  | n + 1, w, l1, l2, l3, l4, l5, l6, l7, l8, l9, l10 => f_X11_isShadedFrom_B64 r_X11_isShadedFrom (f_X11_isShadedFrom_R64 r_X11_isShadedFrom n) w l1 l2 l3 l4 l5 l6 l7 l8 l9 l10
def f_X11_isShadedFrom_B47 (r_X11_isShadedFrom : qW → Int32 → Int32 → Int32 → Int32 → Int32 → Option (Int32 × qW)) (w : qW) (l1 : Int32) (l2 : Int32) (l3 : Int32) (l4 : Int32) (l5 : Int32) (l6 : Int32) (s0 : Int32) : Option (Int32 × qW) :=
  q_ld (q_A w 49) 57 l6 (fun v1 => f_X11_isShadedFrom_R64 r_X11_isShadedFrom  q_fuel w l1 l2 l3 l4 l5 l6 s0 v1 0 0)
def f_X11_isShadedFrom_B33 (r_X11_isShadedFrom : qW → Int32 → Int32 → Int32 → Int32 → Int32 → Option (Int32 × qW)) (w : qW) (l1 : Int32) (l2 : Int32) (l3 : Int32) (l4 : Int32) (l5 : Int32) (s0 : Int32) : Option (Int32 × qW) :=
  if (q_rem l4 2) = 0 then (f_X11_isShadedFrom_B47 r_X11_isShadedFrom w l1 l2 l3 l4 l5 s0 1) else (f_X11_isShadedFrom_B47 r_X11_isShadedFrom w l1 l2 l3 l4 l5 s0 0)
def b_X11_isShadedFrom (r_X11_isShadedFrom : qW → Int32 → Int32 → Int32 → Int32 → Int32 → Option (Int32 × qW)) (w : qW) (a1 : Int32) (a2 : Int32) (a3 : Int32) (a4 : Int32) (a5 : Int32) : Option (Int32 × qW) :=
  if a4 = a5 then (q_cl (f_X11_everybody w ) (fun r1 w2 => q_cl (f_X11_isServed w2 a2 a3 r1) (fun r3 w4 => some (r3 &&& 1, w4)))) else (if (q_rem a4 2) = 0 then (f_X11_isShadedFrom_B33 r_X11_isShadedFrom w a1 a2 a3 a4 a5 a1) else (f_X11_isShadedFrom_B33 r_X11_isShadedFrom w a1 a2 a3 a4 a5 ((32 : Int32) + a2)))
def G_X11_isShadedFrom : Nat → (qW → Int32 → Int32 → Int32 → Int32 → Int32 → Option (Int32 × qW))
  | 0 => (fun _ _ _ _ _ _ => none)
  | n + 1 => (b_X11_isShadedFrom ((G_X11_isShadedFrom n)))
def f_X11_isShadedFrom (w : qW) (a1 : Int32) (a2 : Int32) (a3 : Int32) (a4 : Int32) (a5 : Int32) : Option (Int32 × qW) := ((G_X11_isShadedFrom q_rfuel)) w a1 a2 a3 a4 a5
def f_X11_byTurns_B227 (w : qW) (l4 : Int32) (l7 : Int32) (l8 : Int32) : Option (Int32 × qW) :=
  q_st w 49 57 l4 l7 (fun w1 => some (l8, w1))
def f_X11_byTurns_B221 (k157 : qW → Int32 → Int32 → Int32 → Int32 → Int32 → Int32 → Int32 → Option (Int32 × qW)) (w : qW) (l2 : Int32) (l4 : Int32) (l5 : Int32) (l6 : Int32) (l7 : Int32) (l8 : Int32) (l9 : Int32) : Option (Int32 × qW) :=
  q_bn (l9 + 1 : Int32) (fun v1 => k157 w l2 l4 l5 l6 l7 l8 v1)
def f_X11_byTurns_B219 (k157 : qW → Int32 → Int32 → Int32 → Int32 → Int32 → Int32 → Int32 → Option (Int32 × qW)) (w : qW) (l2 : Int32) (l4 : Int32) (l5 : Int32) (l6 : Int32) (l7 : Int32) (l9 : Int32) (s0 : Int32) : Option (Int32 × qW) :=
  f_X11_byTurns_B221 k157 w l2 l4 l5 l6 l7 s0 l9
def f_X11_byTurns_B157 (k157 : qW → Int32 → Int32 → Int32 → Int32 → Int32 → Int32 → Int32 → Option (Int32 × qW)) (w : qW) (l2 : Int32) (l4 : Int32) (l5 : Int32) (l6 : Int32) (l7 : Int32) (l8 : Int32) (l9 : Int32) : Option (Int32 × qW) :=
  if 4 ≤ l9 then (f_X11_byTurns_B227 w l4 l7 l8) else (if 0 ≤ l8 then (f_X11_byTurns_B227 w l4 l7 l8) else (q_cl (f_X11_stepFrom w l7 l9) (fun r1 w2 => if r1 < 0 then (f_X11_byTurns_B221 k157 w2 l2 l4 l5 l6 l7 l8 l9) else (q_st w2 49 57 l4 r1 (fun w3 => q_cl (f_X11_isShadedFrom w3 l4 l5 (l2 / 10) 1 (q_rem l2 10)) (fun r4 w5 => if r4 = l6 then (f_X11_byTurns_B219 k157 w5 l2 l4 l5 l6 l7 l9 l9) else (f_X11_byTurns_B219 k157 w5 l2 l4 l5 l6 l7 l9 (-1))))))))
def f_X11_byTurns_R157 : Nat → qW → Int32 → Int32 → Int32 → Int32 → Int32 → Int32 → Int32 → Option (Int32 × qW)
  | 0, _, _, _, _, _, _, _, _ => none
  | n + 1, w, l2, l4, l5, l6, l7, l8, l9 => f_X11_byTurns_B157 (f_X11_byTurns_R157 n) w l2 l4 l5 l6 l7 l8 l9
def f_X11_byTurns_B152 (w : qW) (l2 : Int32) (l4 : Int32) (l5 : Int32) (l6 : Int32) (l7 : Int32) (s0 : Int32) : Option (Int32 × qW) :=
  f_X11_byTurns_R157  q_fuel w l2 l4 l5 l6 l7 s0 0
def f_X11_byTurns (w : qW) (a1 : Int32) (a2 : Int32) (a3 : Int32) : Option (Int32 × qW) :=
  if a1 < 0 then (some ((-1), w)) else (q_cl (f_X11_isMan w (Int32.toInt64 (a1 / 10))) (fun r1 w2 => if r1 = 0 then (some ((-1), w2)) else (q_cl (f_X11_isSitter w2 (Int32.toInt64 (q_rem a1 10))) (fun r3 w4 => if r3 = 0 then (some ((-1), w4)) else (if a2 < 0 then (some ((-1), w4)) else (q_cl (f_X11_isHour w4 (Int32.toInt64 (a2 / 10))) (fun r5 w6 => if r5 = 0 then (some ((-1), w6)) else (q_cl (f_X11_within w6 (Int32.toInt64 (q_rem a2 10)) 1 4) (fun r7 w8 => if r7 = 0 then (some ((-1), w8)) else (q_cl (f_X11_within w8 (Int32.toInt64 a3) 0 1) (fun r9 w10 => if r9 = 0 then (some ((-1), w10)) else (q_bn (a1 / 10 : Int32) (fun v11 => q_bn (q_rem a1 10 : Int32) (fun v12 => q_cl (f_X11_isShadedFrom w10 v11 v12 (a2 / 10) 0 (q_rem a2 10)) (fun r13 w14 => if a3 = 0 then (if r13 = 0 then (some (0, w14)) else (some (1, w14))) else (q_ld (q_A w14 49) 57 v11 (fun v15 => q_cl (f_X11_isShadedFrom w14 v11 v12 (a2 / 10) 1 (q_rem a2 10)) (fun r16 w17 => if r16 = r13 then (f_X11_byTurns_B152 w17 a2 v11 v12 r13 v15 4) else (f_X11_byTurns_B152 w17 a2 v11 v12 r13 v15 (-1))))))))))))))))))))
def f_X11_drawn_B225 (k62 : qW → Int32 → Int32 → Int32 → Int32 → Int32 → Int32 → Option (Int32 × qW)) (k74 : qW → Int32 → Int32 → Int32 → Int32 → Int32 → Int32 → Int32 → Option (Int32 × qW)) (w : qW) (l2 : Int32) (l3 : Int32) (l4 : Int32) (l5 : Int32) (l6 : Int32) (l7 : Int32) (l8 : Int32) : Option (Int32 × qW) :=
  q_bn (l8 + 1 : Int32) (fun v1 => k74 w l2 l3 l4 l5 l6 l7 v1)
def f_X11_drawn_B216 (k62 : qW → Int32 → Int32 → Int32 → Int32 → Int32 → Int32 → Option (Int32 × qW)) (k74 : qW → Int32 → Int32 → Int32 → Int32 → Int32 → Int32 → Int32 → Option (Int32 × qW)) (k150 : qW → Int32 → Int32 → Int32 → Int32 → Int32 → Int32 → Int32 → Int32 → Int32 → Int32 → Option (Int32 × qW)) (w : qW) (l2 : Int32) (l3 : Int32) (l4 : Int32) (l5 : Int32) (l7 : Int32) (l8 : Int32) (l9 : Int32) (l10 : Int32) (l11 : Int32) (s0 : Int32) (s1 : Int32) : Option (Int32 × qW) :=
  q_bn (s1 + s0 : Int32) (fun v1 => q_bn (l11 + 1 : Int32) (fun v2 => k150 w l2 l3 l4 l5 v1 l7 l8 l9 l10 v2))
def f_X11_drawn_B193 (k62 : qW → Int32 → Int32 → Int32 → Int32 → Int32 → Int32 → Option (Int32 × qW)) (k74 : qW → Int32 → Int32 → Int32 → Int32 → Int32 → Int32 → Int32 → Option (Int32 × qW)) (k150 : qW → Int32 → Int32 → Int32 → Int32 → Int32 → Int32 → Int32 → Int32 → Int32 → Int32 → Option (Int32 × qW)) (w : qW) (l2 : Int32) (l3 : Int32) (l4 : Int32) (l5 : Int32) (l6 : Int32) (l7 : Int32) (l8 : Int32) (l9 : Int32) (l10 : Int32) (l11 : Int32) (s0 : Int32) : Option (Int32 × qW) :=
  q_bn (l5 + s0 : Int32) (fun v1 => if l11 = l3 then (f_X11_drawn_B216 k62 k74 k150 w l2 l3 l4 v1 l7 l8 l9 l10 l11 s0 l6) else (f_X11_drawn_B216 k62 k74 k150 w l2 l3 l4 v1 l7 l8 l9 l10 l11 0 l6))
def f_X11_drawn_B192 (k62 : qW → Int32 → Int32 → Int32 → Int32 → Int32 → Int32 → Option (Int32 × qW)) (k74 : qW → Int32 → Int32 → Int32 → Int32 → Int32 → Int32 → Int32 → Option (Int32 × qW)) (k150 : qW → Int32 → Int32 → Int32 → Int32 → Int32 → Int32 → Int32 → Int32 → Int32 → Int32 → Option (Int32 × qW)) (w : qW) (l2 : Int32) (l3 : Int32) (l4 : Int32) (l5 : Int32) (l6 : Int32) (l7 : Int32) (l8 : Int32) (l9 : Int32) (l10 : Int32) (l11 : Int32) : Option (Int32 × qW) :=
  f_X11_drawn_B193 k62 k74 k150 w l2 l3 l4 l5 l6 l7 l8 l9 l10 l11 0
def f_X11_drawn_B150 (k62 : qW → Int32 → Int32 → Int32 → Int32 → Int32 → Int32 → Option (Int32 × qW)) (k74 : qW → Int32 → Int32 → Int32 → Int32 → Int32 → Int32 → Int32 → Option (Int32 × qW)) (k150 : qW → Int32 → Int32 → Int32 → Int32 → Int32 → Int32 → Int32 → Int32 → Int32 → Int32 → Option (Int32 × qW)) (w : qW) (l2 : Int32) (l3 : Int32) (l4 : Int32) (l5 : Int32) (l6 : Int32) (l7 : Int32) (l8 : Int32) (l9 : Int32) (l10 : Int32) (l11 : Int32) : Option (Int32 × qW) :=
  if (q_I w 48 7) ≤ l11 then (f_X11_drawn_B225 k62 k74 w l2 l3 l4 l5 l6 l7 l8) else (if l9 = 0 then (q_cl (f_X11_wants w l11 l8) (fun r1 w2 => if r1 = 0 then (f_X11_drawn_B192 k62 k74 k150 w2 l2 l3 l4 l5 l6 l7 l8 l9 l10 l11) else (q_cl (f_X11_isServed w2 l11 l8 l10) (fun r3 w4 => if r3 = 0 then (f_X11_drawn_B193 k62 k74 k150 w4 l2 l3 l4 l5 l6 l7 l8 l9 l10 l11 1) else (f_X11_drawn_B192 k62 k74 k150 w4 l2 l3 l4 l5 l6 l7 l8 l9 l10 l11))))) else (f_X11_drawn_B225 k62 k74 w l2 l3 l4 l5 l6 l7 l8))
def f_X11_drawn_R150 (k62 : qW → Int32 → Int32 → Int32 → Int32 → Int32 → Int32 → Option (Int32 × qW)) (k74 : qW → Int32 → Int32 → Int32 → Int32 → Int32 → Int32 → Int32 → Option (Int32 × qW)) : Nat → qW → Int32 → Int32 → Int32 → Int32 → Int32 → Int32 → Int32 → Int32 → Int32 → Int32 → Option (Int32 × qW)
  | 0, _, _, _, _, _, _, _, _, _, _, _ => none
  | n + 1, w, l2, l3, l4, l5, l6, l7, l8, l9, l10, l11 => f_X11_drawn_B150 k62 k74 (f_X11_drawn_R150 k62 k74 n) w l2 l3 l4 l5 l6 l7 l8 l9 l10 l11
def f_X11_drawn_B145 (k62 : qW → Int32 → Int32 → Int32 → Int32 → Int32 → Int32 → Option (Int32 × qW)) (k74 : qW → Int32 → Int32 → Int32 → Int32 → Int32 → Int32 → Int32 → Option (Int32 × qW)) (w : qW) (l2 : Int32) (l3 : Int32) (l4 : Int32) (l5 : Int32) (l6 : Int32) (l7 : Int32) (l8 : Int32) (l9 : Int32) (s0 : Int32) : Option (Int32 × qW) :=
  f_X11_drawn_R150 k62 k74  q_fuel w l2 l3 l4 l5 l6 l7 l8 l9 s0 0
def f_X11_drawn_B113 (k62 : qW → Int32 → Int32 → Int32 → Int32 → Int32 → Int32 → Option (Int32 × qW)) (k74 : qW → Int32 → Int32 → Int32 → Int32 → Int32 → Int32 → Int32 → Option (Int32 × qW)) (w : qW) (l2 : Int32) (l3 : Int32) (l4 : Int32) (l5 : Int32) (l6 : Int32) (l7 : Int32) (l8 : Int32) (s0 : Int32) : Option (Int32 × qW) :=
  if (q_I w 48 6) = 0 then (f_X11_drawn_B145 k62 k74 w l2 l3 l4 l5 l6 l7 l8 s0 0) else (q_cl (f_X11_everybody w ) (fun r1 w2 => q_nz (q_I w2 48 6) (f_X11_drawn_B145 k62 k74 w2 l2 l3 l4 l5 l6 l7 l8 s0 (r1 &&& (((1 : Int32) <<< ((q_rem (q_ush l4 16) (q_I w2 48 6)) &&& 31)) ^^^ (-1))))))
def f_X11_drawn_B74 (k62 : qW → Int32 → Int32 → Int32 → Int32 → Int32 → Int32 → Option (Int32 × qW)) (k74 : qW → Int32 → Int32 → Int32 → Int32 → Int32 → Int32 → Int32 → Option (Int32 × qW)) (w : qW) (l2 : Int32) (l3 : Int32) (l4 : Int32) (l5 : Int32) (l6 : Int32) (l7 : Int32) (l8 : Int32) : Option (Int32 × qW) :=
  if 12 ≤ l8 then (q_bn (l7 + 1 : Int32) (fun v1 => k62 w l2 l3 l4 l5 l6 v1)) else (q_bn ((l4 * 1103515245) + 12345 : Int32) (fun v2 => if (q_rem l2 100) ≤ (q_rem (q_ush v2 8) 12) then (f_X11_drawn_B113 k62 k74 w l2 l3 v2 l5 l6 l7 l8 0) else (f_X11_drawn_B113 k62 k74 w l2 l3 v2 l5 l6 l7 l8 1)))
def f_X11_drawn_R74 (k62 : qW → Int32 → Int32 → Int32 → Int32 → Int32 → Int32 → Option (Int32 × qW)) : Nat → qW → Int32 → Int32 → Int32 → Int32 → Int32 → Int32 → Int32 → Option (Int32 × qW)
  | 0, _, _, _, _, _, _, _, _ => none
  | n + 1, w, l2, l3, l4, l5, l6, l7, l8 => f_X11_drawn_B74 k62 (f_X11_drawn_R74 k62 n) w l2 l3 l4 l5 l6 l7 l8
def f_X11_drawn_B62 (k62 : qW → Int32 → Int32 → Int32 → Int32 → Int32 → Int32 → Option (Int32 × qW)) (w : qW) (l2 : Int32) (l3 : Int32) (l4 : Int32) (l5 : Int32) (l6 : Int32) (l7 : Int32) : Option (Int32 × qW) :=
  if (l2 / 100) ≤ l7 then (if 0 ≤ l3 then (some (l6, w)) else (some (l5, w))) else (f_X11_drawn_R74 k62  q_fuel w l2 l3 l4 l5 l6 l7 0)
def f_X11_drawn_R62 : Nat → qW → Int32 → Int32 → Int32 → Int32 → Int32 → Int32 → Option (Int32 × qW)
  | 0, _, _, _, _, _, _, _ => none
  | n + 1, w, l2, l3, l4, l5, l6, l7 => f_X11_drawn_B62 (f_X11_drawn_R62 n) w l2 l3 l4 l5 l6 l7
def f_X11_drawn_B50 (w : qW) (l1 : Int32) (l2 : Int32) (l3 : Int32) : Option (Int32 × qW) :=
  f_X11_drawn_R62  q_fuel w l2 l3 l1 0 0 0
def f_X11_drawn (w : qW) (a1 : Int32) (a2 : Int32) (a3 : Int32) : Option (Int32 × qW) :=
  if a2 < 0 then (some ((-1), w)) else (q_cl (f_X11_within w (Int32.toInt64 (a2 / 100)) 1 30) (fun r1 w2 => if r1 = 0 then (some ((-1), w2)) else (q_cl (f_X11_within w2 (Int32.toInt64 (q_rem a2 100)) 0 12) (fun r3 w4 => if r3 = 0 then (some ((-1), w4)) else (if a3 = (-1) then (f_X11_drawn_B50 w4 a1 a2 a3) else (q_cl (f_X11_isSitter w4 (Int32.toInt64 a3)) (fun r5 w6 => if r5 = 0 then (some ((-1), w6)) else (f_X11_drawn_B50 w6 a1 a2 a3))))))))
def f_X11_passes (w : qW) : Option (Int32 × qW) :=
  q_cl (f_X11_at w (q_I w 48 18) 1) (fun r1 w2 => q_cl (f_X11_bitsOf w2 r1) (fun r3 w4 => q_bn (q_sI w4 48 18 (q_rem ((q_I w4 48 18) + 1) 12)) (fun w5 => q_ld (q_A w5 56) 5 0 (fun v6 => q_st w5 56 5 0 (v6 + 1) (fun w7 => q_ld (q_A w7 56) 5 3 (fun v8 => q_cl (f_X11_everybody w7 ) (fun r9 w10 => q_cl (f_X11_payOf w10 r9) (fun r11 w12 => q_st w12 56 5 3 (v8 + r11) (fun w13 => q_ld (q_A w13 56) 5 4 (fun v14 => q_st w13 56 5 4 (v14 + r3) (fun w15 => some (r3, w15))))))))))))
def f_X11_steps (w : qW) (a1 : Int32) (a2 : Int32) : Option (Int32 × qW) :=
  q_cl (f_X11_isMan w (Int32.toInt64 a1)) (fun r1 w2 => if r1 = 0 then (some ((-1), w2)) else (q_cl (f_X11_within w2 (Int32.toInt64 a2) 0 3) (fun r3 w4 => if r3 = 0 then (some ((-1), w4)) else (q_ld (q_A w4 49) 57 a1 (fun v5 => q_cl (f_X11_stepFrom w4 v5 a2) (fun r6 w7 => if 0 ≤ r6 then (q_st w7 49 57 a1 r6 (fun w8 => q_ld (q_A w8 56) 5 1 (fun v9 => q_st w8 56 5 1 (v9 + 1) (fun w10 => some (r6, w10))))) else (some ((-5), w7))))))))
def f_X11_bird_B39 (w : qW) (l1 : Int32) (s0 : Int32) (s1 : Int32) (s2 : Int32) : Option (Int32 × qW) :=
  q_st w 49 57 s2 (s1 + s0) (fun w1 => q_ld (q_A w1 56) 5 2 (fun v2 => q_st w1 56 5 2 (v2 + 1) (fun w3 => q_ld (q_A w3 49) 57 ((16 : Int32) + l1) (fun v4 => some (v4, w3)))))
def f_X11_bird (w : qW) (a1 : Int32) : Option (Int32 × qW) :=
  q_cl (f_X11_isMan w (Int32.toInt64 a1)) (fun r1 w2 => if r1 = 0 then (some ((-1), w2)) else (q_bn ((16 : Int32) + a1 : Int32) (fun v3 => q_ld (q_A w2 49) 57 v3 (fun v4 => q_ld (q_A w2 49) 57 ((16 : Int32) + a1) (fun v5 => if 4 ≤ v5 then (f_X11_bird_B39 w2 a1 0 v4 v3) else (f_X11_bird_B39 w2 a1 1 v4 v3))))))
def f_X11_goes (w : qW) (a1 : Int32) (a2 : Int32) : Option (Int32 × qW) :=
  q_cl (f_X11_isSitter w (Int32.toInt64 a1)) (fun r1 w2 => if r1 = 0 then (some ((-1), w2)) else (q_cl (f_X11_isCell w2 (Int32.toInt64 a2)) (fun r3 w4 => if r3 = 0 then (some ((-1), w4)) else (q_ld (q_A w4 49) 57 ((32 : Int32) + a1) (fun v5 => q_st w4 49 57 ((32 : Int32) + a1) a2 (fun w6 => some (v5, w6)))))))
def f_X11_led (w : qW) (a1 : Int32) : Option (Int32 × qW) :=
  q_cl (f_X11_within w (Int32.toInt64 a1) 0 4) (fun r1 w2 => if r1 = 0 then (if a1 = 5 then (some (q_I w2 48 18, w2)) else (some ((-1), w2))) else (q_ld (q_A w2 56) 5 a1 (fun v3 => some (v3, w2))))
def f_X11_image_B105 (k105 : qW → Int32 → Option (Int32 × qW)) (w : qW) (l1 : Int32) : Option (Int32 × qW) :=
  if 5 ≤ l1 then (q_ld (q_A w 56) 5 0 (fun v1 => some (v1, w))) else (q_ld (q_A w 56) 5 l1 (fun v2 => q_st w 60 5 l1 v2 (fun w3 => q_bn (l1 + 1 : Int32) (fun v4 => k105 w3 v4))))
def f_X11_image_R105 : Nat → qW → Int32 → Option (Int32 × qW)
  | 0, _, _ => none
  | n + 1, w, l1 => f_X11_image_B105 (f_X11_image_R105 n) w l1
def f_X11_image_B74 (k74 : qW → Int32 → Option (Int32 × qW)) (w : qW) (l1 : Int32) : Option (Int32 × qW) :=
  if (q_I w 48 7) ≤ l1 then (f_X11_image_R105  q_fuel w 0) else (q_ld (q_A w 49) 57 ((32 : Int32) + l1) (fun v1 => q_st w 59 8 l1 v1 (fun w2 => q_bn (l1 + 1 : Int32) (fun v3 => k74 w2 v3))))
def f_X11_image_R74 : Nat → qW → Int32 → Option (Int32 × qW)
  | 0, _, _ => none
  | n + 1, w, l1 => f_X11_image_B74 (f_X11_image_R74 n) w l1
def f_X11_image_B31 (k31 : qW → Int32 → Option (Int32 × qW)) (w : qW) (l1 : Int32) : Option (Int32 × qW) :=
  if (q_I w 48 6) ≤ l1 then (f_X11_image_R74  q_fuel w 0) else (q_ld (q_A w 49) 57 l1 (fun v1 => q_st w 57 7 l1 v1 (fun w2 => q_ld (q_A w2 49) 57 ((16 : Int32) + l1) (fun v3 => q_st w2 58 7 l1 v3 (fun w4 => q_bn (l1 + 1 : Int32) (fun v5 => k31 w4 v5))))))
def f_X11_image_R31 : Nat → qW → Int32 → Option (Int32 × qW)
  | 0, _, _ => none
  | n + 1, w, l1 => f_X11_image_B31 (f_X11_image_R31 n) w l1
def f_X11_image (w : qW) : Option (Int32 × qW) :=
  q_bn (q_sI w 48 20 1) (fun w1 => q_bn (q_sI w1 48 21 (q_I w1 48 6)) (fun w2 => q_bn (q_sI w2 48 22 (q_I w2 48 7)) (fun w3 => q_bn (q_sI w3 48 23 (q_I w3 48 18)) (fun w4 => f_X11_image_R31  q_fuel w4 0))))
def f_X11_back_B94 (k94 : qW → Int32 → Option (Int32 × qW)) (w : qW) (l1 : Int32) : Option (Int32 × qW) :=
  if 5 ≤ l1 then (q_ld (q_A w 56) 5 0 (fun v1 => some (v1, w))) else (q_ld (q_A w 60) 5 l1 (fun v2 => q_st w 56 5 l1 v2 (fun w3 => q_bn (l1 + 1 : Int32) (fun v4 => k94 w3 v4))))
def f_X11_back_R94 : Nat → qW → Int32 → Option (Int32 × qW)
  | 0, _, _ => none
  | n + 1, w, l1 => f_X11_back_B94 (f_X11_back_R94 n) w l1
def f_X11_back_B55 (k55 : qW → Int32 → Option (Int32 × qW)) (w : qW) (l1 : Int32) : Option (Int32 × qW) :=
  if (q_I w 48 22) ≤ l1 then (q_bn (q_sI w 48 18 (q_I w 48 23)) (fun w1 => f_X11_back_R94  q_fuel w1 0)) else (q_ld (q_A w 59) 8 l1 (fun v2 => q_st w 49 57 ((32 : Int32) + l1) v2 (fun w3 => q_bn (l1 + 1 : Int32) (fun v4 => k55 w3 v4))))
def f_X11_back_R55 : Nat → qW → Int32 → Option (Int32 × qW)
  | 0, _, _ => none
  | n + 1, w, l1 => f_X11_back_B55 (f_X11_back_R55 n) w l1
def f_X11_back_B12 (k12 : qW → Int32 → Option (Int32 × qW)) (w : qW) (l1 : Int32) : Option (Int32 × qW) :=
  if (q_I w 48 21) ≤ l1 then (f_X11_back_R55  q_fuel w 0) else (q_ld (q_A w 57) 7 l1 (fun v1 => q_st w 49 57 l1 v1 (fun w2 => q_ld (q_A w2 58) 7 l1 (fun v3 => q_st w2 49 57 ((16 : Int32) + l1) v3 (fun w4 => q_bn (l1 + 1 : Int32) (fun v5 => k12 w4 v5))))))
def f_X11_back_R12 : Nat → qW → Int32 → Option (Int32 × qW)
  | 0, _, _ => none
  | n + 1, w, l1 => f_X11_back_B12 (f_X11_back_R12 n) w l1
def f_X11_back (w : qW) : Option (Int32 × qW) :=
  if (q_I w 48 20) = 0 then (some ((-5), w)) else (f_X11_back_R12  q_fuel w 0)
def f_X11_isBody (w : qW) (a1 : Int32) : Option (Int32 × qW) :=
  q_cl (f_X11_within w (Int32.toInt64 a1) 0 (Int32.toInt64 ((q_I w 48 28) - 1))) (fun r1 w2 => some (r1 &&& 1, w2))
def f_X11_kindOf (w : qW) (a1 : Int32) : Option (Int32 × qW) :=
  q_ld (q_A w 61) 50 a1 (fun v1 => some (v1, w))
def f_X11_body (w : qW) (a1 : Int32) : Option (Int32 × qW) :=
  q_cl (f_X11_within w (Int32.toInt64 a1) 0 7) (fun r1 w2 => if r1 = 0 then (some ((-1), w2)) else (if (q_I w2 48 28) = 50 then (some ((-3), w2)) else (q_st w2 61 50 (q_I w2 48 28) a1 (fun w3 => q_bn (q_sI w3 48 28 ((q_I w3 48 28) + 1)) (fun w4 => some ((q_I w4 48 28) - 1, w4))))))
def f_X11_above (w : qW) (a1 : Int32) : Option (Int32 × qW) :=
  if a1 = 3 then (some (2, w)) else (if a1 = 4 then (some (1, w)) else (if a1 = 5 then (some (3, w)) else (if a1 = 7 then (some (4, w)) else (some (0, w)))))
def f_X11_runs_B19 (w : qW) : Option (Unit × qW) :=
  q_bn (q_sI w 48 31 ((q_I w 48 31) + 1)) (fun w1 => some ((), w1))
def f_X11_runs (w : qW) (a1 : Int32) : Option (Unit × qW) :=
  if 24 ≤ (q_I w 48 31) then (f_X11_runs_B19 w ) else (q_st w 62 24 (q_I w 48 31) a1 (fun w1 => f_X11_runs_B19 w1 ))
def f_X11_standsAs_B16 (r_X11_standsAs : qW → Int32 → Int32 → Option (Int32 × qW)) (w : qW) (l2 : Int32) : Option (Int32 × qW) :=
  q_cl (f_X11_runs w 20) (fun _ w2 => q_cl (r_X11_standsAs w2 0 l2) (fun r3 w4 => some (r3 + 3, w4)))
def b_X11_standsAs (r_X11_standsAs : qW → Int32 → Int32 → Option (Int32 × qW)) (w : qW) (a1 : Int32) (a2 : Int32) : Option (Int32 × qW) :=
  if a1 = 1 then (f_X11_standsAs_B16 r_X11_standsAs w a2) else (if a1 = 4 then (f_X11_standsAs_B16 r_X11_standsAs w a2) else (if a1 = 7 then (f_X11_standsAs_B16 r_X11_standsAs w a2) else (if a1 = 6 then (q_cl (f_X11_runs w 70) (fun _ w4 => q_cl (r_X11_standsAs w4 0 a2) (fun r5 w6 => some (r5 * 2, w6)))) else (q_cl (f_X11_runs w 1) (fun _ w2 => some (a2 + (q_I w2 48 33), w2))))))
def G_X11_standsAs : Nat → (qW → Int32 → Int32 → Option (Int32 × qW))
  | 0 => (fun _ _ _ => none)
  | n + 1 => (b_X11_standsAs ((G_X11_standsAs n)))
def f_X11_standsAs (w : qW) (a1 : Int32) (a2 : Int32) : Option (Int32 × qW) := ((G_X11_standsAs q_rfuel)) w a1 a2
def f_X11_letsAs_B10 (r_X11_letsAs : qW → Int32 → Int32 → Option (Int32 × qW)) (w : qW) (l2 : Int32) : Option (Int32 × qW) :=
  q_cl (f_X11_runs w 40) (fun _ w2 => q_cl (r_X11_letsAs w2 2 l2) (fun r3 w4 => some (r3 * 3, w4)))
def f_X11_letsAs_B36 (r_X11_letsAs : qW → Int32 → Int32 → Option (Int32 × qW)) (w : qW) (l2 : Int32) : Option (Int32 × qW) :=
  q_cl (f_X11_runs w 50) (fun _ w2 => q_cl (r_X11_letsAs w2 1 l2) (fun r3 w4 => q_cl (f_X11_standsAs w4 (q_I w4 48 32) 2) (fun r5 w6 => some (r3 - r5, w6))))
def b_X11_letsAs (r_X11_letsAs : qW → Int32 → Int32 → Option (Int32 × qW)) (w : qW) (a1 : Int32) (a2 : Int32) : Option (Int32 × qW) :=
  if a1 = 3 then (f_X11_letsAs_B10 r_X11_letsAs w a2) else (if a1 = 5 then (f_X11_letsAs_B10 r_X11_letsAs w a2) else (if a1 = 4 then (f_X11_letsAs_B36 r_X11_letsAs w a2) else (if a1 = 7 then (f_X11_letsAs_B36 r_X11_letsAs w a2) else (q_cl (f_X11_runs w 11) (fun _ w2 => some (a2 ^^^ (q_I w2 48 33), w2))))))
def G_X11_letsAs : Nat → (qW → Int32 → Int32 → Option (Int32 × qW))
  | 0 => (fun _ _ _ => none)
  | n + 1 => (b_X11_letsAs ((G_X11_letsAs n)))
def f_X11_letsAs (w : qW) (a1 : Int32) (a2 : Int32) : Option (Int32 × qW) := ((G_X11_letsAs q_rfuel)) w a1 a2
def f_X11_swaysAs_B10 (r_X11_swaysAs : qW → Int32 → Int32 → Option (Int32 × qW)) (w : qW) (l2 : Int32) : Option (Int32 × qW) :=
  q_cl (f_X11_runs w 41) (fun _ w2 => q_cl (r_X11_swaysAs w2 2 (l2 + 1)) (fun r3 w4 => some (r3, w4)))
def b_X11_swaysAs (r_X11_swaysAs : qW → Int32 → Int32 → Option (Int32 × qW)) (w : qW) (a1 : Int32) (a2 : Int32) : Option (Int32 × qW) :=
  if a1 = 3 then (f_X11_swaysAs_B10 r_X11_swaysAs w a2) else (if a1 = 5 then (f_X11_swaysAs_B10 r_X11_swaysAs w a2) else (if a1 = 2 then (q_cl (f_X11_runs w 30) (fun _ w12 => q_cl (r_X11_swaysAs w12 0 a2) (fun r13 w14 => some (-r13, w14)))) else (if a1 = 7 then (q_cl (f_X11_runs w 80) (fun _ w6 => q_cl (r_X11_swaysAs w6 4 a2) (fun r7 w8 => q_cl (f_X11_letsAs w8 (q_I w8 48 32) 2) (fun r9 w10 => some (r7 + r9, w10))))) else (q_cl (f_X11_runs w 10) (fun _ w2 => q_cl (f_X11_standsAs w2 (q_I w2 48 32) a2) (fun r3 w4 => some (r3 * 2, w4)))))))
def G_X11_swaysAs : Nat → (qW → Int32 → Int32 → Option (Int32 × qW))
  | 0 => (fun _ _ _ => none)
  | n + 1 => (b_X11_swaysAs ((G_X11_swaysAs n)))
def f_X11_swaysAs (w : qW) (a1 : Int32) (a2 : Int32) : Option (Int32 × qW) := ((G_X11_swaysAs q_rfuel)) w a1 a2
def b_X11_tellsAs (r_X11_tellsAs : qW → Int32 → Int32 → Option (Int32 × qW)) (w : qW) (a1 : Int32) (a2 : Int32) : Option (Int32 × qW) :=
  if a1 = 5 then (q_cl (f_X11_runs w 60) (fun _ w12 => q_cl (r_X11_tellsAs w12 3 a2) (fun r13 w14 => some (r13 ^^^ 5, w14)))) else (if a1 = 7 then (q_cl (f_X11_runs w 81) (fun _ w8 => q_cl (r_X11_tellsAs w8 4 a2) (fun r9 w10 => some (r9 - 1, w10)))) else (q_cl (f_X11_runs w 2) (fun _ w2 => q_cl (f_X11_swaysAs w2 (q_I w2 48 32) a2) (fun r3 w4 => q_cl (f_X11_letsAs w4 (q_I w4 48 32) 1) (fun r5 w6 => some (r3 - r5, w6))))))
def G_X11_tellsAs : Nat → (qW → Int32 → Int32 → Option (Int32 × qW))
  | 0 => (fun _ _ _ => none)
  | n + 1 => (b_X11_tellsAs ((G_X11_tellsAs n)))
def f_X11_tellsAs (w : qW) (a1 : Int32) (a2 : Int32) : Option (Int32 × qW) := ((G_X11_tellsAs q_rfuel)) w a1 a2
def f_X11_act (w : qW) (a1 : Int32) (a2 : Int32) (a3 : Int32) : Option (Int32 × qW) :=
  q_bn (q_sI w 48 31 0) (fun w1 => q_cl (f_X11_isBody w1 a1) (fun r2 w3 => if r2 = 0 then (some (0, w3)) else (q_ld (q_A w3 61) 50 a1 (fun v4 => q_bn (q_sI w3 48 32 v4) (fun w5 => q_bn (q_sI w5 48 33 a1) (fun w6 => if a2 = 0 then (q_cl (f_X11_standsAs w6 (q_I w6 48 32) a3) (fun r7 w8 => some (r7, w8))) else (if a2 = 1 then (q_cl (f_X11_swaysAs w6 (q_I w6 48 32) a3) (fun r10 w11 => some (r10, w11))) else (if a2 = 2 then (q_cl (f_X11_letsAs w6 (q_I w6 48 32) a3) (fun r13 w14 => some (r13, w14))) else (if a2 = 3 then (q_cl (f_X11_tellsAs w6 (q_I w6 48 32) a3) (fun r16 w17 => some (r16, w17))) else (some (0, w6)))))))))))
def f_X11_trace (w : qW) (a1 : Int32) : Option (Int32 × qW) :=
  if a1 < 0 then (some ((-1), w)) else (if (q_I w 48 31) ≤ a1 then (some ((-1), w)) else (if 24 ≤ a1 then (some ((-1), w)) else (q_ld (q_A w 62) 24 a1 (fun v1 => some (v1, w)))))
def f_X11_keep_B22 (w : qW) (l1 : Int32) (l2 : Int32) : Option (Int32 × qW) :=
  q_st w 63 6 l1 l2 (fun w1 => q_st w1 64 6 l1 0 (fun w2 => some (1, w2)))
def f_X11_keep (w : qW) (a1 : Int32) (a2 : Int32) : Option (Int32 × qW) :=
  q_cl (f_X11_isShelf w a1) (fun r1 w2 => if r1 = 0 then (some ((-1), w2)) else (if a2 = (-1) then (f_X11_keep_B22 w2 a1 a2) else (q_cl (f_X11_isBody w2 a2) (fun r3 w4 => if r3 = 0 then (some ((-1), w4)) else (f_X11_keep_B22 w4 a1 a2)))))
def f_X11_row_B57 (k57 : qW → Int32 → Int32 → Option (Int32 × qW)) (w : qW) (l1 : Int32) (l4 : Int32) : Option (Int32 × qW) :=
  if (((60 : Int32) * l1) + 60) ≤ l4 then (some (1, w)) else (q_stl w 65 360 l4 0 (fun w1 => q_bn (l4 + 1 : Int32) (fun v2 => k57 w1 l1 v2)))
def f_X11_row_R57 : Nat → qW → Int32 → Int32 → Option (Int32 × qW)
  | 0, _, _, _ => none
  | n + 1, w, l1, l4 => f_X11_row_B57 (f_X11_row_R57 n) w l1 l4
def f_X11_row (w : qW) (a1 : Int32) (a2 : Int32) (a3 : Int32) : Option (Int32 × qW) :=
  q_cl (f_X11_isShelf w a1) (fun r1 w2 => if r1 = 0 then (some ((-1), w2)) else (q_cl (f_X11_within w2 (Int32.toInt64 a2) 0 4) (fun r3 w4 => if r3 = 0 then (some ((-1), w4)) else (if a3 ≤ 60 then (if 0 ≤ a3 then (q_st w4 63 6 a1 ((50 : Int32) + a2) (fun w5 => q_st w5 64 6 a1 a3 (fun w6 => q_bn ((60 : Int32) * a1 : Int32) (fun v7 => f_X11_row_R57  q_fuel w6 a1 v7)))) else (some ((-14), w4))) else (some ((-1), w4))))))
def f_X11_refusal (w : qW) (a1 : Int32) (a2 : Int32) : Option (Int32 × qW) :=
  q_cl (f_X11_isShelf w a1) (fun r1 w2 => if r1 = 0 then (some ((-1), w2)) else (q_ld (q_A w2 63) 6 a1 (fun v3 => if 0 ≤ v3 then (q_ld (q_A w2 63) 6 a1 (fun v4 => if 50 ≤ v4 then (if a2 < 0 then (some ((-13), w2)) else (q_ld (q_A w2 64) 6 a1 (fun v5 => if v5 ≤ a2 then (some ((-13), w2)) else (some (0, w2))))) else (some ((-12), w2)))) else (some ((-11), w2)))))
def f_X11_asSort (w : qW) (a1 : Int32) (a2 : Int64) : Option (Int64 × qW) :=
  if a1 = 0 then (some (Int32.toInt64 (Int8.toInt32 (Int32.toInt8 (Int64.toInt32 a2))), w)) else (if a1 = 1 then (some (Int32.toInt64 (Int16.toInt32 (Int32.toInt16 (Int64.toInt32 a2))), w)) else (if a1 = 2 then (some (Int32.toInt64 (Int64.toInt32 a2), w)) else (if a1 = 4 then (if (lg_cmp a2 0) = 0 then (some (0, w)) else (some (1, w))) else (some (a2, w)))))
def f_X11_put_B37 (w : qW) (l5 : Int32) : Option (Int32 × qW) :=
  if l5 = 0 then (some (1, w)) else (some (l5, w))
def f_X11_put (w : qW) (a1 : Int32) (a2 : Int32) (a3 : Int64) : Option (Int32 × qW) :=
  q_cl (f_X11_refusal w a1 a2) (fun r1 w2 => if r1 = 0 then (q_ld (q_A w2 63) 6 a1 (fun v3 => q_cl (f_X11_asSort w2 (v3 - 50) a3) (fun r4 w5 => q_stl w5 65 360 (((60 : Int32) * a1) + a2) r4 (fun w6 => f_X11_put_B37 w6 r1)))) else (f_X11_put_B37 w2 r1))
def f_X11_element (w : qW) (a1 : Int32) (a2 : Int32) : Option (Int64 × qW) :=
  q_cl (f_X11_refusal w a1 a2) (fun r1 w2 => if r1 = 0 then (q_ld (q_G w2 65) 360 (((60 : Int32) * a1) + a2) (fun v3 => some (v3, w2))) else (some ((-9223372036854775808), w2)))
def f_X11_shift_B150 (k150 : qW → Int32 → Int32 → Int32 → Int32 → Option (Int32 × qW)) (w : qW) (l3 : Int32) (l4 : Int32) (l5 : Int32) (l6 : Int32) : Option (Int32 × qW) :=
  if l5 ≤ l6 then (some (l5, w)) else (q_ld (q_G w 66) 60 l6 (fun v1 => q_stl w 65 360 ((((60 : Int32) * l3) + l4) + l6) v1 (fun w2 => q_bn (l6 + 1 : Int32) (fun v3 => k150 w2 l3 l4 l5 v3))))
def f_X11_shift_R150 : Nat → qW → Int32 → Int32 → Int32 → Int32 → Option (Int32 × qW)
  | 0, _, _, _, _, _ => none
  | n + 1, w, l3, l4, l5, l6 => f_X11_shift_B150 (f_X11_shift_R150 n) w l3 l4 l5 l6
def f_X11_shift_B113 (k113 : qW → Int32 → Int32 → Int32 → Int32 → Int32 → Int32 → Option (Int32 × qW)) (w : qW) (l1 : Int32) (l2 : Int32) (l3 : Int32) (l4 : Int32) (l5 : Int32) (l6 : Int32) : Option (Int32 × qW) :=
  if l5 ≤ l6 then (f_X11_shift_R150  q_fuel w l3 l4 l5 0) else (q_ld (q_G w 65) 360 ((((60 : Int32) * l1) + l2) + l6) (fun v1 => q_stl w 66 60 l6 v1 (fun w2 => q_bn (l6 + 1 : Int32) (fun v3 => k113 w2 l1 l2 l3 l4 l5 v3))))
def f_X11_shift_R113 : Nat → qW → Int32 → Int32 → Int32 → Int32 → Int32 → Int32 → Option (Int32 × qW)
  | 0, _, _, _, _, _, _, _ => none
  | n + 1, w, l1, l2, l3, l4, l5, l6 => f_X11_shift_B113 (f_X11_shift_R113 n) w l1 l2 l3 l4 l5 l6
def f_X11_shift (w : qW) (a1 : Int32) (a2 : Int32) (a3 : Int32) (a4 : Int32) (a5 : Int32) : Option (Int32 × qW) :=
  q_cl (f_X11_isShelf w a1) (fun r1 w2 => if r1 = 0 then (some ((-1), w2)) else (q_cl (f_X11_isShelf w2 a3) (fun r3 w4 => if r3 = 0 then (some ((-1), w4)) else (q_ld (q_A w4 63) 6 a1 (fun v5 => if v5 < 0 then (some ((-11), w4)) else (q_ld (q_A w4 63) 6 a3 (fun v6 => if 0 ≤ v6 then (q_ld (q_A w4 63) 6 a1 (fun v7 => if v7 < 50 then (some ((-12), w4)) else (q_ld (q_A w4 63) 6 a1 (fun v8 => q_ld (q_A w4 63) 6 a3 (fun v9 => if v8 = v9 then (if a5 < 0 then (some ((-13), w4)) else (if a2 < 0 then (some ((-13), w4)) else (if a4 < 0 then (some ((-13), w4)) else (q_ld (q_A w4 64) 6 a1 (fun v10 => if (v10 - a5) < a2 then (some ((-13), w4)) else (q_ld (q_A w4 64) 6 a3 (fun v11 => if a4 ≤ (v11 - a5) then (f_X11_shift_R113  q_fuel w4 a1 a2 a3 a4 a5 0) else (some ((-13), w4))))))))) else (some ((-12), w4))))))) else (some ((-11), w4)))))))))
def f_X11_taken_B75 (w : qW) (l1 : Int32) (l2 : Int32) (l3 : Int32) : Option (Int32 × qW) :=
  if l3 = l2 then (q_ld (q_A w 63) 6 l1 (fun v1 => q_cl (f_X11_kindOf w v1) (fun r2 w3 => some (r2, w3)))) else (some ((-12), w))
def f_X11_taken_B58 (k58 : qW → Int32 → Int32 → Int32 → Option (Int32 × qW)) (w : qW) (l1 : Int32) (l2 : Int32) (l3 : Int32) : Option (Int32 × qW) :=
  if l3 = l2 then (f_X11_taken_B75 w l1 l2 l3) else (if l3 ≤ 0 then (f_X11_taken_B75 w l1 l2 l3) else (q_cl (f_X11_above w l3) (fun r1 w2 => k58 w2 l1 l2 r1)))
def f_X11_taken_R58 : Nat → qW → Int32 → Int32 → Int32 → Option (Int32 × qW)
  | 0, _, _, _, _ => none
  | n + 1, w, l1, l2, l3 => f_X11_taken_B58 (f_X11_taken_R58 n) w l1 l2 l3
def f_X11_taken (w : qW) (a1 : Int32) (a2 : Int32) : Option (Int32 × qW) :=
  q_cl (f_X11_isShelf w a1) (fun r1 w2 => if r1 = 0 then (some ((-1), w2)) else (q_cl (f_X11_within w2 (Int32.toInt64 a2) 0 7) (fun r3 w4 => if r3 = 0 then (some ((-1), w4)) else (q_ld (q_A w4 63) 6 a1 (fun v5 => if 0 ≤ v5 then (q_ld (q_A w4 63) 6 a1 (fun v6 => if v6 < 50 then (q_ld (q_A w4 63) 6 a1 (fun v7 => q_cl (f_X11_kindOf w4 v7) (fun r8 w9 => f_X11_taken_R58  q_fuel w9 a1 a2 r8))) else (some ((-12), w4)))) else (some ((-11), w4)))))))
def f_X11_count (w : qW) (a1 : Int32) : Option (Int32 × qW) :=
  if a1 = 0 then (some (q_I w 48 6, w)) else (if a1 = 1 then (some (q_I w 48 7, w)) else (if a1 = 2 then (some (q_I w 48 9, w)) else (if a1 = 3 then (some (q_I w 48 5, w)) else (if a1 = 4 then (some (q_I w 48 28, w)) else (if a1 = 5 then (some (q_I w 48 31, w)) else (some ((-1), w)))))))
