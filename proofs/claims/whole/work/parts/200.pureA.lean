def q_fuel : Nat := 4096
abbrev q_rfuel : Nat := 100
theorem sh_0 : q_shp[0]? = some (.inl (10, [some (some 1), some (some 3), some (some 9), some (some 10), some (some 16), some (some 21), some (some 24), some (some 26), some (some 32), some (some 35)])) := rfl
theorem sh_1 : q_shp[1]? = some (.inl (4, [some (some 2), none, none])) := rfl
theorem sh_2 : q_shp[2]? = some (.inr (.inl 64)) := rfl
theorem sh_3 : q_shp[3]? = some (.inl (3, [some (some 4), none, none, some none, none, some none, none, none, some (some 7), some (some 8)])) := rfl
theorem sh_4 : q_shp[4]? = some (.inr (.inl 120)) := rfl
theorem sh_5 : q_shp[5]? = some (.inr (.inl 128)) := rfl
theorem sh_6 : q_shp[6]? = some (.inr (.inl 128)) := rfl
theorem sh_7 : q_shp[7]? = some (.inr (.inl 64)) := rfl
theorem sh_8 : q_shp[8]? = some (.inr (.inl 6)) := rfl
theorem sh_9 : q_shp[9]? = some (.inl (5, [some (some 1), some (some 3)])) := rfl
theorem sh_10 : q_shp[10]? = some (.inl (7, [some (some 1), some (some 9), some (some 11), some (some 12), some (some 13), some (some 14), some (some 15)])) := rfl
theorem sh_11 : q_shp[11]? = some (.inr (.inl 96)) := rfl
theorem sh_12 : q_shp[12]? = some (.inr (.inl 672)) := rfl
theorem sh_13 : q_shp[13]? = some (.inr (.inl 128)) := rfl
theorem sh_14 : q_shp[14]? = some (.inr (.inl 128)) := rfl
theorem sh_15 : q_shp[15]? = some (.inr (.inl 84)) := rfl
theorem sh_16 : q_shp[16]? = some (.inl (0, [some (some 1), some (some 9), some (some 17), some (some 18), none, none, some (some 19), some (some 20), none, none])) := rfl
theorem sh_17 : q_shp[17]? = some (.inr (.inl 20)) := rfl
theorem sh_18 : q_shp[18]? = some (.inr (.inl 20)) := rfl
theorem sh_19 : q_shp[19]? = some (.inr (.inl 20)) := rfl
theorem sh_20 : q_shp[20]? = some (.inr (.inl 140)) := rfl
theorem sh_21 : q_shp[21]? = some (.inl (9, [some (some 1), some (some 9), some none, some none])) := rfl
theorem sh_22 : q_shp[22]? = some (.inr (.inl 1728)) := rfl
theorem sh_23 : q_shp[23]? = some (.inr (.inl 1728)) := rfl
theorem sh_24 : q_shp[24]? = some (.inl (1, [some (some 1), some (some 25), none, none])) := rfl
theorem sh_25 : q_shp[25]? = some (.inr (.inl 160)) := rfl
theorem sh_26 : q_shp[26]? = some (.inl (2, [some (some 1), some (some 27), none, none, none, some (some 28), some (some 29), some (some 30), some (some 31)])) := rfl
theorem sh_27 : q_shp[27]? = some (.inr (.inl 6)) := rfl
theorem sh_28 : q_shp[28]? = some (.inr (.inl 7)) := rfl
theorem sh_29 : q_shp[29]? = some (.inr (.inl 7)) := rfl
theorem sh_30 : q_shp[30]? = some (.inr (.inl 8)) := rfl
theorem sh_31 : q_shp[31]? = some (.inr (.inl 6)) := rfl
theorem sh_32 : q_shp[32]? = some (.inl (8, [some (some 33), none, some (some 34), none, none])) := rfl
theorem sh_33 : q_shp[33]? = some (.inr (.inl 50)) := rfl
theorem sh_34 : q_shp[34]? = some (.inr (.inl 24)) := rfl
theorem sh_35 : q_shp[35]? = some (.inr (.inr (.inr [36, 38, 40, 42, 44, 46]))) := rfl
theorem sh_36 : q_shp[36]? = some (.inl (6, [none, none, none, some (some 37)])) := rfl
theorem sh_37 : q_shp[37]? = some (.inr (.inr (.inl 60))) := rfl
theorem sh_38 : q_shp[38]? = some (.inl (6, [none, none, none, some (some 39)])) := rfl
theorem sh_39 : q_shp[39]? = some (.inr (.inr (.inl 60))) := rfl
theorem sh_40 : q_shp[40]? = some (.inl (6, [none, none, none, some (some 41)])) := rfl
theorem sh_41 : q_shp[41]? = some (.inr (.inr (.inl 60))) := rfl
theorem sh_42 : q_shp[42]? = some (.inl (6, [none, none, none, some (some 43)])) := rfl
theorem sh_43 : q_shp[43]? = some (.inr (.inr (.inl 60))) := rfl
theorem sh_44 : q_shp[44]? = some (.inl (6, [none, none, none, some (some 45)])) := rfl
theorem sh_45 : q_shp[45]? = some (.inr (.inr (.inl 60))) := rfl
theorem sh_46 : q_shp[46]? = some (.inl (6, [none, none, none, some (some 47)])) := rfl
theorem sh_47 : q_shp[47]? = some (.inr (.inr (.inl 60))) := rfl
theorem sh_48 : q_shp[48]? = some (.inl (11, [some (some 49), some (some 50), some (some 51), some (some 52), none, none, none, none, some (some 53), none, some (some 54), none, none, none, none, none, none, some (some 55), none, some (some 56), none, none, none, none, some (some 57), some (some 58), some (some 59), some (some 60), none, some (some 61), some (some 62), none, none, none, some (some 63), some (some 64), some (some 65), some (some 66)])) := rfl
theorem sh_49 : q_shp[49]? = some (.inr (.inl 57)) := rfl
theorem sh_50 : q_shp[50]? = some (.inr (.inl 40)) := rfl
theorem sh_51 : q_shp[51]? = some (.inr (.inl 40)) := rfl
theorem sh_52 : q_shp[52]? = some (.inr (.inl 40)) := rfl
theorem sh_53 : q_shp[53]? = some (.inr (.inl 120)) := rfl
theorem sh_54 : q_shp[54]? = some (.inr (.inl 120)) := rfl
theorem sh_55 : q_shp[55]? = some (.inr (.inl 6)) := rfl
theorem sh_56 : q_shp[56]? = some (.inr (.inl 5)) := rfl
theorem sh_57 : q_shp[57]? = some (.inr (.inl 7)) := rfl
theorem sh_58 : q_shp[58]? = some (.inr (.inl 7)) := rfl
theorem sh_59 : q_shp[59]? = some (.inr (.inl 8)) := rfl
theorem sh_60 : q_shp[60]? = some (.inr (.inl 5)) := rfl
theorem sh_61 : q_shp[61]? = some (.inr (.inl 50)) := rfl
theorem sh_62 : q_shp[62]? = some (.inr (.inl 24)) := rfl
theorem sh_63 : q_shp[63]? = some (.inr (.inl 6)) := rfl
theorem sh_64 : q_shp[64]? = some (.inr (.inl 6)) := rfl
theorem sh_65 : q_shp[65]? = some (.inr (.inr (.inl 360))) := rfl
theorem sh_66 : q_shp[66]? = some (.inr (.inr (.inl 60))) := rfl
def f_J6_bitCount_0f7a4 (w : qW) (a1 : Int32) : Option (Int32 × qW) :=
  q_bn (a1 - ((q_ush a1 1) &&& 1431655765) : Int32) (fun v1 => q_bn ((v1 &&& 858993459) + ((q_ush v1 2) &&& 858993459) : Int32) (fun v2 => q_bn ((v2 + (q_ush v2 4)) &&& 252645135 : Int32) (fun v3 => q_bn (v3 + (q_ush v3 8) : Int32) (fun v4 => q_bn (v4 + (q_ush v4 16) : Int32) (fun v5 => some (v5 &&& 63, w))))))
def f_J7_fill_d0a16_B6 (nn : Nat) (id1 : Nat) (k6 : qW → Int64 → Int32 → Int32 → Option (Unit × qW)) (w : qW) (l1 : Int64) (l3 : Int32) (l4 : Int32) : Option (Unit × qW) :=
  if l4 ≤ l3 then (some ((), w)) else (q_stl w id1 nn l3 l1 (fun w1 => q_bn (l3 + 1 : Int32) (fun v2 => k6 w1 l1 v2 l4)))
def f_J7_fill_d0a16_R6 (nn : Nat) (id1 : Nat) : Nat → qW → Int64 → Int32 → Int32 → Option (Unit × qW)
  | 0, _, _, _, _ => none
  | n + 1, w, l1, l3, l4 => f_J7_fill_d0a16_B6 nn id1 (f_J7_fill_d0a16_R6 nn id1 n) w l1 l3 l4
def f_J7_fill_d0a16 (nn : Nat) (w : qW) (id1 : Nat) (a2 : Int64) : Option (Unit × qW) :=
  q_bn (Int32.ofNat nn : Int32) (fun v1 => f_J7_fill_d0a16_R6 nn id1  q_fuel w a2 0 v1)
def f_J7_fill_53178_B5 (nn : Nat) (id1 : Nat) (k5 : qW → Int32 → Int32 → Int32 → Option (Unit × qW)) (w : qW) (l1 : Int32) (l2 : Int32) (l3 : Int32) : Option (Unit × qW) :=
  if l3 ≤ l2 then (some ((), w)) else (q_st w id1 nn l2 l1 (fun w1 => q_bn (l2 + 1 : Int32) (fun v2 => k5 w1 l1 v2 l3)))
def f_J7_fill_53178_R5 (nn : Nat) (id1 : Nat) : Nat → qW → Int32 → Int32 → Int32 → Option (Unit × qW)
  | 0, _, _, _, _ => none
  | n + 1, w, l1, l2, l3 => f_J7_fill_53178_B5 nn id1 (f_J7_fill_53178_R5 nn id1 n) w l1 l2 l3
def f_J7_fill_53178 (nn : Nat) (w : qW) (id1 : Nat) (a2 : Int32) : Option (Unit × qW) :=
  q_bn (Int32.ofNat nn : Int32) (fun v1 => f_J7_fill_53178_R5 nn id1  q_fuel w a2 0 v1)
def f_X4_has_B43 (w : qW) (s0 : Int32) (s1 : Int32) : Option (Int32 × qW) :=
  if s0 ≤ s1 then (some (0 &&& 1, w)) else (some (1 &&& 1, w))
def f_X4_has (w : qW) (a1 : Int32) (a2 : Int32) : Option (Int32 × qW) :=
  if a2 < 0 then (some (0 &&& 1, w)) else (if 8 ≤ a2 then (some (0 &&& 1, w)) else (if 0 ≤ a1 then (if 4 ≤ a2 then (if 7 ≤ a2 then (f_X4_has_B43 w 1 a1) else (f_X4_has_B43 w (q_I w 1 2) a1)) else (f_X4_has_B43 w (q_I w 1 1) a1)) else (some (0 &&& 1, w))))
def f_X4_set (w : qW) (a1 : Int32) (a2 : Int32) (a3 : Int32) : Option (Unit × qW) :=
  q_cl (f_X4_has w a1 a2) (fun r1 w2 => if r1 = 0 then (some ((), w2)) else (q_st w2 2 64 (((8 : Int32) * a2) + a1) a3 (fun w3 => some ((), w3))))
def f_X4_addMan (w : qW) (a1 : Int32) (a2 : Int32) : Option (Int32 × qW) :=
  if (q_I w 1 1) < 7 then (q_bn (q_I w 1 1 : Int32) (fun v1 => q_bn (q_sI w 1 1 ((q_I w 1 1) + 1)) (fun w2 => q_cl (f_X4_set w2 v1 0 a1) (fun _ w4 => q_cl (f_X4_set w4 v1 1 a2) (fun _ w6 => q_cl (f_X4_set w6 v1 2 1) (fun _ w8 => q_cl (f_X4_set w8 v1 3 10) (fun _ w10 => some (v1, w10)))))))) else (some ((-3), w))
def f_X4_addSitter (w : qW) (a1 : Int32) (a2 : Int32) (a3 : Int32) : Option (Int32 × qW) :=
  if (q_I w 1 2) < 8 then (q_bn (q_I w 1 2 : Int32) (fun v1 => q_bn (q_sI w 1 2 ((q_I w 1 2) + 1)) (fun w2 => q_cl (f_X4_set w2 v1 4 a1) (fun _ w4 => q_cl (f_X4_set w4 v1 5 a2) (fun _ w6 => q_cl (f_X4_set w6 v1 6 a3) (fun _ w8 => some (v1, w8))))))) else (some ((-3), w))
def f_X4_fits (w : qW) (a1 : Int32) (a2 : Int32) : Option (Int32 × qW) :=
  if a1 < 0 then (some (0 &&& 1, w)) else (if 8 ≤ a1 then (some (0 &&& 1, w)) else (q_ld (q_T 0) (q_Tn 0) a1 (fun v1 => if a2 < v1 then (some (0 &&& 1, w)) else (q_ld (q_T 1) (q_Tn 1) a1 (fun v2 => if v2 < a2 then (some (0 &&& 1, w)) else (some (1 &&& 1, w)))))))
def f_X4_get (w : qW) (a1 : Int32) (a2 : Int32) : Option (Int32 × qW) :=
  q_cl (f_X4_has w a1 a2) (fun r1 w2 => if r1 = 0 then (some (0, w2)) else (q_ld (q_A w2 2) 64 (((8 : Int32) * a2) + a1) (fun v3 => some (v3, w2))))
def f_X4_payOf_B29 (k4 : qW → Int32 → Int32 → Int32 → Option (Int32 × qW)) (w : qW) (l1 : Int32) (l2 : Int32) (l3 : Int32) : Option (Int32 × qW) :=
  q_bn (l3 + 1 : Int32) (fun v1 => k4 w l1 l2 v1)
def f_X4_payOf_B4 (k4 : qW → Int32 → Int32 → Int32 → Option (Int32 × qW)) (w : qW) (l1 : Int32) (l2 : Int32) (l3 : Int32) : Option (Int32 × qW) :=
  if (q_I w 1 1) ≤ l3 then (some (l2, w)) else (if ((l1 >>> (l3 &&& 31)) &&& 1) = 0 then (f_X4_payOf_B29 k4 w l1 l2 l3) else (q_cl (f_X4_get w l3 3) (fun r1 w2 => q_bn (l2 + r1 : Int32) (fun v3 => f_X4_payOf_B29 k4 w2 l1 v3 l3))))
def f_X4_payOf_R4 : Nat → qW → Int32 → Int32 → Int32 → Option (Int32 × qW)
  | 0, _, _, _, _ => none
  | n + 1, w, l1, l2, l3 => f_X4_payOf_B4 (f_X4_payOf_R4 n) w l1 l2 l3
def f_X4_payOf (w : qW) (a1 : Int32) : Option (Int32 × qW) :=
  f_X4_payOf_R4  q_fuel w a1 0 0
def f_X4_everyone (w : qW) : Option (Int32 × qW) :=
  some (((1 : Int32) <<< ((q_I w 1 1) &&& 31)) - 1, w)
def f_X6_holdTree (w : qW) (id0 : Nat) (a1 : Int32) : Option (Unit × qW) :=
  q_bn (q_sI w id0 0 a1) (fun w1 => q_bn (q_sI w1 id0 1 (-1)) (fun w2 => q_bn (q_sI w2 id0 2 0) (fun w3 => some ((), w3))))
def f_X6_holdRow (w : qW) (id0 : Nat) (a1 : Int32) (a2 : Int32) : Option (Unit × qW) :=
  q_bn (q_sI w id0 0 (-1)) (fun w1 => q_bn (q_sI w1 id0 1 a1) (fun w2 => q_bn (if a2 < 60 then a2 else 60 : Int32) (fun v3 => q_bn (if 0 < v3 then v3 else 0 : Int32) (fun v4 => q_bn (q_sI w2 id0 2 v4) (fun w5 => q_cl (f_J7_fill_d0a16 60 w5 (id0 + 1) 0) (fun _ w7 => some ((), w7)))))))
def f_X6_isEmpty (w : qW) (id0 : Nat) : Option (Int32 × qW) :=
  if (q_I w id0 0) = (-1) then (if (q_I w id0 1) = (-1) then (some (1 &&& 1, w)) else (some (0 &&& 1, w))) else (some (0 &&& 1, w))
def f_X6_isRowOf (w : qW) (id0 : Nat) (a1 : Int32) : Option (Int32 × qW) :=
  if (q_I w id0 1) = a1 then (some (1 &&& 1, w)) else (some (0 &&& 1, w))
def f_X6_tree (w : qW) (id0 : Nat) : Option (Int32 × qW) :=
  some (q_I w id0 0, w)
def f_X6_size (w : qW) (id0 : Nat) : Option (Int32 × qW) :=
  some (q_I w id0 2, w)
def f_X6_refusalAs (w : qW) (id0 : Nat) (a1 : Int32) : Option (Int32 × qW) :=
  q_cl (f_X6_isEmpty w id0) (fun r1 w2 => if r1 = 0 then (q_cl (f_X6_isRowOf w2 id0 a1) (fun r3 w4 => if r3 = 0 then (some ((-12), w4)) else (some (0, w4)))) else (some ((-11), w2)))
def f_X6_refusalAt_B33 (id0 : Nat) (w : qW) : Option (Int32 × qW) :=
  some ((-13), w)
def f_X6_refusalAt (w : qW) (id0 : Nat) (a1 : Int32) : Option (Int32 × qW) :=
  q_cl (f_X6_isEmpty w id0) (fun r1 w2 => if r1 = 0 then (if (q_I w2 id0 1) = (-1) then (some ((-12), w2)) else (if a1 < 0 then (f_X6_refusalAt_B33 id0 w2 ) else (if a1 < (q_I w2 id0 2) then (some (0, w2)) else (f_X6_refusalAt_B33 id0 w2 )))) else (some ((-11), w2)))
def f_X6_get (w : qW) (id0 : Nat) (a1 : Int32) : Option (Int64 × qW) :=
  if a1 < 0 then (some (0, w)) else (if (q_I w id0 2) ≤ a1 then (some (0, w)) else (q_ld (q_G w (id0 + 1)) 60 a1 (fun v1 => some (v1, w))))
def f_X6_narrowed (w : qW) (id0 : Nat) (a1 : Int64) : Option (Int64 × qW) :=
  q_bn (q_I w id0 1 : Int32) (fun v1 => if v1 = 0 then (some (Int32.toInt64 (Int8.toInt32 (Int32.toInt8 (Int64.toInt32 a1))), w)) else (if v1 = 1 then (some (Int32.toInt64 (Int16.toInt32 (Int32.toInt16 (Int64.toInt32 a1))), w)) else (if v1 = 2 then (some (Int32.toInt64 (Int64.toInt32 a1), w)) else (if v1 = 3 then (some (a1, w)) else (if (lg_cmp a1 0) = 0 then (some (0, w)) else (some (1, w)))))))
def f_X6_set (w : qW) (id0 : Nat) (a1 : Int32) (a2 : Int64) : Option (Unit × qW) :=
  if a1 < 0 then (some ((), w)) else (if (q_I w id0 2) ≤ a1 then (some ((), w)) else (q_cl (f_X6_narrowed w id0 a2) (fun r1 w2 => q_stl w2 (id0 + 1) 60 a1 r1 (fun w3 => some ((), w3)))))
def f_X6_copyTo (w : qW) (id0 : Nat) (a1 : Int32) (id2 : Nat) (a3 : Int32) (a4 : Int32) : Option (Int32 × qW) :=
  q_cl (f_X6_isEmpty w id0) (fun r1 w2 => if r1 = 0 then (q_cl (f_X6_isEmpty w2 id2) (fun r3 w4 => if r3 = 0 then (if (q_I w4 id0 1) = (-1) then (some ((-12), w4)) else (if (q_I w4 id0 1) = (q_I w4 id2 1) then (if a1 < 0 then (some ((-13), w4)) else (if a3 < 0 then (some ((-13), w4)) else (if a4 < 0 then (some ((-13), w4)) else (if ((q_I w4 id0 2) - a4) < a1 then (some ((-13), w4)) else (if a3 ≤ ((q_I w4 id2 2) - a4) then (q_cpl w4 (id0 + 1) 60 (id2 + 1) 60 a1 a3 a4 (fun w5 => some (a4, w5))) else (some ((-13), w4))))))) else (some ((-12), w4)))) else (some ((-11), w4)))) else (some ((-11), w2)))
def f_X8_plant (w : qW) (a1 : Int32) : Option (Int32 × qW) :=
  if (q_I w 32 1) < 50 then (q_st w 33 50 (q_I w 32 1) a1 (fun w1 => q_bn (q_sI w1 32 1 ((q_I w1 32 1) + 1)) (fun w2 => some ((q_I w2 32 1) - 1, w2)))) else (some ((-3), w))
def f_X8_kindOf (w : qW) (a1 : Int32) : Option (Int32 × qW) :=
  if a1 < 0 then (some ((-1), w)) else (if (q_I w 32 1) ≤ a1 then (some ((-1), w)) else (q_ld (q_A w 33) 50 a1 (fun v1 => some (v1, w))))
def f_X8_isUnder_B5 (k5 : qW → Int32 → Int32 → Int32 → Option (Int32 × qW)) (w : qW) (l2 : Int32) (l3 : Int32) (l4 : Int32) : Option (Int32 × qW) :=
  if (Int32.ofNat (q_Tn 4)) ≤ l4 then (some (0 &&& 1, w)) else (if l3 < 0 then (some (0 &&& 1, w)) else (if (Int32.ofNat (q_Tn 4)) ≤ l3 then (some (0 &&& 1, w)) else (if l3 = l2 then (some (1 &&& 1, w)) else (q_ld (q_T 4) (q_Tn 4) l3 (fun v1 => q_bn (l4 + 1 : Int32) (fun v2 => k5 w l2 v1 v2))))))
def f_X8_isUnder_R5 : Nat → qW → Int32 → Int32 → Int32 → Option (Int32 × qW)
  | 0, _, _, _, _ => none
  | n + 1, w, l2, l3, l4 => f_X8_isUnder_B5 (f_X8_isUnder_R5 n) w l2 l3 l4
def f_X8_isUnder (w : qW) (a1 : Int32) (a2 : Int32) : Option (Int32 × qW) :=
  f_X8_isUnder_R5  q_fuel w a2 a1 0
def b_X8_own (r_X8_own : qW → Int32 → Int32 → Int32 → Option (Int32 × qW)) (r_X8_from : qW → Int32 → Int32 → Int32 → Int32 → Option (Int32 × qW)) (r_X8_run : qW → Int32 → Int32 → Int32 → Int32 → Option (Int32 × qW)) (r_X8_over : qW → Int32 → Int32 → Int32 → Int32 → Option (Int32 × qW)) (w : qW) (a1 : Int32) (a2 : Int32) (a3 : Int32) : Option (Int32 × qW) :=
  q_cl (f_X8_kindOf w (q_I w 32 4)) (fun r1 w2 => q_cl (r_X8_from w2 r1 a1 a2 a3) (fun r3 w4 => some (r3, w4)))
def f_X8_from_B6 (r_X8_own : qW → Int32 → Int32 → Int32 → Option (Int32 × qW)) (r_X8_from : qW → Int32 → Int32 → Int32 → Int32 → Option (Int32 × qW)) (r_X8_run : qW → Int32 → Int32 → Int32 → Int32 → Option (Int32 × qW)) (r_X8_over : qW → Int32 → Int32 → Int32 → Int32 → Option (Int32 × qW)) (k6 : qW → Int32 → Int32 → Int32 → Int32 → Int32 → Option (Int32 × qW)) (w : qW) (l2 : Int32) (l3 : Int32) (l4 : Int32) (l5 : Int32) (l6 : Int32) : Option (Int32 × qW) :=
  if (Int32.ofNat (q_Tn 4)) ≤ l6 then (some (0, w)) else (if l5 < 0 then (some (0, w)) else (if (Int32.ofNat (q_Tn 4)) ≤ l5 then (some (0, w)) else (q_ld (q_T 5) (q_Tn 5) (((4 : Int32) * l5) + l2) (fun v1 => if v1 = 0 then (q_ld (q_T 4) (q_Tn 4) l5 (fun v2 => q_bn (l6 + 1 : Int32) (fun v3 => k6 w l2 l3 l4 v2 v3))) else (if 40 ≤ l4 then (some (0, w)) else (q_cl (r_X8_run w v1 l5 l3 (l4 + 1)) (fun r4 w5 => some (r4, w5))))))))
def f_X8_from_R6 (r_X8_own : qW → Int32 → Int32 → Int32 → Option (Int32 × qW)) (r_X8_from : qW → Int32 → Int32 → Int32 → Int32 → Option (Int32 × qW)) (r_X8_run : qW → Int32 → Int32 → Int32 → Int32 → Option (Int32 × qW)) (r_X8_over : qW → Int32 → Int32 → Int32 → Int32 → Option (Int32 × qW)) : Nat → qW → Int32 → Int32 → Int32 → Int32 → Int32 → Option (Int32 × qW)
  | 0, _, _, _, _, _, _ => none
  | n + 1, w, l2, l3, l4, l5, l6 => f_X8_from_B6 r_X8_own r_X8_from r_X8_run r_X8_over (f_X8_from_R6 r_X8_own r_X8_from r_X8_run r_X8_over n) w l2 l3 l4 l5 l6
def b_X8_from (r_X8_own : qW → Int32 → Int32 → Int32 → Option (Int32 × qW)) (r_X8_from : qW → Int32 → Int32 → Int32 → Int32 → Option (Int32 × qW)) (r_X8_run : qW → Int32 → Int32 → Int32 → Int32 → Option (Int32 × qW)) (r_X8_over : qW → Int32 → Int32 → Int32 → Int32 → Option (Int32 × qW)) (w : qW) (a1 : Int32) (a2 : Int32) (a3 : Int32) (a4 : Int32) : Option (Int32 × qW) :=
  f_X8_from_R6 r_X8_own r_X8_from r_X8_run r_X8_over  q_fuel w a2 a3 a4 a1 0
def f_X8_run_B19 (r_X8_own : qW → Int32 → Int32 → Int32 → Option (Int32 × qW)) (r_X8_from : qW → Int32 → Int32 → Int32 → Int32 → Option (Int32 × qW)) (r_X8_run : qW → Int32 → Int32 → Int32 → Int32 → Option (Int32 × qW)) (r_X8_over : qW → Int32 → Int32 → Int32 → Int32 → Option (Int32 × qW)) (w : qW) (l1 : Int32) (l2 : Int32) (l3 : Int32) (l4 : Int32) : Option (Int32 × qW) :=
  q_bn (q_sI w 32 3 ((q_I w 32 3) + 1)) (fun w1 => if l1 = 1 then (some (l3 + (q_I w1 32 4), w1)) else (if l1 = 2 then (q_cl (r_X8_own w1 1 l3 l4) (fun r3 w4 => q_cl (r_X8_own w4 2 1 l4) (fun r5 w6 => some (r3 - r5, w6)))) else (if l1 = 10 then (q_cl (r_X8_own w1 0 l3 l4) (fun r8 w9 => some (r8 * 2, w9))) else (if l1 = 11 then (some (l3 ^^^ (q_I w1 32 4), w1)) else (if l1 = 20 then (q_cl (r_X8_over w1 l2 0 l3 l4) (fun r12 w13 => some (r12 + 3, w13))) else (if l1 = 30 then (q_cl (r_X8_over w1 l2 1 l3 l4) (fun r15 w16 => some (-r15, w16))) else (if l1 = 40 then (q_cl (r_X8_over w1 l2 2 l3 l4) (fun r18 w19 => some (r18 * 3, w19))) else (if l1 = 41 then (q_cl (r_X8_over w1 l2 1 (l3 + 1) l4) (fun r21 w22 => some (r21, w22))) else (if l1 = 50 then (q_cl (r_X8_over w1 l2 2 l3 l4) (fun r24 w25 => q_cl (r_X8_own w25 0 2 l4) (fun r26 w27 => some (r24 - r26, w27)))) else (if l1 = 60 then (q_cl (r_X8_over w1 l2 3 l3 l4) (fun r29 w30 => some (r29 ^^^ 5, w30))) else (if l1 = 70 then (q_cl (r_X8_over w1 l2 0 l3 l4) (fun r32 w33 => some (r32 * 2, w33))) else (if l1 = 80 then (q_cl (r_X8_over w1 l2 1 l3 l4) (fun r35 w36 => q_cl (r_X8_own w36 2 2 l4) (fun r37 w38 => some (r35 + r37, w38)))) else (if l1 = 81 then (q_cl (r_X8_over w1 l2 3 l3 l4) (fun r40 w41 => some (r40 - 1, w41))) else (some (0, w1)))))))))))))))
def b_X8_run (r_X8_own : qW → Int32 → Int32 → Int32 → Option (Int32 × qW)) (r_X8_from : qW → Int32 → Int32 → Int32 → Int32 → Option (Int32 × qW)) (r_X8_run : qW → Int32 → Int32 → Int32 → Int32 → Option (Int32 × qW)) (r_X8_over : qW → Int32 → Int32 → Int32 → Int32 → Option (Int32 × qW)) (w : qW) (a1 : Int32) (a2 : Int32) (a3 : Int32) (a4 : Int32) : Option (Int32 × qW) :=
  if 24 ≤ (q_I w 32 3) then (f_X8_run_B19 r_X8_own r_X8_from r_X8_run r_X8_over w a1 a2 a3 a4) else (q_st w 34 24 (q_I w 32 3) a1 (fun w1 => f_X8_run_B19 r_X8_own r_X8_from r_X8_run r_X8_over w1 a1 a2 a3 a4))
def b_X8_over (r_X8_own : qW → Int32 → Int32 → Int32 → Option (Int32 × qW)) (r_X8_from : qW → Int32 → Int32 → Int32 → Int32 → Option (Int32 × qW)) (r_X8_run : qW → Int32 → Int32 → Int32 → Int32 → Option (Int32 × qW)) (r_X8_over : qW → Int32 → Int32 → Int32 → Int32 → Option (Int32 × qW)) (w : qW) (a1 : Int32) (a2 : Int32) (a3 : Int32) (a4 : Int32) : Option (Int32 × qW) :=
  if a1 < 0 then (some (0, w)) else (if (Int32.ofNat (q_Tn 4)) ≤ a1 then (some (0, w)) else (q_ld (q_T 4) (q_Tn 4) a1 (fun v1 => q_cl (r_X8_from w v1 a2 a3 a4) (fun r2 w3 => some (r2, w3)))))
def G_X8_own : Nat → (qW → Int32 → Int32 → Int32 → Option (Int32 × qW)) × (qW → Int32 → Int32 → Int32 → Int32 → Option (Int32 × qW)) × (qW → Int32 → Int32 → Int32 → Int32 → Option (Int32 × qW)) × (qW → Int32 → Int32 → Int32 → Int32 → Option (Int32 × qW))
  | 0 => (fun _ _ _ _ => none, fun _ _ _ _ _ => none, fun _ _ _ _ _ => none, fun _ _ _ _ _ => none)
  | n + 1 => (b_X8_own ((G_X8_own n).1)  ((G_X8_own n).2.1)  ((G_X8_own n).2.2.1)  ((G_X8_own n).2.2.2), b_X8_from ((G_X8_own n).1)  ((G_X8_own n).2.1)  ((G_X8_own n).2.2.1)  ((G_X8_own n).2.2.2), b_X8_run ((G_X8_own n).1)  ((G_X8_own n).2.1)  ((G_X8_own n).2.2.1)  ((G_X8_own n).2.2.2), b_X8_over ((G_X8_own n).1)  ((G_X8_own n).2.1)  ((G_X8_own n).2.2.1)  ((G_X8_own n).2.2.2))
def f_X8_own (w : qW) (a1 : Int32) (a2 : Int32) (a3 : Int32) : Option (Int32 × qW) := ((G_X8_own q_rfuel).1) w a1 a2 a3
def f_X8_from (w : qW) (a1 : Int32) (a2 : Int32) (a3 : Int32) (a4 : Int32) : Option (Int32 × qW) := ((G_X8_own q_rfuel).2.1) w a1 a2 a3 a4
def f_X8_run (w : qW) (a1 : Int32) (a2 : Int32) (a3 : Int32) (a4 : Int32) : Option (Int32 × qW) := ((G_X8_own q_rfuel).2.2.1) w a1 a2 a3 a4
def f_X8_over (w : qW) (a1 : Int32) (a2 : Int32) (a3 : Int32) (a4 : Int32) : Option (Int32 × qW) := ((G_X8_own q_rfuel).2.2.2) w a1 a2 a3 a4
def f_X8_perform (w : qW) (a1 : Int32) (a2 : Int32) (a3 : Int32) : Option (Int32 × qW) :=
  q_bn (q_sI w 32 3 0) (fun w1 => if a1 < 0 then (some (0, w1)) else (if (q_I w1 32 1) ≤ a1 then (some (0, w1)) else (if a2 < 0 then (some (0, w1)) else (if a2 < 4 then (q_bn (q_sI w1 32 4 a1) (fun w2 => q_cl (f_X8_own w2 a2 a3 0) (fun r3 w4 => some (r3, w4)))) else (some (0, w1))))))
def f_X8_traced (w : qW) (a1 : Int32) : Option (Int32 × qW) :=
  if a1 < 0 then (some ((-1), w)) else (if (q_I w 32 3) ≤ a1 then (some ((-1), w)) else (if 24 ≤ a1 then (some ((-1), w)) else (q_ld (q_A w 34) 24 a1 (fun v1 => some (v1, w)))))
def f_X1_add_B31 (w : qW) (l1 : Int32) (l2 : Int32) (l3 : Int32) : Option (Unit × qW) :=
  q_bn ((q_I w 24 2) * 4 : Int32) (fun v1 => q_st w 25 160 v1 l1 (fun w2 => q_st w2 25 160 (v1 + 1) l2 (fun w3 => q_cl (f_X4_get w3 l1 l2) (fun r4 w5 => q_st w5 25 160 (v1 + 2) r4 (fun w6 => q_st w6 25 160 (v1 + 3) l3 (fun w7 => q_bn (q_sI w7 24 2 ((q_I w7 24 2) + 1)) (fun w8 => q_bn (q_sI w8 24 3 (q_I w8 24 2)) (fun w9 => q_cl (f_X4_set w9 l1 l2 l3) (fun _ w11 => some ((), w11))))))))))
def f_X1_add (w : qW) (a1 : Int32) (a2 : Int32) (a3 : Int32) : Option (Unit × qW) :=
  if (q_I w 24 2) < 40 then (f_X1_add_B31 w a1 a2 a3) else (q_cpi w 25 160 25 160 4 0 156 (fun w1 => q_bn (q_sI w1 24 2 39) (fun w2 => f_X1_add_B31 w2 a1 a2 a3)))
def f_X1_takeBack (w : qW) : Option (Int32 × qW) :=
  if 0 < (q_I w 24 2) then (q_bn (q_sI w 24 2 ((q_I w 24 2) - 1)) (fun w1 => q_bn ((q_I w1 24 2) * 4 : Int32) (fun v2 => q_ld (q_A w1 25) 160 v2 (fun v3 => q_ld (q_A w1 25) 160 (v2 + 1) (fun v4 => q_ld (q_A w1 25) 160 (v2 + 2) (fun v5 => q_cl (f_X4_set w1 v3 v4 v5) (fun _ w7 => some (q_I w7 24 2, w7)))))))) else (some ((-5), w))
def f_X1_doAgain (w : qW) : Option (Int32 × qW) :=
  if (q_I w 24 2) < (q_I w 24 3) then (q_bn ((q_I w 24 2) * 4 : Int32) (fun v1 => q_ld (q_A w 25) 160 v1 (fun v2 => q_ld (q_A w 25) 160 (v1 + 1) (fun v3 => q_ld (q_A w 25) 160 (v1 + 3) (fun v4 => q_cl (f_X4_set w v2 v3 v4) (fun _ w6 => q_bn (q_sI w6 24 2 ((q_I w6 24 2) + 1)) (fun w7 => some ((q_I w7 24 3) - (q_I w7 24 2), w7)))))))) else (some ((-5), w))
def f_X2_hour (w : qW) : Option (Int32 × qW) :=
  q_ld (q_A w 27) 6 5 (fun v1 => some (v1, w))
def f_X2_told (w : qW) (a1 : Int32) : Option (Int32 × qW) :=
  if a1 < 0 then (some ((-1), w)) else (if (Int32.ofNat 6) ≤ a1 then (some ((-1), w)) else (q_ld (q_A w 27) 6 a1 (fun v1 => some (v1, w))))
def f_X2_hourPasses (w : qW) (a1 : Int32) : Option (Unit × qW) :=
  q_ld (q_A w 27) 6 0 (fun v1 => q_st w 27 6 0 (v1 + 1) (fun w2 => q_ld (q_A w2 27) 6 3 (fun v3 => q_cl (f_X4_everyone w2 ) (fun r4 w5 => q_cl (f_X4_payOf w5 r4) (fun r6 w7 => q_st w7 27 6 3 (v3 + r6) (fun w8 => q_ld (q_A w8 27) 6 4 (fun v9 => q_st w8 27 6 4 (v9 + a1) (fun w10 => q_ld (q_A w10 27) 6 5 (fun v11 => q_st w10 27 6 5 (q_rem (v11 + 1) 12) (fun w12 => some ((), w12)))))))))))
def f_X10_cellAfter_B69 (w : qW) : Option (Int32 × qW) :=
  some ((-1), w)
def f_X10_cellAfter_B47 (w : qW) (l2 : Int32) (s0 : Int32) (s1 : Int32) : Option (Int32 × qW) :=
  q_bn (s1 + s0 : Int32) (fun v1 => if l2 < 0 then (f_X10_cellAfter_B69 w ) else (if 12 ≤ l2 then (f_X10_cellAfter_B69 w ) else (if v1 < 0 then (f_X10_cellAfter_B69 w ) else (if v1 < 12 then (some (((12 : Int32) * v1) + l2, w)) else (f_X10_cellAfter_B69 w )))))
def f_X10_cellAfter_B23 (w : qW) (l0 : Int32) (l1 : Int32) (s0 : Int32) (s1 : Int32) : Option (Int32 × qW) :=
  q_bn (s1 + s0 : Int32) (fun v1 => if l1 = 2 then (f_X10_cellAfter_B47 w v1 1 (l0 / 12)) else (if l1 = 0 then (f_X10_cellAfter_B47 w v1 (-1) (l0 / 12)) else (f_X10_cellAfter_B47 w v1 0 (l0 / 12))))
def f_X10_cellAfter (w : qW) (a1 : Int32) (a2 : Int32) : Option (Int32 × qW) :=
  if a2 = 1 then (f_X10_cellAfter_B23 w a1 a2 1 (q_rem a1 12)) else (if a2 = 3 then (f_X10_cellAfter_B23 w a1 a2 (-1) (q_rem a1 12)) else (f_X10_cellAfter_B23 w a1 a2 0 (q_rem a1 12)))
def f_X2_manSteps (w : qW) (a1 : Int32) (a2 : Int32) : Option (Int32 × qW) :=
  q_cl (f_X4_get w a1 0) (fun r1 w2 => q_cl (f_X10_cellAfter w2 r1 a2) (fun r3 w4 => if 0 ≤ r3 then (q_cl (f_X4_set w4 a1 0 r3) (fun _ w6 => q_ld (q_A w6 27) 6 1 (fun v7 => q_st w6 27 6 1 (v7 + 1) (fun w8 => some (r3, w8))))) else (some ((-5), w4))))
def f_X2_birdGetsIn (w : qW) (a1 : Int32) : Option (Int32 × qW) :=
  q_cl (f_X4_get w a1 2) (fun r1 w2 => q_bn (if (r1 + 1) < 4 then (r1 + 1) else 4 : Int32) (fun v3 => q_cl (f_X4_set w2 a1 2 v3) (fun _ w5 => q_ld (q_A w5 27) 6 2 (fun v6 => q_st w5 27 6 2 (v6 + 1) (fun w7 => some (v3, w7))))))
def f_X2_keepImage_B75 (k75 : qW → Int32 → Option (Int32 × qW)) (w : qW) (l1 : Int32) : Option (Int32 × qW) :=
  if (q_I w 26 4) ≤ l1 then (q_cpi w 27 6 31 6 0 0 (Int32.ofNat 6) (fun w1 => q_ld (q_A w1 27) 6 0 (fun v2 => some (v2, w1)))) else (q_cl (f_X4_get w l1 4) (fun r3 w4 => q_st w4 30 8 l1 r3 (fun w5 => q_bn (l1 + 1 : Int32) (fun v6 => k75 w5 v6))))
def f_X2_keepImage_R75 : Nat → qW → Int32 → Option (Int32 × qW)
  | 0, _, _ => none
  | n + 1, w, l1 => f_X2_keepImage_B75 (f_X2_keepImage_R75 n) w l1
def f_X2_keepImage_B29 (k29 : qW → Int32 → Option (Int32 × qW)) (w : qW) (l1 : Int32) : Option (Int32 × qW) :=
  if (q_I w 26 3) ≤ l1 then (f_X2_keepImage_R75  q_fuel w 0) else (q_cl (f_X4_get w l1 0) (fun r1 w2 => q_st w2 28 7 l1 r1 (fun w3 => q_cl (f_X4_get w3 l1 2) (fun r4 w5 => q_st w5 29 7 l1 r4 (fun w6 => q_bn (l1 + 1 : Int32) (fun v7 => k29 w6 v7))))))
def f_X2_keepImage_R29 : Nat → qW → Int32 → Option (Int32 × qW)
  | 0, _, _ => none
  | n + 1, w, l1 => f_X2_keepImage_B29 (f_X2_keepImage_R29 n) w l1
def f_X2_keepImage (w : qW) : Option (Int32 × qW) :=
  q_bn (q_sI w 26 2 1) (fun w1 => q_bn (q_sI w1 26 3 (q_I w1 1 1)) (fun w2 => q_bn (q_sI w2 26 4 (q_I w2 1 2)) (fun w3 => f_X2_keepImage_R29  q_fuel w3 0)))
def f_X2_layBack_B58 (k58 : qW → Int32 → Option (Int32 × qW)) (w : qW) (l1 : Int32) : Option (Int32 × qW) :=
  if (q_I w 26 4) ≤ l1 then (q_cpi w 31 6 27 6 0 0 (Int32.ofNat 6) (fun w1 => q_ld (q_A w1 27) 6 0 (fun v2 => some (v2, w1)))) else (q_ld (q_A w 30) 8 l1 (fun v3 => q_cl (f_X4_set w l1 4 v3) (fun _ w5 => q_bn (l1 + 1 : Int32) (fun v6 => k58 w5 v6))))
def f_X2_layBack_R58 : Nat → qW → Int32 → Option (Int32 × qW)
  | 0, _, _ => none
  | n + 1, w, l1 => f_X2_layBack_B58 (f_X2_layBack_R58 n) w l1
def f_X2_layBack_B12 (k12 : qW → Int32 → Option (Int32 × qW)) (w : qW) (l1 : Int32) : Option (Int32 × qW) :=
  if (q_I w 26 3) ≤ l1 then (f_X2_layBack_R58  q_fuel w 0) else (q_ld (q_A w 28) 7 l1 (fun v1 => q_cl (f_X4_set w l1 0 v1) (fun _ w3 => q_ld (q_A w3 29) 7 l1 (fun v4 => q_cl (f_X4_set w3 l1 2 v4) (fun _ w6 => q_bn (l1 + 1 : Int32) (fun v7 => k12 w6 v7))))))
def f_X2_layBack_R12 : Nat → qW → Int32 → Option (Int32 × qW)
  | 0, _, _ => none
  | n + 1, w, l1 => f_X2_layBack_B12 (f_X2_layBack_R12 n) w l1
def f_X2_layBack (w : qW) : Option (Int32 × qW) :=
  if (q_I w 26 2) = 0 then (some ((-5), w)) else (f_X2_layBack_R12  q_fuel w 0)
def f_X10_isHour (w : qW) (a1 : Int32) : Option (Int32 × qW) :=
  if a1 < 0 then (some (0 &&& 1, w)) else (if 12 ≤ a1 then (some (0 &&& 1, w)) else (some (1 &&& 1, w)))
def f_X3_isTold (w : qW) : Option (Int32 × qW) :=
  some ((q_I w 3 7) &&& 1, w)
def f_X3_valueOf (w : qW) (a1 : Int32) : Option (Int32 × qW) :=
  if a1 < 0 then (some (0, w)) else (if (Int32.ofNat 6) ≤ a1 then (some (0, w)) else (q_ld (q_A w 8) 6 a1 (fun v1 => some (v1, w))))
def f_X3_worked_B60 (w : qW) : Option (Int32 × qW) :=
  some (1, w)
def f_X3_worked (w : qW) (a1 : Int32) (a2 : Int32) (a3 : Int32) : Option (Int32 × qW) :=
  if a1 = 6 then (if a2 = 0 then (if a3 = 0 then (some (0, w)) else (f_X3_worked_B60 w )) else (f_X3_worked_B60 w )) else (if a1 = 7 then (if a2 = 0 then (some (0, w)) else (if a3 = 0 then (some (0, w)) else (some (1, w)))) else (if a1 = 8 then (if a3 ≤ a2 then (some (0, w)) else (some (1, w))) else (if a1 = 9 then (if a2 = a3 then (some (1, w)) else (some (0, w))) else (if a1 = 10 then (if a2 ≤ a3 then (some (0, w)) else (some (1, w))) else (if a1 = 11 then (some (a2 + a3, w)) else (if a1 = 12 then (some (a2 - a3, w)) else (if a1 = 13 then (some (a2 * a3, w)) else (if a1 = 14 then (if a3 = 0 then (some (0, w)) else (q_nz a3 (some (a2 / a3, w)))) else (if a3 = 0 then (some (0, w)) else (q_nz a3 (some (q_rem a2 a3, w))))))))))))
def f_X3_value_B311 (k54 : qW → Int32 → Int32 → Int32 → Option (Int32 × qW)) (w : qW) (l7 : Int32) (l8 : Int32) (l9 : Int32) : Option (Int32 × qW) :=
  q_bn (l9 + 1 : Int32) (fun v1 => k54 w l7 l8 v1)
def f_X3_value_B274 (k54 : qW → Int32 → Int32 → Int32 → Option (Int32 × qW)) (w : qW) (l7 : Int32) (l8 : Int32) (l9 : Int32) (s0 : Int32) (s1 : Int32) : Option (Int32 × qW) :=
  q_st w 7 64 s1 s0 (fun w1 => f_X3_value_B311 k54 w1 l7 l8 l9)
def f_X3_value_B221 (k54 : qW → Int32 → Int32 → Int32 → Option (Int32 × qW)) (w : qW) (l7 : Int32) (l9 : Int32) (s0 : Int32) : Option (Int32 × qW) :=
  f_X3_value_B311 k54 w l7 s0 l9
def f_X3_value_B190 (k54 : qW → Int32 → Int32 → Int32 → Option (Int32 × qW)) (w : qW) (l7 : Int32) (l8 : Int32) (l9 : Int32) (l10 : Int32) (l11 : Int32) (s0 : Int32) (s1 : Int32) : Option (Int32 × qW) :=
  if s0 ≤ s1 then (if l10 = 3 then (q_bn (l7 + (-1) : Int32) (fun v8 => q_ld (q_A w 7) 64 v8 (fun v9 => if v9 = 0 then (f_X3_value_B221 k54 w v8 l9 l11) else (f_X3_value_B221 k54 w v8 l9 l8)))) else (if 6 ≤ l10 then (q_bn (l7 + (-1) : Int32) (fun v1 => q_ld (q_A w 7) 64 (v1 - 1) (fun v2 => q_ld (q_A w 7) 64 v1 (fun v3 => q_cl (f_X3_worked w l10 v2 v3) (fun r4 w5 => q_st w5 7 64 (v1 - 1) r4 (fun w6 => f_X3_value_B311 k54 w6 v1 l8 l9)))))) else (q_ld (q_A w 7) 64 (l7 - 1) (fun v7 => if l10 = 5 then (f_X3_value_B274 k54 w l7 l8 l9 (-v7) (l7 - 1)) else (if v7 = 0 then (f_X3_value_B274 k54 w l7 l8 l9 1 (l7 - 1)) else (f_X3_value_B274 k54 w l7 l8 l9 0 (l7 - 1))))))) else (some (0, w))
def f_X3_value_B169 (k54 : qW → Int32 → Int32 → Int32 → Option (Int32 × qW)) (w : qW) (l7 : Int32) (l8 : Int32) (l9 : Int32) (s0 : Int32) (s1 : Int32) : Option (Int32 × qW) :=
  q_st w 7 64 s1 s0 (fun w1 => q_bn (l7 + 1 : Int32) (fun v2 => f_X3_value_B311 k54 w1 v2 l8 l9))
def f_X3_value_B54 (k54 : qW → Int32 → Int32 → Int32 → Option (Int32 × qW)) (w : qW) (l7 : Int32) (l8 : Int32) (l9 : Int32) : Option (Int32 × qW) :=
  q_rf (q_R w 3 3) 128 (fun id1 => if (Int32.ofNat 128) ≤ l9 then (some (0, w)) else (if l8 < 0 then (some (0, w)) else (if (q_I w 3 4) ≤ l8 then (some (0, w)) else (q_rf (q_R w 3 3) 128 (fun id3 => q_ld (q_A w id3) 128 l8 (fun v5 => q_bn (v5 &&& 31 : Int32) (fun v6 => q_rf (q_R w 3 3) 128 (fun id7 => q_ld (q_A w id7) 128 l8 (fun v9 => q_bn (v9 >>> (5 &&& 31) : Int32) (fun v10 => q_bn (l8 + 1 : Int32) (fun v11 => if v6 = 2 then (if l7 ≤ 0 then (some (0, w)) else (q_ld (q_A w 7) 64 (l7 - 1) (fun v14 => some (v14, w)))) else (if 1 < v6 then (if 6 ≤ v6 then (f_X3_value_B190 k54 w l7 v11 l9 v6 v10 2 l7) else (f_X3_value_B190 k54 w l7 v11 l9 v6 v10 1 l7)) else (if l7 < (Int32.ofNat 64) then (if v6 = 0 then (f_X3_value_B169 k54 w l7 v11 l9 v10 l7) else (q_cl (f_X3_valueOf w v10) (fun r12 w13 => f_X3_value_B169 k54 w13 l7 v11 l9 r12 l7))) else (some (0, w)))))))))))))))
def f_X3_value_R54 : Nat → qW → Int32 → Int32 → Int32 → Option (Int32 × qW)
  | 0, _, _, _, _ => none
  | n + 1, w, l7, l8, l9 => f_X3_value_B54 (f_X3_value_R54 n) w l7 l8 l9
def f_X3_value (w : qW) (a1 : Int32) (a2 : Int32) (a3 : Int32) (a4 : Int32) (a5 : Int32) (a6 : Int32) : Option (Int32 × qW) :=
  q_st w 8 6 0 a1 (fun w1 => q_st w1 8 6 1 a2 (fun w2 => q_st w2 8 6 2 a3 (fun w3 => q_st w3 8 6 3 a4 (fun w4 => q_st w4 8 6 4 a5 (fun w5 => q_st w5 8 6 5 a6 (fun w6 => f_X3_value_R54  q_fuel w6 0 0 0))))))
def f_X5_cast_B193 (w : qW) (l13 : Int32) : Option (Int32 × qW) :=
  q_bn (if l13 < 12 then l13 else 12 : Int32) (fun v1 => q_bn (if 0 < v1 then v1 else 0 : Int32) (fun v2 => some (v2, w)))
def f_X5_cast_B122 (w : qW) (l2 : Int32) (l3 : Int32) (l4 : Int32) (l6 : Int32) (l10 : Int32) (l11 : Int32) (s0 : Int32) (s1 : Int32) (s2 : Int32) : Option (Int32 × qW) :=
  if (s1 + s0) < s2 then (some (0, w)) else (if l11 ≤ l3 then (q_cl (f_X4_get w 0 7) (fun r1 w2 => q_bn (((((6 : Int32) + ((2 : Int32) * l2)) - l10) - l11) - r1 : Int32) (fun v3 => q_cl (f_X3_isTold w2 ) (fun r4 w5 => if r4 = 0 then (f_X5_cast_B193 w5 v3) else (q_cl (f_X3_value w5 l2 l10 l11 r1 l6 l4) (fun r6 w7 => f_X5_cast_B193 w7 r6)))))) else (some (0, w)))
def f_X5_cast_B93 (w : qW) (l2 : Int32) (l3 : Int32) (l4 : Int32) (l6 : Int32) (l10 : Int32) (s0 : Int32) : Option (Int32 × qW) :=
  q_bn (if 0 ≤ s0 then s0 else 0 - s0 : Int32) (fun v1 => if l10 < 1 then (some (0, w)) else (q_ld (q_T 3) (q_Tn 3) l6 (fun v2 => if l2 = 2 then (f_X5_cast_B122 w l2 l3 l4 l6 l10 v1 1 v2 l10) else (f_X5_cast_B122 w l2 l3 l4 l6 l10 v1 0 v2 l10))))
def f_X5_cast_B79 (w : qW) (l2 : Int32) (l3 : Int32) (l4 : Int32) (l6 : Int32) (l7 : Int32) (l8 : Int32) (l9 : Int32) (s0 : Int32) : Option (Int32 × qW) :=
  if l9 = 0 then (f_X5_cast_B93 w l2 l3 l4 l6 s0 l8) else (f_X5_cast_B93 w l2 l3 l4 l6 s0 l7)
def f_X5_cast_B52 (w : qW) (l2 : Int32) (l3 : Int32) (l4 : Int32) (l6 : Int32) (l7 : Int32) (l8 : Int32) (s0 : Int32) : Option (Int32 × qW) :=
  if s0 = 0 then (if 4 ≤ l6 then (f_X5_cast_B79 w l2 l3 l4 l6 l7 l8 s0 l7) else (f_X5_cast_B79 w l2 l3 l4 l6 l7 l8 s0 (-l7))) else (f_X5_cast_B79 w l2 l3 l4 l6 l7 l8 s0 (-l8))
def f_X5_cast_B51 (w : qW) (l2 : Int32) (l3 : Int32) (l4 : Int32) (l6 : Int32) (l7 : Int32) (l8 : Int32) : Option (Int32 × qW) :=
  f_X5_cast_B52 w l2 l3 l4 l6 l7 l8 0
def f_X5_cast (w : qW) (a1 : Int32) (a2 : Int32) (a3 : Int32) (a4 : Int32) (a5 : Int32) (a6 : Int32) : Option (Int32 × qW) :=
  q_cl (f_X10_isHour w a6) (fun r1 w2 => if r1 = 0 then (some (0, w2)) else (q_bn ((q_rem a5 12) - (q_rem a1 12) : Int32) (fun v3 => q_bn ((a5 / 12) - (a1 / 12) : Int32) (fun v4 => if a6 < 4 then (f_X5_cast_B51 w2 a2 a3 a4 a6 v3 v4) else (if 8 ≤ a6 then (f_X5_cast_B51 w2 a2 a3 a4 a6 v3 v4) else (f_X5_cast_B52 w2 a2 a3 a4 a6 v3 v4 1))))))
def f_X5_ifHe (w : qW) (a1 : Int32) (a2 : Int32) (a3 : Int32) (a4 : Int32) (a5 : Int32) : Option (Int32 × qW) :=
  q_cl (f_X4_get w a1 2) (fun r1 w2 => q_cl (f_X5_cast w2 a2 a3 r1 a1 a4 a5) (fun r3 w4 => some (r3, w4)))
def f_X5_byMan (w : qW) (a1 : Int32) (a2 : Int32) (a3 : Int32) : Option (Int32 × qW) :=
  if a1 < (q_I w 1 1) then (q_cl (f_X4_get w a1 0) (fun r1 w2 => q_cl (f_X4_get w2 a1 1) (fun r3 w4 => q_cl (f_X4_get w4 a1 2) (fun r5 w6 => q_cl (f_X5_cast w6 r1 r3 r5 a1 a2 a3) (fun r7 w8 => some (r7, w8)))))) else (some (0, w))
def f_X5_byAll_B5 (k5 : qW → Int32 → Int32 → Int32 → Int32 → Option (Int32 × qW)) (w : qW) (l1 : Int32) (l2 : Int32) (l3 : Int32) (l4 : Int32) : Option (Int32 × qW) :=
  if (q_I w 1 1) ≤ l4 then (some (l3, w)) else (q_cl (f_X5_byMan w l4 l1 l2) (fun r1 w2 => q_bn (l3 + r1 : Int32) (fun v3 => q_bn (l4 + 1 : Int32) (fun v4 => k5 w2 l1 l2 v3 v4))))
def f_X5_byAll_R5 : Nat → qW → Int32 → Int32 → Int32 → Int32 → Option (Int32 × qW)
  | 0, _, _, _, _, _ => none
  | n + 1, w, l1, l2, l3, l4 => f_X5_byAll_B5 (f_X5_byAll_R5 n) w l1 l2 l3 l4
def f_X5_byAll (w : qW) (a1 : Int32) (a2 : Int32) : Option (Int32 × qW) :=
  f_X5_byAll_R5  q_fuel w a1 a2 0 0
def f_X3_take (w : qW) (a1 : Int32) : Option (Int32 × qW) :=
  if (q_I w 3 1) < 120 then (q_st w 4 120 (q_I w 3 1) a1 (fun w1 => q_bn (q_sI w1 3 1 ((q_I w1 3 1) + 1)) (fun w2 => some (q_I w2 3 1, w2)))) else (some ((-3), w))
def f_X3_next (w : qW) : Option (Int32 × qW) :=
  if (q_I w 3 1) ≤ (q_I w 3 2) then (some ((-1), w)) else (if 120 ≤ (q_I w 3 2) then (some ((-1), w)) else (q_ld (q_A w 4) 120 (q_I w 3 2) (fun v1 => some (v1, w))))
def f_X3_isDigit (w : qW) (a1 : Int32) : Option (Int32 × qW) :=
  if a1 < 48 then (some (0 &&& 1, w)) else (if 57 < a1 then (some (0 &&& 1, w)) else (some (1 &&& 1, w)))
def f_X3_write (w : qW) (a1 : Int32) (a2 : Int32) : Option (Unit × qW) :=
  q_rf (q_R w 3 5) 128 (fun id1 => if (Int32.ofNat 128) ≤ (q_I w 3 6) then (some ((), w)) else (q_rf (q_R w 3 5) 128 (fun id3 => q_st w id3 128 (q_I w 3 6) (a1 ||| (a2 <<< (5 &&& 31))) (fun w5 => q_bn (q_sI w5 3 6 ((q_I w5 3 6) + 1)) (fun w6 => some ((), w6))))))
def f_X3_readNumber_B48 (w : qW) (l1 : Int32) : Option (Unit × qW) :=
  q_cl (f_X3_write w 0 l1) (fun _ w2 => some ((), w2))
def f_X3_readNumber_B4 (k4 : qW → Int32 → Int32 → Option (Unit × qW)) (w : qW) (l1 : Int32) (l2 : Int32) : Option (Unit × qW) :=
  if 4 ≤ l2 then (f_X3_readNumber_B48 w l1) else (q_cl (f_X3_next w ) (fun r1 w2 => q_cl (f_X3_isDigit w2 r1) (fun r3 w4 => if r3 = 0 then (f_X3_readNumber_B48 w4 l1) else (q_cl (f_X3_next w4 ) (fun r5 w6 => q_bn ((((10 : Int32) * l1) + r5) - 48 : Int32) (fun v7 => q_bn (q_sI w6 3 2 ((q_I w6 3 2) + 1)) (fun w8 => q_bn (l2 + 1 : Int32) (fun v9 => k4 w8 v7 v9))))))))
def f_X3_readNumber_R4 : Nat → qW → Int32 → Int32 → Option (Unit × qW)
  | 0, _, _, _ => none
  | n + 1, w, l1, l2 => f_X3_readNumber_B4 (f_X3_readNumber_R4 n) w l1 l2
def f_X3_readNumber (w : qW) : Option (Unit × qW) :=
  f_X3_readNumber_R4  q_fuel w 0 0
def f_X3_nameOf (w : qW) (a1 : Int32) : Option (Int32 × qW) :=
  if a1 = 97 then (some (2, w)) else (if a1 = 98 then (some (3, w)) else (if a1 = 104 then (some (4, w)) else (if a1 = 107 then (some (0, w)) else (if a1 = 109 then (some (5, w)) else (if a1 = 115 then (some (1, w)) else (some ((-1), w)))))))
def f_X3_operator (w : qW) (a1 : Int32) (a2 : Int32) : Option (Int32 × qW) :=
  if a2 = 37 then (if a1 = 4 then (some (15, w)) else (some ((-1), w))) else (if a2 = 38 then (if a1 = 1 then (some (7, w)) else (some ((-1), w))) else (if a2 = 42 then (if a1 = 4 then (some (13, w)) else (some ((-1), w))) else (if a2 = 43 then (if a1 = 3 then (some (11, w)) else (some ((-1), w))) else (if a2 = 45 then (if a1 = 3 then (some (12, w)) else (some ((-1), w))) else (if a2 = 47 then (if a1 = 4 then (some (14, w)) else (some ((-1), w))) else (if a2 = 60 then (if a1 = 2 then (some (8, w)) else (some ((-1), w))) else (if a2 = 61 then (if a1 = 2 then (some (9, w)) else (some ((-1), w))) else (if a2 = 62 then (if a1 = 2 then (some (10, w)) else (some ((-1), w))) else (if a2 = 124 then (if a1 = 0 then (some (6, w)) else (some ((-1), w))) else (some ((-1), w)))))))))))
def f_X3_readLevel_B39 (r_X3_readLevel : qW → Int32 → Int32 → Option (Int32 × qW)) (r_X3_readOperand : qW → Int32 → Option (Int32 × qW)) (k39 : qW → Int32 → Int32 → Int32 → Int32 → Option (Int32 × qW)) (w : qW) (l1 : Int32) (l2 : Int32) (l3 : Int32) (l4 : Int32) : Option (Int32 × qW) :=
  if l3 ≤ l4 then (some (1 &&& 1, w)) else (q_cl (f_X3_next w ) (fun r1 w2 => q_cl (f_X3_operator w2 l1 r1) (fun r3 w4 => if 0 ≤ r3 then (q_bn (q_sI w4 3 2 ((q_I w4 3 2) + 1)) (fun w5 => q_cl (r_X3_readLevel w5 (l1 + 1) l2) (fun r6 w7 => if r6 = 0 then (some (0 &&& 1, w7)) else (q_cl (f_X3_write w7 r3 0) (fun _ w9 => q_bn (l4 + 1 : Int32) (fun v10 => k39 w9 l1 l2 l3 v10)))))) else (some (1 &&& 1, w4)))))
def f_X3_readLevel_R39 (r_X3_readLevel : qW → Int32 → Int32 → Option (Int32 × qW)) (r_X3_readOperand : qW → Int32 → Option (Int32 × qW)) : Nat → qW → Int32 → Int32 → Int32 → Int32 → Option (Int32 × qW)
  | 0, _, _, _, _, _ => none
  | n + 1, w, l1, l2, l3, l4 => f_X3_readLevel_B39 r_X3_readLevel r_X3_readOperand (f_X3_readLevel_R39 r_X3_readLevel r_X3_readOperand n) w l1 l2 l3 l4
def f_X3_readLevel_B35 (r_X3_readLevel : qW → Int32 → Int32 → Option (Int32 × qW)) (r_X3_readOperand : qW → Int32 → Option (Int32 × qW)) (w : qW) (l1 : Int32) (l2 : Int32) (s0 : Int32) : Option (Int32 × qW) :=
  f_X3_readLevel_R39 r_X3_readLevel r_X3_readOperand  q_fuel w l1 l2 s0 0
def b_X3_readLevel (r_X3_readLevel : qW → Int32 → Int32 → Option (Int32 × qW)) (r_X3_readOperand : qW → Int32 → Option (Int32 × qW)) (w : qW) (a1 : Int32) (a2 : Int32) : Option (Int32 × qW) :=
  if a1 < 5 then (q_cl (r_X3_readLevel w (a1 + 1) a2) (fun r1 w2 => if r1 = 0 then (some (0 &&& 1, w2)) else (if a1 = 2 then (f_X3_readLevel_B35 r_X3_readLevel r_X3_readOperand w2 a1 a2 1) else (f_X3_readLevel_B35 r_X3_readLevel r_X3_readOperand w2 a1 a2 120)))) else (q_cl (r_X3_readOperand w a2) (fun r3 w4 => some (r3 &&& 1, w4)))
def f_X3_readOperand_B108 (r_X3_readLevel : qW → Int32 → Int32 → Option (Int32 × qW)) (r_X3_readOperand : qW → Int32 → Option (Int32 × qW)) (w : qW) (l4 : Int32) (s0 : Int32) : Option (Int32 × qW) :=
  q_cl (f_X3_write w s0 0) (fun _ w2 => some (l4 &&& 1, w2))
def f_X3_readOperand_B71 (r_X3_readLevel : qW → Int32 → Int32 → Option (Int32 × qW)) (r_X3_readOperand : qW → Int32 → Option (Int32 × qW)) (w : qW) (l1 : Int32) (l2 : Int32) : Option (Int32 × qW) :=
  q_bn (q_sI w 3 2 ((q_I w 3 2) + 1)) (fun w1 => if l2 = 40 then (q_cl (r_X3_readLevel w1 0 (l1 + 1)) (fun r2 w3 => if r2 = 0 then (some (0 &&& 1, w3)) else (q_cl (f_X3_next w3 ) (fun r4 w5 => if r4 = 41 then (q_bn (q_sI w5 3 2 ((q_I w5 3 2) + 1)) (fun w6 => some (1 &&& 1, w6))) else (some (0 &&& 1, w5)))))) else (q_cl (r_X3_readOperand w1 (l1 + 1)) (fun r7 w8 => if l2 = 33 then (f_X3_readOperand_B108 r_X3_readLevel r_X3_readOperand w8 r7 4) else (f_X3_readOperand_B108 r_X3_readLevel r_X3_readOperand w8 r7 5))))
def b_X3_readOperand (r_X3_readLevel : qW → Int32 → Int32 → Option (Int32 × qW)) (r_X3_readOperand : qW → Int32 → Option (Int32 × qW)) (w : qW) (a1 : Int32) : Option (Int32 × qW) :=
  q_cl (f_X3_next w ) (fun r1 w2 => q_cl (f_X3_isDigit w2 r1) (fun r3 w4 => if r3 = 0 then (q_cl (f_X3_nameOf w4 r1) (fun r5 w6 => if r5 < 0 then (if 6 ≤ a1 then (some (0 &&& 1, w6)) else (if r1 = 40 then (f_X3_readOperand_B71 r_X3_readLevel r_X3_readOperand w6 a1 r1) else (if r1 = 33 then (f_X3_readOperand_B71 r_X3_readLevel r_X3_readOperand w6 a1 r1) else (if r1 = 45 then (f_X3_readOperand_B71 r_X3_readLevel r_X3_readOperand w6 a1 r1) else (some (0 &&& 1, w6)))))) else (q_bn (q_sI w6 3 2 ((q_I w6 3 2) + 1)) (fun w7 => q_cl (f_X3_write w7 1 r5) (fun _ w9 => some (1 &&& 1, w9)))))) else (q_cl (f_X3_readNumber w4 ) (fun _ w11 => some (1 &&& 1, w11)))))
def G_X3_readLevel : Nat → (qW → Int32 → Int32 → Option (Int32 × qW)) × (qW → Int32 → Option (Int32 × qW))
  | 0 => (fun _ _ _ => none, fun _ _ => none)
  | n + 1 => (b_X3_readLevel ((G_X3_readLevel n).1)  ((G_X3_readLevel n).2), b_X3_readOperand ((G_X3_readLevel n).1)  ((G_X3_readLevel n).2))
def f_X3_readLevel (w : qW) (a1 : Int32) (a2 : Int32) : Option (Int32 × qW) := ((G_X3_readLevel q_rfuel).1) w a1 a2
def f_X3_readOperand (w : qW) (a1 : Int32) : Option (Int32 × qW) := ((G_X3_readLevel q_rfuel).2) w a1
def f_X3_readLine (w : qW) : Option (Int32 × qW) :=
  q_cl (f_X3_readLevel w 0 0) (fun r1 w2 => if r1 = 0 then (some (0 &&& 1, w2)) else (q_cl (f_X3_next w2 ) (fun r3 w4 => if r3 = 63 then (q_bn (q_sI w4 3 2 ((q_I w4 3 2) + 1)) (fun w7 => q_bn (q_I w7 3 6 : Int32) (fun v8 => q_cl (f_X3_write w7 3 0) (fun _ w10 => q_cl (f_X3_readLevel w10 0 0) (fun r11 w12 => if r11 = 0 then (some (0 &&& 1, w12)) else (q_cl (f_X3_write w12 2 0) (fun _ w14 => q_rf (q_R w14 3 5) 128 (fun id15 => if (Int32.ofNat 128) ≤ v8 then (some (1 &&& 1, w14)) else (q_rf (q_R w14 3 5) 128 (fun id17 => q_st w14 id17 128 v8 ((3 : Int32) ||| ((q_I w14 3 6) <<< (5 &&& 31))) (fun w19 => some (1 &&& 1, w19)))))))))))) else (q_cl (f_X3_write w4 2 0) (fun _ w6 => some (1 &&& 1, w6))))))
def f_X3_readText_B2 (k2 : qW → Int32 → Option (Int32 × qW)) (w : qW) (l1 : Int32) : Option (Int32 × qW) :=
  if 120 < l1 then (some (0 &&& 1, w)) else (q_cl (f_X3_readLine w ) (fun r1 w2 => if r1 = 0 then (some (0 &&& 1, w2)) else (q_cl (f_X3_next w2 ) (fun r3 w4 => if 0 ≤ r3 then (if r3 = 59 then (q_bn (q_sI w4 3 2 ((q_I w4 3 2) + 1)) (fun w5 => q_bn (l1 + 1 : Int32) (fun v6 => k2 w5 v6))) else (some (0 &&& 1, w4))) else (some (1 &&& 1, w4))))))
def f_X3_readText_R2 : Nat → qW → Int32 → Option (Int32 × qW)
  | 0, _, _ => none
  | n + 1, w, l1 => f_X3_readText_B2 (f_X3_readText_R2 n) w l1
def f_X3_readText (w : qW) : Option (Int32 × qW) :=
  f_X3_readText_R2  q_fuel w 0
def f_X3_learn (w : qW) : Option (Int32 × qW) :=
  q_bn (q_sI w 3 2 0) (fun w1 => q_bn (q_sI w1 3 6 0) (fun w2 => q_cl (f_X3_readText w2 ) (fun r3 w4 => q_bn (q_sI w4 3 1 0) (fun w5 => if r3 = 0 then (some (q_I w5 3 2, w5)) else (q_rf (q_R w5 3 3) 128 (fun id6 => q_rf (q_R w5 3 5) 128 (fun id8 => q_bn (q_sR w5 3 3 id8) (fun w10 => q_bn (q_sR w10 3 5 id6) (fun w11 => q_bn (q_sI w11 3 4 (q_I w11 3 6)) (fun w12 => q_bn (q_sI w12 3 7 1) (fun w13 => some ((-1), w13))))))))))))
def f_X0_isThree (w : qW) (id1 : Nat) (a2 : Int32) : Option (Int32 × qW) :=
  q_cl (f_X6_get w id1 a2) (fun r1 w2 => q_cl (f_X6_get w2 id1 (a2 + 1)) (fun r3 w4 => if (lg_cmp r1 0) < 0 then (some (0 &&& 1, w4)) else (if 0 ≤ (lg_cmp r1 12) then (some (0 &&& 1, w4)) else (if (lg_cmp r3 0) < 0 then (some (0 &&& 1, w4)) else (if 0 ≤ (lg_cmp r3 12) then (some (0 &&& 1, w4)) else (some (1 &&& 1, w4)))))))
def f_X0_open_B12 (id1 : Nat) (k12 : qW → Int32 → Option (Unit × qW)) (w : qW) (l2 : Int32) : Option (Unit × qW) :=
  q_cl (f_X6_size w id1) (fun r1 w2 => if r1 ≤ l2 then (some ((), w2)) else (if 20 ≤ (q_I w2 16 4) then (some ((), w2)) else (q_cl (f_X6_size w2 id1) (fun r3 w4 => if r3 ≤ (l2 + 2) then (q_bn (q_sI w4 16 5 1) (fun w5 => some ((), w5))) else (q_cl (f_X0_isThree w4 id1 l2) (fun r6 w7 => if r6 = 0 then (q_bn (q_sI w7 16 5 1) (fun w18 => some ((), w18))) else (q_cl (f_X6_get w7 id1 (l2 + 1)) (fun r8 w9 => q_cl (f_X6_get w9 id1 l2) (fun r10 w11 => q_st w11 17 20 (q_I w7 16 4) (((12 : Int32) * (Int64.toInt32 r8)) + (Int64.toInt32 r10)) (fun w12 => q_cl (f_X6_get w12 id1 (l2 + 2)) (fun r13 w14 => q_st w14 18 20 (q_I w12 16 4) (Int64.toInt32 r13) (fun w15 => q_bn (q_sI w15 16 4 ((q_I w15 16 4) + 1)) (fun w16 => q_bn (l2 + 3 : Int32) (fun v17 => k12 w16 v17))))))))))))))
def f_X0_open_R12 (id1 : Nat) : Nat → qW → Int32 → Option (Unit × qW)
  | 0, _, _ => none
  | n + 1, w, l2 => f_X0_open_B12 id1 (f_X0_open_R12 id1 n) w l2
def f_X0_open (w : qW) (id1 : Nat) : Option (Unit × qW) :=
  q_bn (q_sI w 16 4 0) (fun w1 => q_bn (q_sI w1 16 5 0) (fun w2 => f_X0_open_R12 id1  q_fuel w2 0))
def f_X0_firstWrong_B2 (k2 : qW → Int32 → Int32 → Option (Int32 × qW)) (w : qW) (l1 : Int32) (l2 : Int32) : Option (Int32 × qW) :=
  if (q_I w 16 4) ≤ l2 then (if (q_I w 16 5) = 0 then (some ((-2), w)) else (some (q_I w 16 4, w))) else (q_ld (q_A w 17) 20 l2 (fun v1 => q_cl (f_X5_byAll w v1 l1) (fun r2 w3 => q_bn (if r2 < 12 then r2 else 12 : Int32) (fun v4 => q_ld (q_A w3 18) 20 l2 (fun v5 => if v4 = v5 then (q_bn (l2 + 1 : Int32) (fun v6 => k2 w3 l1 v6)) else (some (l2, w3)))))))
def f_X0_firstWrong_R2 : Nat → qW → Int32 → Int32 → Option (Int32 × qW)
  | 0, _, _, _ => none
  | n + 1, w, l1, l2 => f_X0_firstWrong_B2 (f_X0_firstWrong_R2 n) w l1 l2
def f_X0_firstWrong (w : qW) (a1 : Int32) : Option (Int32 × qW) :=
  f_X0_firstWrong_R2  q_fuel w a1 0
def f_X0_leaveOut_B12 (k12 : qW → Int32 → Int32 → Int32 → Option (Unit × qW)) (w : qW) (l1 : Int32) (l2 : Int32) (l3 : Int32) : Option (Unit × qW) :=
  if (q_I w 16 4) ≤ l3 then (some ((), w)) else (q_ld (q_A w 17) 20 l3 (fun v1 => q_cl (f_X5_byAll w v1 l2) (fun r2 w3 => q_ld (q_A w3 17) 20 l3 (fun v4 => q_cl (f_X5_byMan w3 l1 v4 l2) (fun r5 w6 => q_st w6 19 20 l3 (r2 - r5) (fun w7 => q_bn (l3 + 1 : Int32) (fun v8 => k12 w7 l1 l2 v8)))))))
def f_X0_leaveOut_R12 : Nat → qW → Int32 → Int32 → Int32 → Option (Unit × qW)
  | 0, _, _, _, _ => none
  | n + 1, w, l1, l2, l3 => f_X0_leaveOut_B12 (f_X0_leaveOut_R12 n) w l1 l2 l3
def f_X0_leaveOut (w : qW) (a1 : Int32) (a2 : Int32) : Option (Unit × qW) :=
  q_bn (q_sI w 16 8 a1) (fun w1 => q_bn (q_sI w1 16 9 a2) (fun w2 => f_X0_leaveOut_R12  q_fuel w2 a1 a2 0))
def f_X0_fitsHim_B2 (k2 : qW → Int32 → Int32 → Int32 → Option (Int32 × qW)) (w : qW) (l1 : Int32) (l2 : Int32) (l3 : Int32) : Option (Int32 × qW) :=
  if (q_I w 16 4) ≤ l3 then (if (q_I w 16 5) = 0 then (some (1 &&& 1, w)) else (some (0 &&& 1, w))) else (q_ld (q_A w 19) 20 l3 (fun v1 => q_ld (q_A w 17) 20 l3 (fun v2 => q_cl (f_X5_ifHe w (q_I w 16 8) l1 l2 v2 (q_I w 16 9)) (fun r3 w4 => q_bn (v1 + r3 : Int32) (fun v5 => q_bn (if v5 < 12 then v5 else 12 : Int32) (fun v6 => q_ld (q_A w4 18) 20 l3 (fun v7 => if v6 = v7 then (q_bn (l3 + 1 : Int32) (fun v8 => k2 w4 l1 l2 v8)) else (some (0 &&& 1, w4)))))))))
def f_X0_fitsHim_R2 : Nat → qW → Int32 → Int32 → Int32 → Option (Int32 × qW)
  | 0, _, _, _, _ => none
  | n + 1, w, l1, l2, l3 => f_X0_fitsHim_B2 (f_X0_fitsHim_R2 n) w l1 l2 l3
def f_X0_fitsHim (w : qW) (a1 : Int32) (a2 : Int32) : Option (Int32 × qW) :=
  f_X0_fitsHim_R2  q_fuel w a1 a2 0
def f_X0_cellsThatFit_B34 (k4 : qW → Int32 → Int32 → Option (Int32 × qW)) (w : qW) (l1 : Int32) (l2 : Int32) : Option (Int32 × qW) :=
  q_bn (l2 + 1 : Int32) (fun v1 => k4 w l1 v1)
def f_X0_cellsThatFit_B4 (k4 : qW → Int32 → Int32 → Option (Int32 × qW)) (w : qW) (l1 : Int32) (l2 : Int32) : Option (Int32 × qW) :=
  if 144 ≤ l2 then (some (l1, w)) else (q_cl (f_X4_get w (q_I w 16 8) 1) (fun r1 w2 => q_cl (f_X0_fitsHim w2 l2 r1) (fun r3 w4 => if r3 = 0 then (f_X0_cellsThatFit_B34 k4 w4 l1 l2) else (q_bn (l1 + 1 : Int32) (fun v5 => f_X0_cellsThatFit_B34 k4 w4 v5 l2)))))
def f_X0_cellsThatFit_R4 : Nat → qW → Int32 → Int32 → Option (Int32 × qW)
  | 0, _, _, _ => none
  | n + 1, w, l1, l2 => f_X0_cellsThatFit_B4 (f_X0_cellsThatFit_R4 n) w l1 l2
def f_X0_cellsThatFit (w : qW) : Option (Int32 × qW) :=
  f_X0_cellsThatFit_R4  q_fuel w 0 0
def f_X0_leastCellThatFits_B2 (k2 : qW → Int32 → Option (Int32 × qW)) (w : qW) (l1 : Int32) : Option (Int32 × qW) :=
  if 144 ≤ l1 then (some ((-2), w)) else (q_cl (f_X4_get w (q_I w 16 8) 1) (fun r1 w2 => q_cl (f_X0_fitsHim w2 l1 r1) (fun r3 w4 => if r3 = 0 then (q_bn (l1 + 1 : Int32) (fun v5 => k2 w4 v5)) else (some (l1, w4)))))
def f_X0_leastCellThatFits_R2 : Nat → qW → Int32 → Option (Int32 × qW)
  | 0, _, _ => none
  | n + 1, w, l1 => f_X0_leastCellThatFits_B2 (f_X0_leastCellThatFits_R2 n) w l1
def f_X0_leastCellThatFits (w : qW) : Option (Int32 × qW) :=
  f_X0_leastCellThatFits_R2  q_fuel w 0
def f_X0_kindsThatFit_B35 (k4 : qW → Int32 → Int32 → Option (Int32 × qW)) (w : qW) (l1 : Int32) (l2 : Int32) : Option (Int32 × qW) :=
  q_bn (l2 + 1 : Int32) (fun v1 => k4 w l1 v1)
def f_X0_kindsThatFit_B4 (k4 : qW → Int32 → Int32 → Option (Int32 × qW)) (w : qW) (l1 : Int32) (l2 : Int32) : Option (Int32 × qW) :=
  if 2 < l2 then (some (l1, w)) else (q_cl (f_X4_get w (q_I w 16 8) 0) (fun r1 w2 => q_cl (f_X0_fitsHim w2 r1 l2) (fun r3 w4 => if r3 = 0 then (f_X0_kindsThatFit_B35 k4 w4 l1 l2) else (q_bn (l1 ||| ((1 : Int32) <<< (l2 &&& 31)) : Int32) (fun v5 => f_X0_kindsThatFit_B35 k4 w4 v5 l2)))))
def f_X0_kindsThatFit_R4 : Nat → qW → Int32 → Int32 → Option (Int32 × qW)
  | 0, _, _, _ => none
  | n + 1, w, l1, l2 => f_X0_kindsThatFit_B4 (f_X0_kindsThatFit_R4 n) w l1 l2
def f_X0_kindsThatFit (w : qW) : Option (Int32 × qW) :=
  f_X0_kindsThatFit_R4  q_fuel w 0 0
def f_X0_weighMen_B12 (k2 : qW → Int32 → Int32 → Option (Unit × qW)) (k12 : qW → Int32 → Int32 → Int32 → Option (Unit × qW)) (w : qW) (l1 : Int32) (l2 : Int32) (l3 : Int32) : Option (Unit × qW) :=
  if (q_I w 1 1) ≤ l3 then (q_bn (l2 + 1 : Int32) (fun v1 => k2 w l1 v1)) else (q_ld (q_A w 17) 20 l2 (fun v2 => q_cl (f_X5_byMan w l3 v2 l1) (fun r3 w4 => q_st w4 20 140 ((l2 * 7) + l3) r3 (fun w5 => q_bn (l3 + 1 : Int32) (fun v6 => k12 w5 l1 l2 v6)))))
def f_X0_weighMen_R12 (k2 : qW → Int32 → Int32 → Option (Unit × qW)) : Nat → qW → Int32 → Int32 → Int32 → Option (Unit × qW)
  | 0, _, _, _, _ => none
  | n + 1, w, l1, l2, l3 => f_X0_weighMen_B12 k2 (f_X0_weighMen_R12 k2 n) w l1 l2 l3
def f_X0_weighMen_B2 (k2 : qW → Int32 → Int32 → Option (Unit × qW)) (w : qW) (l1 : Int32) (l2 : Int32) : Option (Unit × qW) :=
  if (q_I w 16 4) ≤ l2 then (some ((), w)) else (f_X0_weighMen_R12 k2  q_fuel w l1 l2 0)
def f_X0_weighMen_R2 : Nat → qW → Int32 → Int32 → Option (Unit × qW)
  | 0, _, _, _ => none
  | n + 1, w, l1, l2 => f_X0_weighMen_B2 (f_X0_weighMen_R2 n) w l1 l2
def f_X0_weighMen (w : qW) (a1 : Int32) : Option (Unit × qW) :=
  f_X0_weighMen_R2  q_fuel w a1 0
def f_X0_fitsSet_B51 (k2 : qW → Int32 → Int32 → Option (Int32 × qW)) (k15 : qW → Int32 → Int32 → Int32 → Int32 → Option (Int32 × qW)) (w : qW) (l1 : Int32) (l2 : Int32) (l3 : Int32) (l4 : Int32) : Option (Int32 × qW) :=
  q_bn (l4 + 1 : Int32) (fun v1 => k15 w l1 l2 l3 v1)
def f_X0_fitsSet_B15 (k2 : qW → Int32 → Int32 → Option (Int32 × qW)) (k15 : qW → Int32 → Int32 → Int32 → Int32 → Option (Int32 × qW)) (w : qW) (l1 : Int32) (l2 : Int32) (l3 : Int32) (l4 : Int32) : Option (Int32 × qW) :=
  if (q_I w 1 1) ≤ l4 then (q_bn (if l3 < 12 then l3 else 12 : Int32) (fun v1 => q_ld (q_A w 18) 20 l2 (fun v2 => if v1 = v2 then (q_bn (l2 + 1 : Int32) (fun v3 => k2 w l1 v3)) else (some (0 &&& 1, w))))) else (if ((l1 >>> (l4 &&& 31)) &&& 1) = 0 then (f_X0_fitsSet_B51 k2 k15 w l1 l2 l3 l4) else (q_ld (q_A w 20) 140 ((l2 * 7) + l4) (fun v4 => q_bn (l3 + v4 : Int32) (fun v5 => f_X0_fitsSet_B51 k2 k15 w l1 l2 v5 l4))))
def f_X0_fitsSet_R15 (k2 : qW → Int32 → Int32 → Option (Int32 × qW)) : Nat → qW → Int32 → Int32 → Int32 → Int32 → Option (Int32 × qW)
  | 0, _, _, _, _, _ => none
  | n + 1, w, l1, l2, l3, l4 => f_X0_fitsSet_B15 k2 (f_X0_fitsSet_R15 k2 n) w l1 l2 l3 l4
def f_X0_fitsSet_B2 (k2 : qW → Int32 → Int32 → Option (Int32 × qW)) (w : qW) (l1 : Int32) (l2 : Int32) : Option (Int32 × qW) :=
  if (q_I w 16 4) ≤ l2 then (if (q_I w 16 5) = 0 then (some (1 &&& 1, w)) else (some (0 &&& 1, w))) else (f_X0_fitsSet_R15 k2  q_fuel w l1 l2 0 0)
def f_X0_fitsSet_R2 : Nat → qW → Int32 → Int32 → Option (Int32 × qW)
  | 0, _, _, _ => none
  | n + 1, w, l1, l2 => f_X0_fitsSet_B2 (f_X0_fitsSet_R2 n) w l1 l2
def f_X0_fitsSet (w : qW) (a1 : Int32) : Option (Int32 × qW) :=
  f_X0_fitsSet_R2  q_fuel w a1 0
def f_X0_setsThatFit_B26 (k4 : qW → Int32 → Int32 → Option (Int32 × qW)) (w : qW) (l1 : Int32) (l2 : Int32) : Option (Int32 × qW) :=
  q_bn (l2 + 1 : Int32) (fun v1 => k4 w l1 v1)
def f_X0_setsThatFit_B4 (k4 : qW → Int32 → Int32 → Option (Int32 × qW)) (w : qW) (l1 : Int32) (l2 : Int32) : Option (Int32 × qW) :=
  q_cl (f_X4_everyone w ) (fun r1 w2 => if r1 < l2 then (some (l1, w2)) else (q_cl (f_X0_fitsSet w2 l2) (fun r3 w4 => if r3 = 0 then (f_X0_setsThatFit_B26 k4 w4 l1 l2) else (q_bn (l1 + 1 : Int32) (fun v5 => f_X0_setsThatFit_B26 k4 w4 v5 l2)))))
def f_X0_setsThatFit_R4 : Nat → qW → Int32 → Int32 → Option (Int32 × qW)
  | 0, _, _, _ => none
  | n + 1, w, l1, l2 => f_X0_setsThatFit_B4 (f_X0_setsThatFit_R4 n) w l1 l2
def f_X0_setsThatFit (w : qW) : Option (Int32 × qW) :=
  f_X0_setsThatFit_R4  q_fuel w 0 0
def f_X0_leastSetThatFits_B2 (k2 : qW → Int32 → Option (Int32 × qW)) (w : qW) (l1 : Int32) : Option (Int32 × qW) :=
  q_cl (f_X4_everyone w ) (fun r1 w2 => if r1 < l1 then (some ((-2), w2)) else (q_cl (f_X0_fitsSet w2 l1) (fun r3 w4 => if r3 = 0 then (q_bn (l1 + 1 : Int32) (fun v5 => k2 w4 v5)) else (some (l1, w4)))))
def f_X0_leastSetThatFits_R2 : Nat → qW → Int32 → Option (Int32 × qW)
  | 0, _, _ => none
  | n + 1, w, l1 => f_X0_leastSetThatFits_B2 (f_X0_leastSetThatFits_R2 n) w l1
def f_X0_leastSetThatFits (w : qW) : Option (Int32 × qW) :=
  f_X0_leastSetThatFits_R2  q_fuel w 0
def f_X0_certain_B37 (k12 : qW → Int32 → Int32 → Int32 → Option (Int32 × qW)) (w : qW) (l1 : Int32) (l2 : Int32) (l3 : Int32) : Option (Int32 × qW) :=
  q_bn (l3 + 1 : Int32) (fun v1 => k12 w l1 l2 v1)
def f_X0_certain_B12 (k12 : qW → Int32 → Int32 → Int32 → Option (Int32 × qW)) (w : qW) (l1 : Int32) (l2 : Int32) (l3 : Int32) : Option (Int32 × qW) :=
  q_cl (f_X4_everyone w ) (fun r1 w2 => if r1 < l3 then (if l2 = 0 then (some (0, w2)) else (some (l1, w2))) else (q_cl (f_X0_fitsSet w2 l3) (fun r3 w4 => if r3 = 0 then (f_X0_certain_B37 k12 w4 l1 l2 l3) else (q_bn (l1 &&& l3 : Int32) (fun v5 => f_X0_certain_B37 k12 w4 v5 1 l3)))))
def f_X0_certain_R12 : Nat → qW → Int32 → Int32 → Int32 → Option (Int32 × qW)
  | 0, _, _, _, _ => none
  | n + 1, w, l1, l2, l3 => f_X0_certain_B12 (f_X0_certain_R12 n) w l1 l2 l3
def f_X0_certain (w : qW) : Option (Int32 × qW) :=
  q_cl (f_X4_everyone w ) (fun r1 w2 => f_X0_certain_R12  q_fuel w2 r1 0 0)
def f_X0_wishOf_B10 (id1 : Nat) (k10 : qW → Int32 → Int32 → Int32 → Int32 → Option (Int32 × qW)) (w : qW) (l2 : Int32) (l3 : Int32) (l4 : Int32) (l5 : Int32) : Option (Int32 × qW) :=
  q_cl (f_X6_size w id1) (fun r1 w2 => if r1 ≤ l5 then (q_cl (f_X6_size w2 id1) (fun r3 w4 => if r3 = 0 then (some ((-2), w4)) else (if l2 = 0 then (some ((4095 : Int32) &&& (l4 ^^^ (-1)), w4)) else (some (l3, w4))))) else (q_cl (f_X6_get w2 id1 l5) (fun r5 w6 => if (lg_cmp r5 0) < 0 then (some ((-2), w6)) else (if (lg_cmp r5 4095) ≤ 0 then (q_bn (l3 &&& (Int64.toInt32 r5) : Int32) (fun v7 => q_bn (l4 ||| (Int64.toInt32 r5) : Int32) (fun v8 => q_bn (l5 + 1 : Int32) (fun v9 => k10 w6 l2 v7 v8 v9)))) else (some ((-2), w6))))))
def f_X0_wishOf_R10 (id1 : Nat) : Nat → qW → Int32 → Int32 → Int32 → Int32 → Option (Int32 × qW)
  | 0, _, _, _, _, _ => none
  | n + 1, w, l2, l3, l4, l5 => f_X0_wishOf_B10 id1 (f_X0_wishOf_R10 id1 n) w l2 l3 l4 l5
def f_X0_wishOf (w : qW) (id1 : Nat) (a2 : Int32) : Option (Int32 × qW) :=
  f_X0_wishOf_R10 id1  q_fuel w a2 4095 0 0
def f_X9_apart (w : qW) (a1 : Int32) (a2 : Int32) : Option (Int32 × qW) :=
  q_bn (if 0 ≤ ((q_rem a1 12) - (q_rem a2 12)) then ((q_rem a1 12) - (q_rem a2 12)) else 0 - ((q_rem a1 12) - (q_rem a2 12)) : Int32) (fun v1 => q_bn (if 0 ≤ ((a1 / 12) - (a2 / 12)) then ((a1 / 12) - (a2 / 12)) else 0 - ((a1 / 12) - (a2 / 12)) : Int32) (fun v2 => some (v1 + v2, w)))
def f_X9_markSeat_B88 (k25 : qW → Int32 → Int32 → Int32 → Int32 → Int32 → Int32 → Int32 → Int32 → Option (Unit × qW)) (w : qW) (l1 : Int32) (l2 : Int32) (l3 : Int32) (l4 : Int32) (l5 : Int32) (l6 : Int32) (l7 : Int32) (l8 : Int32) : Option (Unit × qW) :=
  q_bn (l8 + 1 : Int32) (fun v1 => k25 w l1 l2 l3 l4 l5 l6 l7 v1)
def f_X9_markSeat_B25 (k25 : qW → Int32 → Int32 → Int32 → Int32 → Int32 → Int32 → Int32 → Int32 → Option (Unit × qW)) (w : qW) (l1 : Int32) (l2 : Int32) (l3 : Int32) (l4 : Int32) (l5 : Int32) (l6 : Int32) (l7 : Int32) (l8 : Int32) : Option (Unit × qW) :=
  if 144 ≤ l8 then (some ((), w)) else (q_cl (f_X9_apart w l8 l6) (fun r1 w2 => if l4 < r1 then (f_X9_markSeat_B88 k25 w2 l1 l2 l3 l4 l5 l6 l7 l8) else (q_cl (f_X5_ifHe w2 l1 l8 l7 l2 l3) (fun r3 w4 => if r3 < l5 then (f_X9_markSeat_B88 k25 w4 l1 l2 l3 l4 l5 l6 l7 l8) else (q_rf (q_R w4 21 2) 1728 (fun id5 => q_bn (((12 : Int32) * l8) + (l2 / 12) : Int32) (fun v7 => q_ld (q_A w4 id5) 1728 v7 (fun v8 => q_st w4 id5 1728 v7 (v8 ||| ((1 : Int32) <<< ((q_rem l2 12) &&& 31))) (fun w9 => f_X9_markSeat_B88 k25 w9 l1 l2 l3 l4 l5 l6 l7 l8)))))))))
def f_X9_markSeat_R25 : Nat → qW → Int32 → Int32 → Int32 → Int32 → Int32 → Int32 → Int32 → Int32 → Option (Unit × qW)
  | 0, _, _, _, _, _, _, _, _, _ => none
  | n + 1, w, l1, l2, l3, l4, l5, l6, l7, l8 => f_X9_markSeat_B25 (f_X9_markSeat_R25 n) w l1 l2 l3 l4 l5 l6 l7 l8
def f_X9_markSeat (w : qW) (a1 : Int32) (a2 : Int32) (a3 : Int32) (a4 : Int32) (a5 : Int32) : Option (Unit × qW) :=
  q_cl (f_X4_get w a1 0) (fun r1 w2 => q_cl (f_X4_get w2 a1 1) (fun r3 w4 => f_X9_markSeat_R25  q_fuel w4 a1 a2 a3 a4 a5 r1 r3 0))
def f_X9_lastPlaces_B85 (k11 : qW → Int32 → Int32 → Int32 → Int32 → Int32 → Option (Unit × qW)) (w : qW) (l1 : Int32) (l2 : Int32) (l3 : Int32) (l4 : Int32) (l5 : Int32) : Option (Unit × qW) :=
  q_bn (l5 + 1 : Int32) (fun v1 => k11 w l1 l2 l3 l4 v1)
def f_X9_lastPlaces_B11 (k11 : qW → Int32 → Int32 → Int32 → Int32 → Int32 → Option (Unit × qW)) (w : qW) (l1 : Int32) (l2 : Int32) (l3 : Int32) (l4 : Int32) (l5 : Int32) : Option (Unit × qW) :=
  if 144 ≤ l5 then (some ((), w)) else (q_cl (f_X4_get w l2 4) (fun r1 w2 => q_cl (f_X9_apart w2 l5 r1) (fun r3 w4 => if l4 < r3 then (f_X9_lastPlaces_B85 k11 w4 l1 l2 l3 l4 l5) else (q_cl (f_X5_byAll w4 l5 l3) (fun r5 w6 => q_cl (f_X5_byMan w6 l1 l5 l3) (fun r7 w8 => q_bn (r5 - r7 : Int32) (fun v9 => q_cl (f_X4_get w8 l2 6) (fun r10 w11 => q_cl (f_X9_markSeat w11 l1 l5 l3 l4 (r10 - v9)) (fun _ w13 => f_X9_lastPlaces_B85 k11 w13 l1 l2 l3 l4 l5)))))))))
def f_X9_lastPlaces_R11 : Nat → qW → Int32 → Int32 → Int32 → Int32 → Int32 → Option (Unit × qW)
  | 0, _, _, _, _, _, _ => none
  | n + 1, w, l1, l2, l3, l4, l5 => f_X9_lastPlaces_B11 (f_X9_lastPlaces_R11 n) w l1 l2 l3 l4 l5
def f_X9_lastPlaces (w : qW) (a1 : Int32) (a2 : Int32) (a3 : Int32) (a4 : Int32) : Option (Unit × qW) :=
  q_rf (q_R w 21 2) 1728 (fun id1 => q_cl (f_J7_fill_53178 1728 w id1 0) (fun _ w4 => f_X9_lastPlaces_R11  q_fuel w4 a1 a2 a3 a4 0))
def f_X9_manMoves_B110 (k2 : qW → Int32 → Int32 → Int32 → Option (Unit × qW)) (w : qW) (l1 : Int32) (l2 : Int32) (l3 : Int32) : Option (Unit × qW) :=
  q_bn (l3 + 1 : Int32) (fun v1 => k2 w l1 l2 v1)
def f_X9_manMoves_B84 (k2 : qW → Int32 → Int32 → Int32 → Option (Unit × qW)) (k24 : qW → Int32 → Int32 → Int32 → Int32 → Option (Unit × qW)) (k37 : qW → Int32 → Int32 → Int32 → Int32 → Int32 → Int32 → Option (Unit × qW)) (w : qW) (l1 : Int32) (l2 : Int32) (l3 : Int32) (l4 : Int32) (l5 : Int32) (l6 : Int32) : Option (Unit × qW) :=
  q_bn (l6 + 1 : Int32) (fun v1 => k37 w l1 l2 l3 l4 l5 v1)
def f_X9_manMoves_B37 (k2 : qW → Int32 → Int32 → Int32 → Option (Unit × qW)) (k24 : qW → Int32 → Int32 → Int32 → Int32 → Option (Unit × qW)) (k37 : qW → Int32 → Int32 → Int32 → Int32 → Int32 → Int32 → Option (Unit × qW)) (w : qW) (l1 : Int32) (l2 : Int32) (l3 : Int32) (l4 : Int32) (l5 : Int32) (l6 : Int32) : Option (Unit × qW) :=
  if 4 < l6 then (q_rf (q_R w 21 3) 1728 (fun id1 => q_st w id1 1728 (((12 : Int32) * l3) + l4) l5 (fun w3 => q_bn (l4 + 1 : Int32) (fun v4 => k24 w3 l1 l2 l3 v4)))) else (q_cl (f_X10_cellAfter w l3 l6) (fun r5 w6 => if r5 < 0 then (f_X9_manMoves_B84 k2 k24 k37 w6 l1 l2 l3 l4 l5 l6) else (q_cl (f_X9_apart w6 r5 l1) (fun r7 w8 => if l2 < r7 then (f_X9_manMoves_B84 k2 k24 k37 w8 l1 l2 l3 l4 l5 l6) else (q_rf (q_R w8 21 2) 1728 (fun id9 => q_ld (q_A w8 id9) 1728 (((12 : Int32) * r5) + l4) (fun v11 => q_bn (l5 ||| v11 : Int32) (fun v12 => f_X9_manMoves_B84 k2 k24 k37 w8 l1 l2 l3 l4 v12 l6))))))))
def f_X9_manMoves_R37 (k2 : qW → Int32 → Int32 → Int32 → Option (Unit × qW)) (k24 : qW → Int32 → Int32 → Int32 → Int32 → Option (Unit × qW)) : Nat → qW → Int32 → Int32 → Int32 → Int32 → Int32 → Int32 → Option (Unit × qW)
  | 0, _, _, _, _, _, _, _ => none
  | n + 1, w, l1, l2, l3, l4, l5, l6 => f_X9_manMoves_B37 k2 k24 (f_X9_manMoves_R37 k2 k24 n) w l1 l2 l3 l4 l5 l6
def f_X9_manMoves_B24 (k2 : qW → Int32 → Int32 → Int32 → Option (Unit × qW)) (k24 : qW → Int32 → Int32 → Int32 → Int32 → Option (Unit × qW)) (w : qW) (l1 : Int32) (l2 : Int32) (l3 : Int32) (l4 : Int32) : Option (Unit × qW) :=
  if 12 ≤ l4 then (f_X9_manMoves_B110 k2 w l1 l2 l3) else (f_X9_manMoves_R37 k2 k24  q_fuel w l1 l2 l3 l4 0 0)
def f_X9_manMoves_R24 (k2 : qW → Int32 → Int32 → Int32 → Option (Unit × qW)) : Nat → qW → Int32 → Int32 → Int32 → Int32 → Option (Unit × qW)
  | 0, _, _, _, _, _ => none
  | n + 1, w, l1, l2, l3, l4 => f_X9_manMoves_B24 k2 (f_X9_manMoves_R24 k2 n) w l1 l2 l3 l4
def f_X9_manMoves_B2 (k2 : qW → Int32 → Int32 → Int32 → Option (Unit × qW)) (w : qW) (l1 : Int32) (l2 : Int32) (l3 : Int32) : Option (Unit × qW) :=
  if 144 ≤ l3 then (some ((), w)) else (q_cl (f_X9_apart w l3 l1) (fun r1 w2 => if r1 ≤ l2 then (f_X9_manMoves_R24 k2  q_fuel w2 l1 l2 l3 0) else (f_X9_manMoves_B110 k2 w2 l1 l2 l3)))
def f_X9_manMoves_R2 : Nat → qW → Int32 → Int32 → Int32 → Option (Unit × qW)
  | 0, _, _, _, _ => none
  | n + 1, w, l1, l2, l3 => f_X9_manMoves_B2 (f_X9_manMoves_R2 n) w l1 l2 l3
def f_X9_manMoves (w : qW) (a1 : Int32) (a2 : Int32) : Option (Unit × qW) :=
  f_X9_manMoves_R2  q_fuel w a1 a2 0
def f_X9_sitterMoves_B151 (k2 : qW → Int32 → Int32 → Int32 → Option (Unit × qW)) (w : qW) (l1 : Int32) (l2 : Int32) (l3 : Int32) : Option (Unit × qW) :=
  q_bn (l3 + 1 : Int32) (fun v1 => k2 w l1 l2 v1)
def f_X9_sitterMoves_B117 (k2 : qW → Int32 → Int32 → Int32 → Option (Unit × qW)) (k24 : qW → Int32 → Int32 → Int32 → Int32 → Option (Unit × qW)) (w : qW) (l1 : Int32) (l2 : Int32) (l3 : Int32) (l4 : Int32) (l5 : Int32) (l6 : Int32) (l7 : Int32) (l8 : Int32) (s0 : Int32) : Option (Unit × qW) :=
  q_rf (q_R w 21 3) 1728 (fun id1 => q_st w id1 1728 (((12 : Int32) * l3) + l4) ((((l5 &&& l6) &&& l7) &&& l8) &&& s0) (fun w3 => q_bn (l4 + 1 : Int32) (fun v4 => k24 w3 l1 l2 l3 v4)))
def f_X9_sitterMoves_B88 (k2 : qW → Int32 → Int32 → Int32 → Option (Unit × qW)) (k24 : qW → Int32 → Int32 → Int32 → Int32 → Option (Unit × qW)) (w : qW) (l1 : Int32) (l2 : Int32) (l3 : Int32) (l4 : Int32) (l5 : Int32) (l6 : Int32) (l7 : Int32) (s0 : Int32) : Option (Unit × qW) :=
  if 11 ≤ l4 then (f_X9_sitterMoves_B117 k2 k24 w l1 l2 l3 l4 l5 l6 l7 s0 4095) else (q_rf (q_R w 21 2) 1728 (fun id1 => q_ld (q_A w id1) 1728 ((((12 : Int32) * l3) + l4) + 1) (fun v3 => f_X9_sitterMoves_B117 k2 k24 w l1 l2 l3 l4 l5 l6 l7 s0 v3)))
def f_X9_sitterMoves_B24 (k2 : qW → Int32 → Int32 → Int32 → Option (Unit × qW)) (k24 : qW → Int32 → Int32 → Int32 → Int32 → Option (Unit × qW)) (w : qW) (l1 : Int32) (l2 : Int32) (l3 : Int32) (l4 : Int32) : Option (Unit × qW) :=
  if 12 ≤ l4 then (f_X9_sitterMoves_B151 k2 w l1 l2 l3) else (q_rf (q_R w 21 2) 1728 (fun id1 => q_ld (q_A w id1) 1728 (((12 : Int32) * l3) + l4) (fun v3 => q_bn ((v3 <<< (1 &&& 31)) ||| 1 : Int32) (fun v4 => q_bn ((v3 >>> (1 &&& 31)) ||| 2048 : Int32) (fun v5 => if l4 ≤ 0 then (f_X9_sitterMoves_B88 k2 k24 w l1 l2 l3 l4 v3 v4 v5 4095) else (q_rf (q_R w 21 2) 1728 (fun id6 => q_ld (q_A w id6) 1728 ((((12 : Int32) * l3) + l4) - 1) (fun v8 => f_X9_sitterMoves_B88 k2 k24 w l1 l2 l3 l4 v3 v4 v5 v8))))))))
def f_X9_sitterMoves_R24 (k2 : qW → Int32 → Int32 → Int32 → Option (Unit × qW)) : Nat → qW → Int32 → Int32 → Int32 → Int32 → Option (Unit × qW)
  | 0, _, _, _, _, _ => none
  | n + 1, w, l1, l2, l3, l4 => f_X9_sitterMoves_B24 k2 (f_X9_sitterMoves_R24 k2 n) w l1 l2 l3 l4
def f_X9_sitterMoves_B2 (k2 : qW → Int32 → Int32 → Int32 → Option (Unit × qW)) (w : qW) (l1 : Int32) (l2 : Int32) (l3 : Int32) : Option (Unit × qW) :=
  if 144 ≤ l3 then (some ((), w)) else (q_cl (f_X9_apart w l3 l1) (fun r1 w2 => if r1 ≤ l2 then (f_X9_sitterMoves_R24 k2  q_fuel w2 l1 l2 l3 0) else (f_X9_sitterMoves_B151 k2 w2 l1 l2 l3)))
def f_X9_sitterMoves_R2 : Nat → qW → Int32 → Int32 → Int32 → Option (Unit × qW)
  | 0, _, _, _, _ => none
  | n + 1, w, l1, l2, l3 => f_X9_sitterMoves_B2 (f_X9_sitterMoves_R2 n) w l1 l2 l3
def f_X9_sitterMoves (w : qW) (a1 : Int32) (a2 : Int32) : Option (Unit × qW) :=
  f_X9_sitterMoves_R2  q_fuel w a1 a2 0
def f_X9_winningStep_B173 (k115 : qW → Int32 → Int32 → Int32 → Int32 → Option (Int32 × qW)) (w : qW) (l5 : Int32) (l6 : Int32) (l9 : Int32) (l10 : Int32) : Option (Int32 × qW) :=
  q_bn (l10 + 1 : Int32) (fun v1 => k115 w l5 l6 l9 v1)
def f_X9_winningStep_B115 (k115 : qW → Int32 → Int32 → Int32 → Int32 → Option (Int32 × qW)) (w : qW) (l5 : Int32) (l6 : Int32) (l9 : Int32) (l10 : Int32) : Option (Int32 × qW) :=
  if l9 ≤ l10 then (some ((-1), w)) else (q_ld (q_T 2) (q_Tn 2) l10 (fun v1 => q_cl (f_X10_cellAfter w l5 v1) (fun r2 w3 => if r2 < 0 then (f_X9_winningStep_B173 k115 w3 l5 l6 l9 l10) else (q_rf (q_R w3 21 2) 1728 (fun id4 => q_ld (q_A w3 id4) 1728 (((12 : Int32) * r2) + (l6 / 12)) (fun v6 => if ((v6 >>> ((q_rem l6 12) &&& 31)) &&& 1) = 0 then (f_X9_winningStep_B173 k115 w3 l5 l6 l9 l10) else (some (v1, w3))))))))
def f_X9_winningStep_R115 : Nat → qW → Int32 → Int32 → Int32 → Int32 → Option (Int32 × qW)
  | 0, _, _, _, _, _ => none
  | n + 1, w, l5, l6, l9, l10 => f_X9_winningStep_B115 (f_X9_winningStep_R115 n) w l5 l6 l9 l10
def f_X9_winningStep_B76 (k45 : qW → Int32 → Int32 → Int32 → Int32 → Option (Int32 × qW)) (w : qW) (l5 : Int32) (l6 : Int32) (l7 : Int32) (l8 : Int32) : Option (Int32 × qW) :=
  q_rf (q_R w 21 2) 1728 (fun id1 => q_rf (q_R w 21 3) 1728 (fun id3 => q_bn (q_sR w 21 2 id3) (fun w5 => q_bn (q_sR w5 21 3 id1) (fun w6 => q_bn (l8 + (-1) : Int32) (fun v7 => k45 w6 l5 l6 l7 v7)))))
def f_X9_winningStep_B45 (k45 : qW → Int32 → Int32 → Int32 → Int32 → Option (Int32 × qW)) (w : qW) (l5 : Int32) (l6 : Int32) (l7 : Int32) (l8 : Int32) : Option (Int32 × qW) :=
  if l8 ≤ 0 then (q_bn (Int32.ofNat (q_Tn 2) : Int32) (fun v1 => f_X9_winningStep_R115  q_fuel w l5 l6 v1 0)) else (if (q_rem l8 2) = 0 then (q_cl (f_X9_manMoves w l5 l7) (fun _ w5 => f_X9_winningStep_B76 k45 w5 l5 l6 l7 l8)) else (q_cl (f_X9_sitterMoves w l5 l7) (fun _ w3 => f_X9_winningStep_B76 k45 w3 l5 l6 l7 l8)))
def f_X9_winningStep_R45 : Nat → qW → Int32 → Int32 → Int32 → Int32 → Option (Int32 × qW)
  | 0, _, _, _, _, _ => none
  | n + 1, w, l5, l6, l7, l8 => f_X9_winningStep_B45 (f_X9_winningStep_R45 n) w l5 l6 l7 l8
def f_X9_winningStep (w : qW) (a1 : Int32) (a2 : Int32) (a3 : Int32) (a4 : Int32) : Option (Int32 × qW) :=
  q_cl (f_X4_get w a1 0) (fun r1 w2 => q_cl (f_X4_get w2 a2 4) (fun r3 w4 => q_bn ((a4 + 1) / 2 : Int32) (fun v5 => q_cl (f_X9_lastPlaces w4 a1 a2 a3 v5) (fun _ w7 => q_bn (a4 - 1 : Int32) (fun v8 => f_X9_winningStep_R45  q_fuel w7 r1 r3 v5 v8)))))
def f_X7_shadyCells_B26 (k4 : qW → Int32 → Int32 → Int32 → Option (Int32 × qW)) (w : qW) (l1 : Int32) (l2 : Int32) (l3 : Int32) : Option (Int32 × qW) :=
  q_bn (l3 + 1 : Int32) (fun v1 => k4 w l1 l2 v1)
def f_X7_shadyCells_B4 (k4 : qW → Int32 → Int32 → Int32 → Option (Int32 × qW)) (w : qW) (l1 : Int32) (l2 : Int32) (l3 : Int32) : Option (Int32 × qW) :=
  if 144 ≤ l3 then (some (l2, w)) else (q_cl (f_X5_byAll w l3 l1) (fun r1 w2 => if r1 ≤ 0 then (f_X7_shadyCells_B26 k4 w2 l1 l2 l3) else (q_bn (l2 + 1 : Int32) (fun v3 => f_X7_shadyCells_B26 k4 w2 l1 v3 l3))))
def f_X7_shadyCells_R4 : Nat → qW → Int32 → Int32 → Int32 → Option (Int32 × qW)
  | 0, _, _, _, _ => none
  | n + 1, w, l1, l2, l3 => f_X7_shadyCells_B4 (f_X7_shadyCells_R4 n) w l1 l2 l3
def f_X7_shadyCells (w : qW) (a1 : Int32) : Option (Int32 × qW) :=
  f_X7_shadyCells_R4  q_fuel w a1 0 0
def f_X7_darkest_B44 (k7 : qW → Int32 → Int32 → Int32 → Int32 → Option (Int32 × qW)) (w : qW) (l1 : Int32) (l2 : Int32) (l3 : Int32) (l4 : Int32) : Option (Int32 × qW) :=
  q_bn (l4 + 1 : Int32) (fun v1 => k7 w l1 l2 l3 v1)
def f_X7_darkest_B7 (k7 : qW → Int32 → Int32 → Int32 → Int32 → Option (Int32 × qW)) (w : qW) (l1 : Int32) (l2 : Int32) (l3 : Int32) (l4 : Int32) : Option (Int32 × qW) :=
  if 144 ≤ l4 then (some (l2, w)) else (q_cl (f_X5_byAll w l4 l1) (fun r1 w2 => q_bn (if r1 < 12 then r1 else 12 : Int32) (fun v3 => if v3 ≤ l3 then (f_X7_darkest_B44 k7 w2 l1 l2 l3 l4) else (f_X7_darkest_B44 k7 w2 l1 l4 v3 l4))))
def f_X7_darkest_R7 : Nat → qW → Int32 → Int32 → Int32 → Int32 → Option (Int32 × qW)
  | 0, _, _, _, _, _ => none
  | n + 1, w, l1, l2, l3, l4 => f_X7_darkest_B7 (f_X7_darkest_R7 n) w l1 l2 l3 l4
def f_X7_darkest (w : qW) (a1 : Int32) : Option (Int32 × qW) :=
  f_X7_darkest_R7  q_fuel w a1 0 0 0
def f_X7_weigh_B53 (k2 : qW → Int32 → Int32 → Int32 → Option (Unit × qW)) (k27 : qW → Int32 → Int32 → Int32 → Int32 → Int32 → Option (Unit × qW)) (k53 : qW → Int32 → Int32 → Int32 → Int32 → Int32 → Int32 → Int32 → Option (Unit × qW)) (w : qW) (l1 : Int32) (l2 : Int32) (l3 : Int32) (l4 : Int32) (l5 : Int32) (l6 : Int32) (l7 : Int32) : Option (Unit × qW) :=
  if 7 ≤ l7 then (q_bn (l5 + 1 : Int32) (fun v1 => k27 w l1 l2 l3 l4 v1)) else (q_cl (f_X5_byMan w l7 l4 l5) (fun r2 w3 => q_st w3 12 672 (((7 : Int32) * l6) + l7) r2 (fun w4 => q_ld (q_A w4 11) 96 l6 (fun v5 => q_ld (q_A w4 12) 672 (((7 : Int32) * l6) + l7) (fun v6 => q_st w4 11 96 l6 (v5 + v6) (fun w7 => q_bn (l7 + 1 : Int32) (fun v8 => k53 w7 l1 l2 l3 l4 l5 l6 v8)))))))
def f_X7_weigh_R53 (k2 : qW → Int32 → Int32 → Int32 → Option (Unit × qW)) (k27 : qW → Int32 → Int32 → Int32 → Int32 → Int32 → Option (Unit × qW)) : Nat → qW → Int32 → Int32 → Int32 → Int32 → Int32 → Int32 → Int32 → Option (Unit × qW)
  | 0, _, _, _, _, _, _, _, _ => none
  | n + 1, w, l1, l2, l3, l4, l5, l6, l7 => f_X7_weigh_B53 k2 k27 (f_X7_weigh_R53 k2 k27 n) w l1 l2 l3 l4 l5 l6 l7
def f_X7_weigh_B27 (k2 : qW → Int32 → Int32 → Int32 → Option (Unit × qW)) (k27 : qW → Int32 → Int32 → Int32 → Int32 → Int32 → Option (Unit × qW)) (w : qW) (l1 : Int32) (l2 : Int32) (l3 : Int32) (l4 : Int32) (l5 : Int32) : Option (Unit × qW) :=
  if l2 < l5 then (q_bn (l3 + 1 : Int32) (fun v1 => k2 w l1 l2 v1)) else (q_bn (((12 : Int32) * l3) + l5 : Int32) (fun v2 => q_st w 11 96 v2 0 (fun w3 => f_X7_weigh_R53 k2 k27  q_fuel w3 l1 l2 l3 l4 l5 v2 0)))
def f_X7_weigh_R27 (k2 : qW → Int32 → Int32 → Int32 → Option (Unit × qW)) : Nat → qW → Int32 → Int32 → Int32 → Int32 → Int32 → Option (Unit × qW)
  | 0, _, _, _, _, _, _ => none
  | n + 1, w, l1, l2, l3, l4, l5 => f_X7_weigh_B27 k2 (f_X7_weigh_R27 k2 n) w l1 l2 l3 l4 l5
def f_X7_weigh_B2 (k2 : qW → Int32 → Int32 → Int32 → Option (Unit × qW)) (w : qW) (l1 : Int32) (l2 : Int32) (l3 : Int32) : Option (Unit × qW) :=
  if (q_I w 1 2) ≤ l3 then (some ((), w)) else (q_cl (f_X4_get w l3 4) (fun r1 w2 => f_X7_weigh_R27 k2  q_fuel w2 l1 l2 l3 r1 l1))
def f_X7_weigh_R2 : Nat → qW → Int32 → Int32 → Int32 → Option (Unit × qW)
  | 0, _, _, _, _ => none
  | n + 1, w, l1, l2, l3 => f_X7_weigh_B2 (f_X7_weigh_R2 n) w l1 l2 l3
def f_X7_weigh (w : qW) (a1 : Int32) (a2 : Int32) : Option (Unit × qW) :=
  f_X7_weigh_R2  q_fuel w a1 a2 0
def f_X7_leastOf (w : qW) (a1 : Int32) : Option (Int32 × qW) :=
  q_cl (f_X4_get w (a1 / 12) 6) (fun r1 w2 => some (r1, w2))
def f_X7_isServed (w : qW) (a1 : Int32) : Option (Int32 × qW) :=
  q_ld (q_A w 11) 96 a1 (fun v1 => q_cl (f_X7_leastOf w a1) (fun r2 w3 => if v1 < r2 then (some (0 &&& 1, w3)) else (some (1 &&& 1, w3))))
def f_X7_hoursOf_B36 (k11 : qW → Int32 → Int32 → Int32 → Option (Int32 × qW)) (w : qW) (l1 : Int32) (l2 : Int32) (l3 : Int32) : Option (Int32 × qW) :=
  q_bn (l3 + 1 : Int32) (fun v1 => k11 w l1 l2 v1)
def f_X7_hoursOf_B11 (k11 : qW → Int32 → Int32 → Int32 → Option (Int32 × qW)) (w : qW) (l1 : Int32) (l2 : Int32) (l3 : Int32) : Option (Int32 × qW) :=
  if 12 ≤ l3 then (some (l2, w)) else (q_cl (f_X7_isServed w (((12 : Int32) * l1) + l3)) (fun r1 w2 => if r1 = 0 then (f_X7_hoursOf_B36 k11 w2 l1 l2 l3) else (q_bn (l2 ||| ((1 : Int32) <<< (l3 &&& 31)) : Int32) (fun v3 => f_X7_hoursOf_B36 k11 w2 l1 v3 l3))))
def f_X7_hoursOf_R11 : Nat → qW → Int32 → Int32 → Int32 → Option (Int32 × qW)
  | 0, _, _, _, _ => none
  | n + 1, w, l1, l2, l3 => f_X7_hoursOf_B11 (f_X7_hoursOf_R11 n) w l1 l2 l3
def f_X7_hoursOf (w : qW) (a1 : Int32) : Option (Int32 × qW) :=
  q_cl (f_X7_weigh w 0 11) (fun _ w2 => f_X7_hoursOf_R11  q_fuel w2 a1 0 0)
def f_X7_missesOf (w : qW) (a1 : Int32) : Option (Int32 × qW) :=
  q_cl (f_X4_get w a1 5) (fun r1 w2 => q_cl (f_X7_hoursOf w2 a1) (fun r3 w4 => q_cl (f_J6_bitCount_0f7a4 w4 (r1 &&& (r3 ^^^ (-1)))) (fun r5 w6 => some (r5, w6))))
def f_X7_isWanted (w : qW) (a1 : Int32) : Option (Int32 × qW) :=
  q_cl (f_X4_get w (a1 / 12) 5) (fun r1 w2 => if ((r1 >>> ((q_rem a1 12) &&& 31)) &&& 1) = 0 then (some (0 &&& 1, w2)) else (some (1 &&& 1, w2)))
def f_X7_missesOfAll_B44 (k11 : qW → Int32 → Int32 → Option (Int32 × qW)) (w : qW) (l1 : Int32) (l2 : Int32) : Option (Int32 × qW) :=
  q_bn (l2 + 1 : Int32) (fun v1 => k11 w l1 v1)
def f_X7_missesOfAll_B11 (k11 : qW → Int32 → Int32 → Option (Int32 × qW)) (w : qW) (l1 : Int32) (l2 : Int32) : Option (Int32 × qW) :=
  if ((12 : Int32) * (q_I w 1 2)) ≤ l2 then (some (l1, w)) else (q_cl (f_X7_isWanted w l2) (fun r1 w2 => if r1 = 0 then (f_X7_missesOfAll_B44 k11 w2 l1 l2) else (q_cl (f_X7_isServed w2 l2) (fun r3 w4 => if r3 = 0 then (q_bn (l1 + 1 : Int32) (fun v5 => f_X7_missesOfAll_B44 k11 w4 v5 l2)) else (f_X7_missesOfAll_B44 k11 w4 l1 l2)))))
def f_X7_missesOfAll_R11 : Nat → qW → Int32 → Int32 → Option (Int32 × qW)
  | 0, _, _, _ => none
  | n + 1, w, l1, l2 => f_X7_missesOfAll_B11 (f_X7_missesOfAll_R11 n) w l1 l2
def f_X7_missesOfAll (w : qW) : Option (Int32 × qW) :=
  q_cl (f_X7_weigh w 0 11) (fun _ w2 => f_X7_missesOfAll_R11  q_fuel w2 0 0)
def f_X7_servedAt_B40 (k10 : qW → Int32 → Int32 → Int32 → Option (Int32 × qW)) (w : qW) (l1 : Int32) (l2 : Int32) (l3 : Int32) : Option (Int32 × qW) :=
  q_bn (l3 + 1 : Int32) (fun v1 => k10 w l1 l2 v1)
def f_X7_servedAt_B10 (k10 : qW → Int32 → Int32 → Int32 → Option (Int32 × qW)) (w : qW) (l1 : Int32) (l2 : Int32) (l3 : Int32) : Option (Int32 × qW) :=
  if (q_I w 1 2) ≤ l3 then (some (l2, w)) else (q_cl (f_X7_isServed w (((12 : Int32) * l3) + l1)) (fun r1 w2 => if r1 = 0 then (f_X7_servedAt_B40 k10 w2 l1 l2 l3) else (q_bn (l2 ||| ((1 : Int32) <<< (l3 &&& 31)) : Int32) (fun v3 => f_X7_servedAt_B40 k10 w2 l1 v3 l3))))
def f_X7_servedAt_R10 : Nat → qW → Int32 → Int32 → Int32 → Option (Int32 × qW)
  | 0, _, _, _, _ => none
  | n + 1, w, l1, l2, l3 => f_X7_servedAt_B10 (f_X7_servedAt_R10 n) w l1 l2 l3
def f_X7_servedAt (w : qW) (a1 : Int32) : Option (Int32 × qW) :=
  q_cl (f_X7_weigh w a1 a1) (fun _ w2 => f_X7_servedAt_R10  q_fuel w2 a1 0 0)
def f_X7_missingAt_B44 (k11 : qW → Int32 → Int32 → Int32 → Int32 → Option (Int32 × qW)) (w : qW) (l1 : Int32) (l2 : Int32) (l3 : Int32) (l4 : Int32) : Option (Int32 × qW) :=
  q_bn (l4 + 1 : Int32) (fun v1 => k11 w l1 l2 l3 v1)
def f_X7_missingAt_B11 (k11 : qW → Int32 → Int32 → Int32 → Int32 → Option (Int32 × qW)) (w : qW) (l1 : Int32) (l2 : Int32) (l3 : Int32) (l4 : Int32) : Option (Int32 × qW) :=
  if (q_I w 1 2) ≤ l4 then (some (l3 &&& (l2 ^^^ (-1)), w)) else (q_cl (f_X7_isWanted w (((12 : Int32) * l4) + l1)) (fun r1 w2 => if r1 = 0 then (f_X7_missingAt_B44 k11 w2 l1 l2 l3 l4) else (q_bn (l3 ||| ((1 : Int32) <<< (l4 &&& 31)) : Int32) (fun v3 => f_X7_missingAt_B44 k11 w2 l1 l2 v3 l4))))
def f_X7_missingAt_R11 : Nat → qW → Int32 → Int32 → Int32 → Int32 → Option (Int32 × qW)
  | 0, _, _, _, _, _ => none
  | n + 1, w, l1, l2, l3, l4 => f_X7_missingAt_B11 (f_X7_missingAt_R11 n) w l1 l2 l3 l4
def f_X7_missingAt (w : qW) (a1 : Int32) : Option (Int32 × qW) :=
  q_cl (f_X7_servedAt w a1) (fun r1 w2 => f_X7_missingAt_R11  q_fuel w2 a1 r1 0 0)
def f_X7_lastServed_B8 (k8 : qW → Int32 → Int32 → Option (Int32 × qW)) (w : qW) (l1 : Int32) (l3 : Int32) : Option (Int32 × qW) :=
  if l3 < 0 then (some ((-2), w)) else (q_cl (f_X7_isServed w (((12 : Int32) * l1) + l3)) (fun r1 w2 => if r1 = 0 then (q_bn (l3 + (-1) : Int32) (fun v3 => k8 w2 l1 v3)) else (some (l3, w2))))
def f_X7_lastServed_R8 : Nat → qW → Int32 → Int32 → Option (Int32 × qW)
  | 0, _, _, _ => none
  | n + 1, w, l1, l3 => f_X7_lastServed_B8 (f_X7_lastServed_R8 n) w l1 l3
def f_X7_lastServed (w : qW) (a1 : Int32) (a2 : Int32) : Option (Int32 × qW) :=
  q_cl (f_X7_weigh w 0 a2) (fun _ w2 => f_X7_lastServed_R8  q_fuel w2 a1 a2)
def f_X7_shareOf_B15 (k15 : qW → Int32 → Int32 → Int32 → Int32 → Int32 → Int32 → Option (Int32 × qW)) (w : qW) (l1 : Int32) (l2 : Int32) (l3 : Int32) (l4 : Int32) (l5 : Int32) (l6 : Int32) : Option (Int32 × qW) :=
  if (q_I w 1 2) ≤ l6 then (if l5 = 0 then (some (0, w)) else (q_nz l5 (some ((l3 * l4) / l5, w)))) else (q_bn (((12 : Int32) * l6) + l2 : Int32) (fun v1 => q_ld (q_A w 12) 672 (((7 : Int32) * v1) + l1) (fun v2 => q_bn (l4 + v2 : Int32) (fun v3 => q_ld (q_A w 11) 96 v1 (fun v4 => q_bn (l5 + v4 : Int32) (fun v5 => q_bn (l6 + 1 : Int32) (fun v6 => k15 w l1 l2 l3 v3 v5 v6)))))))
def f_X7_shareOf_R15 : Nat → qW → Int32 → Int32 → Int32 → Int32 → Int32 → Int32 → Option (Int32 × qW)
  | 0, _, _, _, _, _, _, _ => none
  | n + 1, w, l1, l2, l3, l4, l5, l6 => f_X7_shareOf_B15 (f_X7_shareOf_R15 n) w l1 l2 l3 l4 l5 l6
def f_X7_shareOf (w : qW) (a1 : Int32) (a2 : Int32) (a3 : Int32) : Option (Int32 × qW) :=
  q_cl (f_X7_weigh w a2 a2) (fun _ w2 => f_X7_shareOf_R15  q_fuel w2 a1 a2 a3 0 0 0)
def f_X7_markFails_B113 (k77 : qW → Int32 → Int32 → Int32 → Option (Unit × qW)) (w : qW) (l1 : Int32) (l2 : Int32) (l3 : Int32) : Option (Unit × qW) :=
  q_bn (l3 + 1 : Int32) (fun v1 => k77 w l1 l2 v1)
def f_X7_markFails_B77 (k77 : qW → Int32 → Int32 → Int32 → Option (Unit × qW)) (w : qW) (l1 : Int32) (l2 : Int32) (l3 : Int32) : Option (Unit × qW) :=
  q_cl (f_X4_everyone w ) (fun r1 w2 => if r1 < l3 then (some ((), w2)) else (q_ld (q_A w2 13) 128 l3 (fun v3 => if l2 ≤ v3 then (f_X7_markFails_B113 k77 w2 l1 l2 l3) else (q_ld (q_A w2 14) 128 l3 (fun v4 => q_st w2 14 128 l3 (v4 ||| ((1 : Int32) <<< ((q_rem l1 12) &&& 31))) (fun w5 => f_X7_markFails_B113 k77 w5 l1 l2 l3))))))
def f_X7_markFails_R77 : Nat → qW → Int32 → Int32 → Int32 → Option (Unit × qW)
  | 0, _, _, _, _ => none
  | n + 1, w, l1, l2, l3 => f_X7_markFails_B77 (f_X7_markFails_R77 n) w l1 l2 l3
def f_X7_markFails_B22 (k9 : qW → Int32 → Int32 → Option (Unit × qW)) (k22 : qW → Int32 → Int32 → Int32 → Option (Unit × qW)) (w : qW) (l1 : Int32) (l2 : Int32) (l3 : Int32) : Option (Unit × qW) :=
  if ((1 : Int32) <<< (l2 &&& 31)) ≤ l3 then (q_bn (l2 + 1 : Int32) (fun v1 => k9 w l1 v1)) else (q_ld (q_A w 13) 128 l3 (fun v2 => q_ld (q_A w 12) 672 (((7 : Int32) * l1) + l2) (fun v3 => q_st w 13 128 (((1 : Int32) <<< (l2 &&& 31)) ||| l3) (v2 + v3) (fun w4 => q_bn (l3 + 1 : Int32) (fun v5 => k22 w4 l1 l2 v5)))))
def f_X7_markFails_R22 (k9 : qW → Int32 → Int32 → Option (Unit × qW)) : Nat → qW → Int32 → Int32 → Int32 → Option (Unit × qW)
  | 0, _, _, _, _ => none
  | n + 1, w, l1, l2, l3 => f_X7_markFails_B22 k9 (f_X7_markFails_R22 k9 n) w l1 l2 l3
def f_X7_markFails_B9 (k9 : qW → Int32 → Int32 → Option (Unit × qW)) (w : qW) (l1 : Int32) (l2 : Int32) : Option (Unit × qW) :=
  if (q_I w 1 1) ≤ l2 then (q_cl (f_X7_leastOf w l1) (fun r1 w2 => f_X7_markFails_R77  q_fuel w2 l1 r1 0)) else (f_X7_markFails_R22 k9  q_fuel w l1 l2 0)
def f_X7_markFails_R9 : Nat → qW → Int32 → Int32 → Option (Unit × qW)
  | 0, _, _, _ => none
  | n + 1, w, l1, l2 => f_X7_markFails_B9 (f_X7_markFails_R9 n) w l1 l2
def f_X7_markFails (w : qW) (a1 : Int32) : Option (Unit × qW) :=
  q_st w 13 128 0 0 (fun w1 => f_X7_markFails_R9  q_fuel w1 a1 0)
def f_X7_weighSets_B52 (k17 : qW → Int32 → Option (Unit × qW)) (w : qW) (l1 : Int32) : Option (Unit × qW) :=
  q_bn (l1 + 1 : Int32) (fun v1 => k17 w v1)
def f_X7_weighSets_B17 (k17 : qW → Int32 → Option (Unit × qW)) (w : qW) (l1 : Int32) : Option (Unit × qW) :=
  if ((12 : Int32) * (q_I w 1 2)) ≤ l1 then (some ((), w)) else (q_cl (f_X7_isWanted w l1) (fun r1 w2 => if r1 = 0 then (f_X7_weighSets_B52 k17 w2 l1) else (q_cl (f_X7_isServed w2 l1) (fun r3 w4 => if r3 = 0 then (f_X7_weighSets_B52 k17 w4 l1) else (q_cl (f_X7_markFails w4 l1) (fun _ w6 => f_X7_weighSets_B52 k17 w6 l1))))))
def f_X7_weighSets_R17 : Nat → qW → Int32 → Option (Unit × qW)
  | 0, _, _ => none
  | n + 1, w, l1 => f_X7_weighSets_B17 (f_X7_weighSets_R17 n) w l1
def f_X7_weighSets (w : qW) : Option (Unit × qW) :=
  q_cl (f_X7_weigh w 0 11) (fun _ w2 => q_cl (f_J7_fill_53178 128 w2 14 0) (fun _ w4 => f_X7_weighSets_R17  q_fuel w4 0))
def f_X7_fewest_B47 (k14 : qW → Int32 → Int32 → Option (Int32 × qW)) (w : qW) (l1 : Int32) (l2 : Int32) : Option (Int32 × qW) :=
  q_bn (l2 + 1 : Int32) (fun v1 => k14 w l1 v1)
def f_X7_fewest_B14 (k14 : qW → Int32 → Int32 → Option (Int32 × qW)) (w : qW) (l1 : Int32) (l2 : Int32) : Option (Int32 × qW) :=
  q_cl (f_X4_everyone w ) (fun r1 w2 => if r1 ≤ l2 then (some (l1, w2)) else (q_ld (q_A w2 14) 128 l2 (fun v3 => if v3 = 0 then (q_cl (f_J6_bitCount_0f7a4 w2 l2) (fun r4 w5 => q_cl (f_J6_bitCount_0f7a4 w5 l1) (fun r6 w7 => if r6 ≤ r4 then (f_X7_fewest_B47 k14 w7 l1 l2) else (f_X7_fewest_B47 k14 w7 l2 l2)))) else (f_X7_fewest_B47 k14 w2 l1 l2))))
def f_X7_fewest_R14 : Nat → qW → Int32 → Int32 → Option (Int32 × qW)
  | 0, _, _, _ => none
  | n + 1, w, l1, l2 => f_X7_fewest_B14 (f_X7_fewest_R14 n) w l1 l2
def f_X7_fewest (w : qW) : Option (Int32 × qW) :=
  q_cl (f_X7_weighSets w ) (fun _ w2 => q_cl (f_X4_everyone w2 ) (fun r3 w4 => f_X7_fewest_R14  q_fuel w4 r3 0))
def f_X7_isNicer_B30 (w : qW) (l0 : Int32) (l1 : Int32) : Option (Int32 × qW) :=
  if l1 ≤ l0 then (some (0 &&& 1, w)) else (some (1 &&& 1, w))
def f_X7_isNicer (w : qW) (a1 : Int32) (a2 : Int32) (a3 : Int32) : Option (Int32 × qW) :=
  q_cl (f_J6_bitCount_0f7a4 w a2) (fun r1 w2 => q_cl (f_J6_bitCount_0f7a4 w2 a1) (fun r3 w4 => q_bn (r1 - r3 : Int32) (fun v5 => if a3 = 0 then (f_X7_isNicer_B30 w4 a1 a2) else (if v5 = 0 then (f_X7_isNicer_B30 w4 a1 a2) else (if v5 ≤ 0 then (some (0 &&& 1, w4)) else (some (1 &&& 1, w4)))))))
def f_X7_cheapestSet_B90 (k21 : qW → Int32 → Int32 → Int32 → Int32 → Int32 → Option (Int32 × qW)) (w : qW) (l1 : Int32) (l2 : Int32) (l3 : Int32) (l4 : Int32) (l5 : Int32) : Option (Int32 × qW) :=
  q_bn (l5 + 1 : Int32) (fun v1 => k21 w l1 l2 l3 l4 v1)
def f_X7_cheapestSet_B83 (k21 : qW → Int32 → Int32 → Int32 → Int32 → Int32 → Option (Int32 × qW)) (w : qW) (l1 : Int32) (l2 : Int32) (l5 : Int32) (l6 : Int32) : Option (Int32 × qW) :=
  f_X7_cheapestSet_B90 k21 w l1 l2 l5 l6 l5
def f_X7_cheapestSet_B21 (k21 : qW → Int32 → Int32 → Int32 → Int32 → Int32 → Option (Int32 × qW)) (w : qW) (l1 : Int32) (l2 : Int32) (l3 : Int32) (l4 : Int32) (l5 : Int32) : Option (Int32 × qW) :=
  q_cl (f_X4_everyone w ) (fun r1 w2 => if r1 ≤ l5 then (some (l3, w2)) else (q_ld (q_A w2 14) 128 l5 (fun v3 => if (v3 &&& l1) = 0 then (q_cl (f_X4_payOf w2 l5) (fun r4 w5 => if r4 < l4 then (f_X7_cheapestSet_B83 k21 w5 l1 l2 l5 r4) else (if r4 = l4 then (q_cl (f_X7_isNicer w5 l5 l3 l2) (fun r6 w7 => if r6 = 0 then (f_X7_cheapestSet_B90 k21 w7 l1 l2 l3 l4 l5) else (f_X7_cheapestSet_B83 k21 w7 l1 l2 l5 r4))) else (f_X7_cheapestSet_B90 k21 w5 l1 l2 l3 l4 l5)))) else (f_X7_cheapestSet_B90 k21 w2 l1 l2 l3 l4 l5))))
def f_X7_cheapestSet_R21 : Nat → qW → Int32 → Int32 → Int32 → Int32 → Int32 → Option (Int32 × qW)
  | 0, _, _, _, _, _, _ => none
  | n + 1, w, l1, l2, l3, l4, l5 => f_X7_cheapestSet_B21 (f_X7_cheapestSet_R21 n) w l1 l2 l3 l4 l5
def f_X7_cheapestSet (w : qW) (a1 : Int32) (a2 : Int32) : Option (Int32 × qW) :=
  q_cl (f_X4_everyone w ) (fun r1 w2 => q_cl (f_X4_payOf w2 r1) (fun r3 w4 => f_X7_cheapestSet_R21  q_fuel w4 a1 a2 r1 r3 0))
def f_X7_cheapest (w : qW) : Option (Int32 × qW) :=
  q_cl (f_X7_weighSets w ) (fun _ w2 => q_cl (f_X7_cheapestSet w2 4095 1) (fun r3 w4 => some (r3, w4)))
def f_X7_needed_B46 (k8 : qW → Int32 → Int32 → Option (Int32 × qW)) (w : qW) (l1 : Int32) (l2 : Int32) : Option (Int32 × qW) :=
  q_bn (l2 + 1 : Int32) (fun v1 => k8 w l1 v1)
def f_X7_needed_B8 (k8 : qW → Int32 → Int32 → Option (Int32 × qW)) (w : qW) (l1 : Int32) (l2 : Int32) : Option (Int32 × qW) :=
  if (q_I w 1 1) ≤ l2 then (some (l1, w)) else (q_cl (f_X4_everyone w ) (fun r1 w2 => q_ld (q_A w2 14) 128 (r1 &&& (((1 : Int32) <<< (l2 &&& 31)) ^^^ (-1))) (fun v3 => if v3 = 0 then (f_X7_needed_B46 k8 w2 l1 l2) else (q_bn (l1 ||| ((1 : Int32) <<< (l2 &&& 31)) : Int32) (fun v4 => f_X7_needed_B46 k8 w2 v4 l2)))))
def f_X7_needed_R8 : Nat → qW → Int32 → Int32 → Option (Int32 × qW)
  | 0, _, _, _ => none
  | n + 1, w, l1, l2 => f_X7_needed_B8 (f_X7_needed_R8 n) w l1 l2
def f_X7_needed (w : qW) : Option (Int32 × qW) :=
  q_cl (f_X7_weighSets w ) (fun _ w2 => f_X7_needed_R8  q_fuel w2 0 0)
def f_X7_rosterAt (w : qW) (a1 : Int32) : Option (Int32 × qW) :=
  q_cl (f_X7_weighSets w ) (fun _ w2 => q_cl (f_X7_cheapestSet w2 ((1 : Int32) <<< (a1 &&& 31)) 0) (fun r3 w4 => some (r3, w4)))
def f_X7_payOfRosters_B8 (k8 : qW → Int32 → Int32 → Option (Int32 × qW)) (w : qW) (l1 : Int32) (l2 : Int32) : Option (Int32 × qW) :=
  if 12 ≤ l2 then (some (l1, w)) else (q_cl (f_X7_cheapestSet w ((1 : Int32) <<< (l2 &&& 31)) 0) (fun r1 w2 => q_cl (f_X4_payOf w2 r1) (fun r3 w4 => q_bn (l1 + r3 : Int32) (fun v5 => q_bn (l2 + 1 : Int32) (fun v6 => k8 w4 v5 v6)))))
def f_X7_payOfRosters_R8 : Nat → qW → Int32 → Int32 → Option (Int32 × qW)
  | 0, _, _, _ => none
  | n + 1, w, l1, l2 => f_X7_payOfRosters_B8 (f_X7_payOfRosters_R8 n) w l1 l2
def f_X7_payOfRosters (w : qW) : Option (Int32 × qW) :=
  q_cl (f_X7_weighSets w ) (fun _ w2 => f_X7_payOfRosters_R8  q_fuel w2 0 0)
def f_X7_seatOf (w : qW) (a1 : Int32) : Option (Int32 × qW) :=
  q_cl (f_X4_get w (a1 / 12) 4) (fun r1 w2 => some (r1, w2))
def f_X7_missesBeside_B93 (k5 : qW → Int32 → Int32 → Int32 → Int32 → Option (Int32 × qW)) (w : qW) (l1 : Int32) (l2 : Int32) (l3 : Int32) (l4 : Int32) : Option (Int32 × qW) :=
  q_bn (l4 + 1 : Int32) (fun v1 => k5 w l1 l2 l3 v1)
def f_X7_missesBeside_B5 (k5 : qW → Int32 → Int32 → Int32 → Int32 → Option (Int32 × qW)) (w : qW) (l1 : Int32) (l2 : Int32) (l3 : Int32) (l4 : Int32) : Option (Int32 × qW) :=
  if ((12 : Int32) * (q_I w 1 2)) ≤ l4 then (some (l3, w)) else (q_cl (f_X7_isWanted w l4) (fun r1 w2 => if r1 = 0 then (f_X7_missesBeside_B93 k5 w2 l1 l2 l3 l4) else (q_cl (f_X7_isServed w2 l4) (fun r3 w4 => if r3 = 0 then (q_cl (f_X7_seatOf w4 l4) (fun r5 w6 => q_cl (f_X5_cast w6 l2 l1 1 (q_I w4 1 1) r5 (q_rem l4 12)) (fun r7 w8 => q_ld (q_A w8 11) 96 l4 (fun v9 => q_cl (f_X7_leastOf w8 l4) (fun r10 w11 => if r10 ≤ (v9 + r7) then (f_X7_missesBeside_B93 k5 w11 l1 l2 l3 l4) else (q_bn (l3 + 1 : Int32) (fun v12 => f_X7_missesBeside_B93 k5 w11 l1 l2 v12 l4))))))) else (f_X7_missesBeside_B93 k5 w4 l1 l2 l3 l4)))))
def f_X7_missesBeside_R5 : Nat → qW → Int32 → Int32 → Int32 → Int32 → Option (Int32 × qW)
  | 0, _, _, _, _, _ => none
  | n + 1, w, l1, l2, l3, l4 => f_X7_missesBeside_B5 (f_X7_missesBeside_R5 n) w l1 l2 l3 l4
def f_X7_missesBeside (w : qW) (a1 : Int32) (a2 : Int32) : Option (Int32 × qW) :=
  f_X7_missesBeside_R5  q_fuel w a1 a2 0 0
def f_X7_bestCell_B44 (k15 : qW → Int32 → Int32 → Int32 → Int32 → Option (Int32 × qW)) (w : qW) (l1 : Int32) (l2 : Int32) (l3 : Int32) (l4 : Int32) : Option (Int32 × qW) :=
  q_bn (l4 + 1 : Int32) (fun v1 => k15 w l1 l2 l3 v1)
def f_X7_bestCell_B15 (k15 : qW → Int32 → Int32 → Int32 → Int32 → Option (Int32 × qW)) (w : qW) (l1 : Int32) (l2 : Int32) (l3 : Int32) (l4 : Int32) : Option (Int32 × qW) :=
  if 144 ≤ l4 then (some (l2, w)) else (q_cl (f_X7_missesBeside w l1 l4) (fun r1 w2 => if l3 ≤ r1 then (f_X7_bestCell_B44 k15 w2 l1 l2 l3 l4) else (f_X7_bestCell_B44 k15 w2 l1 l4 r1 l4)))
def f_X7_bestCell_R15 : Nat → qW → Int32 → Int32 → Int32 → Int32 → Option (Int32 × qW)
  | 0, _, _, _, _, _ => none
  | n + 1, w, l1, l2, l3, l4 => f_X7_bestCell_B15 (f_X7_bestCell_R15 n) w l1 l2 l3 l4
def f_X7_bestCell (w : qW) (a1 : Int32) : Option (Int32 × qW) :=
  q_cl (f_X7_weigh w 0 11) (fun _ w2 => f_X7_bestCell_R15  q_fuel w2 a1 0 2147483647 0)
def f_X7_missesAfter_B124 (k38 : qW → Int32 → Int32 → Int32 → Int32 → Int32 → Option (Int32 × qW)) (w : qW) (l1 : Int32) (l3 : Int32) (l4 : Int32) (l5 : Int32) (l6 : Int32) : Option (Int32 × qW) :=
  q_bn (l6 + 1 : Int32) (fun v1 => k38 w l1 l3 l4 l5 v1)
def f_X7_missesAfter_B38 (k38 : qW → Int32 → Int32 → Int32 → Int32 → Int32 → Option (Int32 × qW)) (w : qW) (l1 : Int32) (l3 : Int32) (l4 : Int32) (l5 : Int32) (l6 : Int32) : Option (Int32 × qW) :=
  if ((12 : Int32) * (q_I w 1 2)) ≤ l6 then (some (l5, w)) else (q_cl (f_X7_isWanted w l6) (fun r1 w2 => if r1 = 0 then (f_X7_missesAfter_B124 k38 w2 l1 l3 l4 l5 l6) else (q_ld (q_A w2 11) 96 l6 (fun v3 => q_ld (q_A w2 12) 672 (((7 : Int32) * l6) + l1) (fun v4 => q_bn (v3 - v4 : Int32) (fun v5 => q_cl (f_X7_seatOf w2 l6) (fun r6 w7 => q_cl (f_X5_ifHe w7 l1 l3 l4 r6 (q_rem l6 12)) (fun r8 w9 => q_cl (f_X7_leastOf w9 l6) (fun r10 w11 => if r10 ≤ (v5 + r8) then (f_X7_missesAfter_B124 k38 w11 l1 l3 l4 l5 l6) else (q_bn (l5 + 1 : Int32) (fun v12 => f_X7_missesAfter_B124 k38 w11 l1 l3 l4 v12 l6)))))))))))
def f_X7_missesAfter_R38 : Nat → qW → Int32 → Int32 → Int32 → Int32 → Int32 → Option (Int32 × qW)
  | 0, _, _, _, _, _, _ => none
  | n + 1, w, l1, l3, l4, l5, l6 => f_X7_missesAfter_B38 (f_X7_missesAfter_R38 n) w l1 l3 l4 l5 l6
def f_X7_missesAfter (w : qW) (a1 : Int32) (a2 : Int32) : Option (Int32 × qW) :=
  q_cl (f_X4_get w a1 0) (fun r1 w2 => q_cl (f_X10_cellAfter w2 r1 a2) (fun r3 w4 => if 0 ≤ r3 then (q_cl (f_X4_get w4 a1 1) (fun r5 w6 => f_X7_missesAfter_R38  q_fuel w6 a1 r3 r5 0 0)) else (some (2147483647, w4))))
def f_X7_bestStep_B60 (k25 : qW → Int32 → Int32 → Int32 → Int32 → Int32 → Option (Int32 × qW)) (w : qW) (l1 : Int32) (l2 : Int32) (l3 : Int32) (l5 : Int32) (l6 : Int32) : Option (Int32 × qW) :=
  q_bn (l6 + 1 : Int32) (fun v1 => k25 w l1 l2 l3 l5 v1)
def f_X7_bestStep_B25 (k25 : qW → Int32 → Int32 → Int32 → Int32 → Int32 → Option (Int32 × qW)) (w : qW) (l1 : Int32) (l2 : Int32) (l3 : Int32) (l5 : Int32) (l6 : Int32) : Option (Int32 × qW) :=
  if l5 ≤ l6 then (some (l2, w)) else (q_ld (q_T 2) (q_Tn 2) l6 (fun v1 => q_cl (f_X7_missesAfter w l1 v1) (fun r2 w3 => if l3 ≤ r2 then (f_X7_bestStep_B60 k25 w3 l1 l2 l3 l5 l6) else (f_X7_bestStep_B60 k25 w3 l1 v1 r2 l5 l6))))
def f_X7_bestStep_R25 : Nat → qW → Int32 → Int32 → Int32 → Int32 → Int32 → Option (Int32 × qW)
  | 0, _, _, _, _, _, _ => none
  | n + 1, w, l1, l2, l3, l5, l6 => f_X7_bestStep_B25 (f_X7_bestStep_R25 n) w l1 l2 l3 l5 l6
def f_X7_bestStep (w : qW) (a1 : Int32) : Option (Int32 × qW) :=
  q_cl (f_X7_weigh w 0 11) (fun _ w2 => q_bn (Int32.ofNat (q_Tn 2) : Int32) (fun v3 => f_X7_bestStep_R25  q_fuel w2 a1 4 2147483647 v3 0))
def f_X7_countLost_B116 (k10 : qW → Int32 → Int32 → Option (Unit × qW)) (w : qW) (l1 : Int32) (l2 : Int32) : Option (Unit × qW) :=
  q_bn (l2 + 1 : Int32) (fun v1 => k10 w l1 v1)
def f_X7_countLost_B110 (k10 : qW → Int32 → Int32 → Option (Unit × qW)) (k45 : qW → Int32 → Int32 → Int32 → Int32 → Option (Unit × qW)) (w : qW) (l1 : Int32) (l2 : Int32) (l3 : Int32) (l4 : Int32) : Option (Unit × qW) :=
  q_bn (l4 + 1 : Int32) (fun v1 => k45 w l1 l2 l3 v1)
def f_X7_countLost_B45 (k10 : qW → Int32 → Int32 → Option (Unit × qW)) (k45 : qW → Int32 → Int32 → Int32 → Int32 → Option (Unit × qW)) (w : qW) (l1 : Int32) (l2 : Int32) (l3 : Int32) (l4 : Int32) : Option (Unit × qW) :=
  if l3 = 0 then (f_X7_countLost_B116 k10 w l1 l2) else (q_cl (f_X7_isWanted w l2) (fun r1 w2 => if r1 = 0 then (f_X7_countLost_B116 k10 w2 l1 l2) else (if 7 ≤ l4 then (f_X7_countLost_B116 k10 w2 l1 l2) else (q_ld (q_A w2 11) 96 l2 (fun v3 => q_ld (q_A w2 12) 672 (((7 : Int32) * l2) + l4) (fun v4 => q_cl (f_X7_leastOf w2 l2) (fun r5 w6 => if r5 ≤ (v3 - v4) then (f_X7_countLost_B110 k10 k45 w6 l1 l2 l3 l4) else (q_bn (((q_rem l2 12) * 7) + l4 : Int32) (fun v7 => q_ld (q_A w6 15) 84 v7 (fun v8 => q_st w6 15 84 v7 (v8 + 1) (fun w9 => f_X7_countLost_B110 k10 k45 w9 l1 l2 l3 l4)))))))))))
def f_X7_countLost_R45 (k10 : qW → Int32 → Int32 → Option (Unit × qW)) : Nat → qW → Int32 → Int32 → Int32 → Int32 → Option (Unit × qW)
  | 0, _, _, _, _, _ => none
  | n + 1, w, l1, l2, l3, l4 => f_X7_countLost_B45 k10 (f_X7_countLost_R45 k10 n) w l1 l2 l3 l4
def f_X7_countLost_B41 (k10 : qW → Int32 → Int32 → Option (Unit × qW)) (w : qW) (l1 : Int32) (l2 : Int32) (s0 : Int32) : Option (Unit × qW) :=
  f_X7_countLost_R45 k10  q_fuel w l1 l2 s0 0
def f_X7_countLost_B36 (k10 : qW → Int32 → Int32 → Option (Unit × qW)) (w : qW) (l1 : Int32) (l2 : Int32) : Option (Unit × qW) :=
  f_X7_countLost_B41 k10 w l1 l2 1
def f_X7_countLost_B10 (k10 : qW → Int32 → Int32 → Option (Unit × qW)) (w : qW) (l1 : Int32) (l2 : Int32) : Option (Unit × qW) :=
  if ((12 : Int32) * (q_I w 1 2)) ≤ l2 then (some ((), w)) else (if l1 < 0 then (f_X7_countLost_B36 k10 w l1 l2) else (if l1 = (l2 / 12) then (f_X7_countLost_B36 k10 w l1 l2) else (f_X7_countLost_B41 k10 w l1 l2 0)))
def f_X7_countLost_R10 : Nat → qW → Int32 → Int32 → Option (Unit × qW)
  | 0, _, _, _ => none
  | n + 1, w, l1, l2 => f_X7_countLost_B10 (f_X7_countLost_R10 n) w l1 l2
def f_X7_countLost (w : qW) (a1 : Int32) : Option (Unit × qW) :=
  q_cl (f_J7_fill_53178 84 w 15 0) (fun _ w2 => f_X7_countLost_R10  q_fuel w2 a1 0)
def f_X7_missesDrawn_B104 (k22 : qW → Int32 → Int32 → Int32 → Int32 → Int32 → Option (Int32 × qW)) (w : qW) (l2 : Int32) (l3 : Int32) (l5 : Int32) (l6 : Int32) (l7 : Int32) : Option (Int32 × qW) :=
  q_bn (l7 + 1 : Int32) (fun v1 => k22 w l2 l3 l5 l6 v1)
def f_X7_missesDrawn_B81 (k22 : qW → Int32 → Int32 → Int32 → Int32 → Int32 → Option (Int32 × qW)) (w : qW) (l2 : Int32) (l3 : Int32) (l5 : Int32) (l6 : Int32) (l7 : Int32) (s0 : Int32) : Option (Int32 × qW) :=
  q_ld (q_A w 15) 84 (((q_rem l7 12) * 7) + s0) (fun v1 => q_bn (l6 + v1 : Int32) (fun v2 => f_X7_missesDrawn_B104 k22 w l2 l3 l5 v2 l7))
def f_X7_missesDrawn_B22 (k22 : qW → Int32 → Int32 → Int32 → Int32 → Int32 → Option (Int32 × qW)) (w : qW) (l2 : Int32) (l3 : Int32) (l5 : Int32) (l6 : Int32) (l7 : Int32) : Option (Int32 × qW) :=
  if (l2 * 12) ≤ l7 then (some (l6, w)) else (q_bn ((l5 * 1103515245) + 12345 : Int32) (fun v1 => if (q_rem (q_ush v1 8) 12) < l3 then (f_X7_missesDrawn_B104 k22 w l2 l3 v1 l6 l7) else (if (q_I w 1 1) = 0 then (f_X7_missesDrawn_B81 k22 w l2 l3 v1 l6 l7 0) else (q_nz (q_I w 1 1) (f_X7_missesDrawn_B81 k22 w l2 l3 v1 l6 l7 (q_rem (q_ush v1 16) (q_I w 1 1)))))))
def f_X7_missesDrawn_R22 : Nat → qW → Int32 → Int32 → Int32 → Int32 → Int32 → Option (Int32 × qW)
  | 0, _, _, _, _, _, _ => none
  | n + 1, w, l2, l3, l5, l6, l7 => f_X7_missesDrawn_B22 (f_X7_missesDrawn_R22 n) w l2 l3 l5 l6 l7
def f_X7_missesDrawn (w : qW) (a1 : Int32) (a2 : Int32) (a3 : Int32) (a4 : Int32) : Option (Int32 × qW) :=
  q_cl (f_X7_weigh w 0 11) (fun _ w2 => q_cl (f_X7_countLost w2 a4) (fun _ w4 => f_X7_missesDrawn_R22  q_fuel w4 a2 a3 a1 0 0))
def f_X10_man (w : qW) (a1 : Int32) (a2 : Int32) : Option (Int32 × qW) :=
  q_cl (f_X4_fits w 0 a1) (fun r1 w2 => if r1 = 0 then (some ((-1), w2)) else (q_cl (f_X4_fits w2 1 a2) (fun r3 w4 => if r3 = 0 then (some ((-1), w4)) else (q_cl (f_X4_addMan w4 a1 a2) (fun r5 w6 => some (r5, w6))))))
def f_X10_sitter (w : qW) (a1 : Int32) (a2 : Int32) : Option (Int32 × qW) :=
  q_cl (f_X4_fits w 4 a1) (fun r1 w2 => if r1 = 0 then (some ((-1), w2)) else (q_cl (f_X4_fits w2 5 a2) (fun r3 w4 => if r3 = 0 then (some ((-1), w4)) else (q_cl (f_X4_addSitter w4 a1 a2 6) (fun r5 w6 => some (r5, w6))))))
def f_X10_isShelf (w : qW) (a1 : Int32) : Option (Int32 × qW) :=
  if a1 < 0 then (some (0 &&& 1, w)) else (if 6 ≤ a1 then (some (0 &&& 1, w)) else (some (1 &&& 1, w)))
def f_X10_sitterFrom (w : qW) (id1 : Nat) (a2 : Int64) : Option (Int32 × qW) :=
  if (lg_cmp a2 0) < 0 then (some (0 &&& 1, w)) else (q_cl (f_X6_size w id1) (fun r1 w2 => if (lg_cmp (a2 + 2) (Int32.toInt64 r1)) < 0 then (q_bn (Int64.toInt32 a2 : Int32) (fun v3 => q_cl (f_X6_get w2 id1 v3) (fun r4 w5 => q_bn (Int64.toInt32 r4 : Int32) (fun v6 => q_cl (f_X6_get w5 id1 (v3 + 1)) (fun r7 w8 => q_bn (Int64.toInt32 r7 : Int32) (fun v9 => q_cl (f_X6_get w8 id1 (v3 + 2)) (fun r10 w11 => q_bn (Int64.toInt32 r10 : Int32) (fun v12 => q_cl (f_X4_fits w11 4 v6) (fun r13 w14 => if r13 = 0 then (some (0 &&& 1, w14)) else (q_cl (f_X4_fits w14 5 v9) (fun r15 w16 => if r15 = 0 then (some (0 &&& 1, w16)) else (q_cl (f_X4_fits w16 6 v12) (fun r17 w18 => if r17 = 0 then (some (0 &&& 1, w18)) else (q_cl (f_X4_addSitter w18 v6 v9 v12) (fun r19 w20 => if r19 < 0 then (some (0 &&& 1, w20)) else (some (1 &&& 1, w20))))))))))))))))) else (some (0 &&& 1, w2))))
def f_X10_sitters_B53 (k53 : qW → Int32 → Int32 → Nat → Int32 → Option (Int32 × qW)) (w : qW) (l2 : Int32) (l3 : Int32) (i4 : Nat) (l5 : Int32) : Option (Int32 × qW) :=
  if l3 ≤ l5 then (some (l5, w)) else (q_cl (f_X10_sitterFrom w i4 ((Int32.toInt64 l2) + ((3 : Int64) * (Int32.toInt64 l5)))) (fun r1 w2 => if r1 = 0 then (some (l5, w2)) else (q_bn (l5 + 1 : Int32) (fun v3 => k53 w2 l2 l3 i4 v3))))
def f_X10_sitters_R53 : Nat → qW → Int32 → Int32 → Nat → Int32 → Option (Int32 × qW)
  | 0, _, _, _, _, _ => none
  | n + 1, w, l2, l3, i4, l5 => f_X10_sitters_B53 (f_X10_sitters_R53 n) w l2 l3 i4 l5
def f_X10_sitters (w : qW) (a1 : Int32) (a2 : Int32) (a3 : Int32) : Option (Int32 × qW) :=
  q_cl (f_X10_isShelf w a1) (fun r1 w2 => if r1 = 0 then (some ((-1), w2)) else (if a3 < 1 then (some ((-1), w2)) else (if a3 ≤ 8 then (q_al a1 (fun id3 => q_cl (f_X6_isEmpty w2 id3) (fun r5 w6 => if r5 = 0 then (q_cl (f_X6_isRowOf w6 id3 1) (fun r7 w8 => if r7 = 0 then (some ((-12), w8)) else (f_X10_sitters_R53  q_fuel w8 a2 a3 id3 0))) else (some (0, w6))))) else (some ((-1), w2)))))
def f_X10_mend (w : qW) (a1 : Int32) (a2 : Int32) (a3 : Int32) : Option (Int32 × qW) :=
  q_cl (f_X4_has w a1 a2) (fun r1 w2 => if r1 = 0 then (some ((-1), w2)) else (q_cl (f_X4_fits w2 a2 a3) (fun r3 w4 => if r3 = 0 then (some ((-1), w4)) else (q_cl (f_X4_get w4 a1 a2) (fun r5 w6 => if r5 = a3 then (some (r5, w6)) else (q_cl (f_X1_add w6 a1 a2 a3) (fun _ w8 => some (r5, w8))))))))
def f_X10_of (w : qW) (a1 : Int32) (a2 : Int32) : Option (Int32 × qW) :=
  q_cl (f_X4_has w a1 a2) (fun r1 w2 => if r1 = 0 then (some ((-1), w2)) else (q_cl (f_X4_get w2 a1 a2) (fun r3 w4 => some (r3, w4))))
def f_X10_feed (w : qW) (a1 : Int32) : Option (Int32 × qW) :=
  if a1 < 0 then (some ((-1), w)) else (if a1 ≤ 255 then (q_cl (f_X3_take w a1) (fun r1 w2 => some (r1, w2))) else (some ((-1), w)))
def f_X10_law (w : qW) : Option (Int32 × qW) :=
  q_cl (f_X3_learn w ) (fun r1 w2 => if 0 ≤ r1 then (some (((-100) : Int32) - r1, w2)) else (some (1, w2)))
def f_X10_shade (w : qW) (a1 : Int32) (a2 : Int32) : Option (Int32 × qW) :=
  q_bn (a1 / 100 : Int32) (fun v1 => q_bn (q_rem a1 100 : Int32) (fun v2 => if a1 < 0 then (some ((-1), w)) else (if 144 ≤ v1 then (some ((-1), w)) else (if 12 ≤ v2 then (some ((-1), w)) else (if a2 < (-1) then (some ((-1), w)) else (if a2 < (q_I w 1 1) then (if 0 ≤ a2 then (q_cl (f_X5_byMan w a2 v1 v2) (fun r3 w4 => some (r3, w4))) else (q_cl (f_X5_byAll w v1 v2) (fun r5 w6 => q_bn (if r5 < 12 then r5 else 12 : Int32) (fun v7 => some (v7, w6))))) else (some ((-1), w))))))))
def f_X10_isChoice (w : qW) (a1 : Int32) (a2 : Int32) : Option (Int32 × qW) :=
  if a1 < 0 then (some (0 &&& 1, w)) else (if a2 ≤ a1 then (some (0 &&& 1, w)) else (some (1 &&& 1, w)))
def f_X10_walk (w : qW) (a1 : Int32) (a2 : Int32) : Option (Int32 × qW) :=
  q_cl (f_X10_isHour w a1) (fun r1 w2 => if r1 = 0 then (some ((-1), w2)) else (q_cl (f_X10_isChoice w2 a2 2) (fun r3 w4 => if r3 = 0 then (some ((-1), w4)) else (if a2 = 0 then (q_cl (f_X7_shadyCells w4 a1) (fun r7 w8 => some (r7, w8))) else (q_cl (f_X7_darkest w4 a1) (fun r5 w6 => some (r5, w6)))))))
def f_X10_served (w : qW) (a1 : Int32) (a2 : Int32) : Option (Int32 × qW) :=
  q_cl (f_X4_has w a1 4) (fun r1 w2 => if r1 = 0 then (some ((-1), w2)) else (q_cl (f_X10_isChoice w2 a2 2) (fun r3 w4 => if r3 = 0 then (some ((-1), w4)) else (if a2 = 0 then (q_cl (f_X7_hoursOf w4 a1) (fun r7 w8 => some (r7, w8))) else (q_cl (f_X7_missesOf w4 a1) (fun r5 w6 => some (r5, w6)))))))
def f_X10_at_B18 (w : qW) (l1 : Int32) (l2 : Int32) : Option (Int32 × qW) :=
  q_cl (f_X10_isHour w l1) (fun r1 w2 => if r1 = 0 then (some ((-1), w2)) else (q_cl (f_X10_isChoice w2 l2 2) (fun r3 w4 => if r3 = 0 then (some ((-1), w4)) else (if l2 = 0 then (q_cl (f_X7_servedAt w4 l1) (fun r7 w8 => some (r7, w8))) else (q_cl (f_X7_missingAt w4 l1) (fun r5 w6 => some (r5, w6)))))))
def f_X10_at (w : qW) (a1 : Int32) (a2 : Int32) : Option (Int32 × qW) :=
  if a1 = 12 then (if a2 = 0 then (q_cl (f_X7_missesOfAll w ) (fun r1 w2 => some (r1, w2))) else (f_X10_at_B18 w a1 a2)) else (f_X10_at_B18 w a1 a2)
def f_X10_enough (w : qW) (a1 : Int32) : Option (Int32 × qW) :=
  if a1 = 0 then (q_cl (f_X7_fewest w ) (fun r1 w2 => q_cl (f_J6_bitCount_0f7a4 w2 r1) (fun r3 w4 => some (r3, w4)))) else (if a1 = 1 then (q_cl (f_X7_fewest w ) (fun r6 w7 => some (r6, w7))) else (if a1 = 2 then (q_cl (f_X7_cheapest w ) (fun r9 w10 => some (r9, w10))) else (if a1 = 3 then (q_cl (f_X7_cheapest w ) (fun r12 w13 => q_cl (f_X4_payOf w13 r12) (fun r14 w15 => some (r14, w15)))) else (if a1 = 4 then (q_cl (f_X7_needed w ) (fun r17 w18 => some (r17, w18))) else (some ((-1), w))))))
def f_X10_roster (w : qW) (a1 : Int32) : Option (Int32 × qW) :=
  if a1 = 12 then (q_cl (f_X7_payOfRosters w ) (fun r5 w6 => some (r5, w6))) else (q_cl (f_X10_isHour w a1) (fun r1 w2 => if r1 = 0 then (some ((-1), w2)) else (q_cl (f_X7_rosterAt w2 a1) (fun r3 w4 => some (r3, w4)))))
def f_X10_oneMore (w : qW) (a1 : Int32) (a2 : Int32) : Option (Int32 × qW) :=
  q_cl (f_X4_fits w 1 a1) (fun r1 w2 => if r1 = 0 then (some ((-1), w2)) else (q_cl (f_X10_isChoice w2 a2 2) (fun r3 w4 => if r3 = 0 then (some ((-1), w4)) else (q_cl (f_X7_bestCell w4 a1) (fun r5 w6 => if a2 = 0 then (some (r5, w6)) else (q_cl (f_X7_missesBeside w6 a1 r5) (fun r7 w8 => some (r7, w8))))))))
def f_X10_step (w : qW) (a1 : Int32) (a2 : Int32) : Option (Int32 × qW) :=
  q_cl (f_X4_has w a1 0) (fun r1 w2 => if r1 = 0 then (some ((-1), w2)) else (q_cl (f_X10_isChoice w2 a2 2) (fun r3 w4 => if r3 = 0 then (some ((-1), w4)) else (q_cl (f_X7_bestStep w4 a1) (fun r5 w6 => if a2 = 0 then (some (r5, w6)) else (q_cl (f_X7_missesAfter w6 a1 r5) (fun r7 w8 => some (r7, w8))))))))
def f_X10_judge (w : qW) (a1 : Int32) (a2 : Int32) : Option (Int32 × qW) :=
  q_cl (f_X10_isShelf w a1) (fun r1 w2 => if r1 = 0 then (some ((-1), w2)) else (q_cl (f_X10_isHour w2 a2) (fun r3 w4 => if r3 = 0 then (some ((-1), w4)) else (q_al a1 (fun id5 => q_cl (f_X6_refusalAs w4 id5 0) (fun r7 w8 => if r7 = 0 then (q_al a1 (fun id9 => q_cl (f_X0_open w8 id9) (fun _ w12 => q_cl (f_X0_firstWrong w12 a2) (fun r13 w14 => some (r13, w14))))) else (some (r7, w8))))))))
def f_X10_stood (w : qW) (a1 : Int32) (a2 : Int32) (a3 : Int32) : Option (Int32 × qW) :=
  q_bn (a2 / 100 : Int32) (fun v1 => q_bn (q_rem a2 100 : Int32) (fun v2 => q_cl (f_X10_isShelf w a1) (fun r3 w4 => if r3 = 0 then (some ((-1), w4)) else (if a2 < 0 then (some ((-1), w4)) else (if (q_I w4 1 1) ≤ v1 then (some ((-1), w4)) else (q_cl (f_X10_isHour w4 v2) (fun r5 w6 => if r5 = 0 then (some ((-1), w6)) else (q_cl (f_X10_isChoice w6 a3 3) (fun r7 w8 => if r7 = 0 then (some ((-1), w8)) else (q_al a1 (fun id9 => q_cl (f_X6_refusalAs w8 id9 0) (fun r11 w12 => if r11 = 0 then (q_al a1 (fun id13 => q_cl (f_X0_open w12 id13) (fun _ w16 => q_cl (f_X0_leaveOut w16 v1 v2) (fun _ w18 => if a3 = 0 then (q_cl (f_X0_cellsThatFit w18 ) (fun r19 w20 => some (r19, w20))) else (if a3 = 1 then (q_cl (f_X0_leastCellThatFits w18 ) (fun r22 w23 => some (r22, w23))) else (q_cl (f_X0_kindsThatFit w18 ) (fun r25 w26 => some (r25, w26)))))))) else (some (r11, w12))))))))))))))
def f_X10_who (w : qW) (a1 : Int32) (a2 : Int32) (a3 : Int32) : Option (Int32 × qW) :=
  q_cl (f_X10_isShelf w a1) (fun r1 w2 => if r1 = 0 then (some ((-1), w2)) else (q_cl (f_X10_isHour w2 a2) (fun r3 w4 => if r3 = 0 then (some ((-1), w4)) else (q_cl (f_X10_isChoice w4 a3 3) (fun r5 w6 => if r5 = 0 then (some ((-1), w6)) else (q_al a1 (fun id7 => q_cl (f_X6_refusalAs w6 id7 0) (fun r9 w10 => if r9 = 0 then (q_al a1 (fun id11 => q_cl (f_X0_open w10 id11) (fun _ w14 => q_cl (f_X0_weighMen w14 a2) (fun _ w16 => if a3 = 0 then (q_cl (f_X0_setsThatFit w16 ) (fun r17 w18 => some (r17, w18))) else (if a3 = 1 then (q_cl (f_X0_leastSetThatFits w16 ) (fun r20 w21 => some (r20, w21))) else (q_cl (f_X0_certain w16 ) (fun r23 w24 => some (r23, w24)))))))) else (some (r9, w10))))))))))
def f_X10_wish_B53 (w : qW) (s0 : Int32) (j1 : Nat) : Option (Int32 × qW) :=
  q_cl (f_X0_wishOf w j1 s0) (fun r1 w2 => some (r1, w2))
def f_X10_wish (w : qW) (a1 : Int32) (a2 : Int32) : Option (Int32 × qW) :=
  q_cl (f_X10_isShelf w a1) (fun r1 w2 => if r1 = 0 then (some ((-1), w2)) else (q_cl (f_X10_isChoice w2 a2 2) (fun r3 w4 => if r3 = 0 then (some ((-1), w4)) else (q_al a1 (fun id5 => q_cl (f_X6_refusalAs w4 id5 1) (fun r7 w8 => if r7 = 0 then (q_al a1 (fun id9 => if a2 = 0 then (f_X10_wish_B53 w8 1 id9) else (f_X10_wish_B53 w8 0 id9))) else (some (r7, w8))))))))
def f_X10_share (w : qW) (a1 : Int32) (a2 : Int32) : Option (Int32 × qW) :=
  q_bn (a1 / 100 : Int32) (fun v1 => q_bn (q_rem a1 100 : Int32) (fun v2 => if a1 < 0 then (some ((-1), w)) else (if (q_I w 1 1) ≤ v1 then (some ((-1), w)) else (q_cl (f_X10_isHour w v2) (fun r3 w4 => if r3 = 0 then (some ((-1), w4)) else (if a2 < 0 then (some ((-1), w4)) else (if a2 ≤ 9999 then (q_cl (f_X7_shareOf w4 v1 v2 a2) (fun r5 w6 => some (r5, w6))) else (some ((-1), w4)))))))))
def f_X10_late (w : qW) (a1 : Int32) (a2 : Int32) : Option (Int32 × qW) :=
  q_cl (f_X4_has w a1 4) (fun r1 w2 => if r1 = 0 then (some ((-1), w2)) else (q_cl (f_X10_isHour w2 a2) (fun r3 w4 => if r3 = 0 then (some ((-1), w4)) else (q_cl (f_X7_lastServed w4 a1 a2) (fun r5 w6 => some (r5, w6))))))
def f_X10_byTurns (w : qW) (a1 : Int32) (a2 : Int32) (a3 : Int32) : Option (Int32 × qW) :=
  q_bn (a1 / 10 : Int32) (fun v1 => q_bn (q_rem a1 10 : Int32) (fun v2 => q_bn (a2 / 10 : Int32) (fun v3 => q_bn (q_rem a2 10 : Int32) (fun v4 => if a1 < 0 then (some ((-1), w)) else (if (q_I w 1 1) ≤ v1 then (some ((-1), w)) else (if (q_I w 1 2) ≤ v2 then (some ((-1), w)) else (q_cl (f_X10_isChoice w a3 2) (fun r5 w6 => if r5 = 0 then (some ((-1), w6)) else (if a2 < 0 then (some ((-1), w6)) else (if 12 ≤ v3 then (some ((-1), w6)) else (if v4 < 1 then (some ((-1), w6)) else (if v4 ≤ 4 then (q_cl (f_X9_winningStep w6 v1 v2 v3 v4) (fun r7 w8 => if a3 = 0 then (if 0 ≤ r7 then (some (1, w8)) else (some (0, w8))) else (if 0 ≤ r7 then (some (r7, w8)) else (some (4, w8))))) else (some ((-1), w6))))))))))))))
def f_X10_drawn (w : qW) (a1 : Int32) (a2 : Int32) (a3 : Int32) : Option (Int32 × qW) :=
  q_bn (a2 / 100 : Int32) (fun v1 => q_bn (q_rem a2 100 : Int32) (fun v2 => if a2 < 0 then (some ((-1), w)) else (if v1 < 1 then (some ((-1), w)) else (if 30 < v1 then (some ((-1), w)) else (if 12 < v2 then (some ((-1), w)) else (if a3 < (-1) then (some ((-1), w)) else (if a3 < (q_I w 1 2) then (q_cl (f_X7_missesDrawn w a1 v1 v2 a3) (fun r3 w4 => some (r3, w4))) else (some ((-1), w)))))))))
def f_X10_passes (w : qW) : Option (Int32 × qW) :=
  q_cl (f_X2_hour w ) (fun r1 w2 => q_cl (f_X7_missingAt w2 r1) (fun r3 w4 => q_cl (f_J6_bitCount_0f7a4 w4 r3) (fun r5 w6 => q_cl (f_X2_hourPasses w6 r5) (fun _ w8 => some (r5, w8)))))
def f_X10_steps (w : qW) (a1 : Int32) (a2 : Int32) : Option (Int32 × qW) :=
  q_cl (f_X4_has w a1 0) (fun r1 w2 => if r1 = 0 then (some ((-1), w2)) else (q_cl (f_X10_isChoice w2 a2 4) (fun r3 w4 => if r3 = 0 then (some ((-1), w4)) else (q_cl (f_X2_manSteps w4 a1 a2) (fun r5 w6 => some (r5, w6))))))
def f_X10_bird (w : qW) (a1 : Int32) : Option (Int32 × qW) :=
  q_cl (f_X4_has w a1 0) (fun r1 w2 => if r1 = 0 then (some ((-1), w2)) else (q_cl (f_X2_birdGetsIn w2 a1) (fun r3 w4 => some (r3, w4))))
def f_X10_goes (w : qW) (a1 : Int32) (a2 : Int32) : Option (Int32 × qW) :=
  q_cl (f_X4_has w a1 4) (fun r1 w2 => if r1 = 0 then (some ((-1), w2)) else (q_cl (f_X4_fits w2 4 a2) (fun r3 w4 => if r3 = 0 then (some ((-1), w4)) else (q_cl (f_X4_get w4 a1 4) (fun r5 w6 => q_cl (f_X4_set w6 a1 4 a2) (fun _ w8 => some (r5, w8)))))))
def f_X10_led (w : qW) (a1 : Int32) : Option (Int32 × qW) :=
  q_cl (f_X10_isChoice w a1 6) (fun r1 w2 => if r1 = 0 then (some ((-1), w2)) else (q_cl (f_X2_told w2 a1) (fun r3 w4 => some (r3, w4))))
def f_X10_image (w : qW) : Option (Int32 × qW) :=
  q_cl (f_X2_keepImage w ) (fun r1 w2 => some (r1, w2))
def f_X10_back (w : qW) : Option (Int32 × qW) :=
  q_cl (f_X2_layBack w ) (fun r1 w2 => some (r1, w2))
def f_X10_undo (w : qW) : Option (Int32 × qW) :=
  q_cl (f_X1_takeBack w ) (fun r1 w2 => some (r1, w2))
def f_X10_redo (w : qW) : Option (Int32 × qW) :=
  q_cl (f_X1_doAgain w ) (fun r1 w2 => some (r1, w2))
def f_X10_body (w : qW) (a1 : Int32) : Option (Int32 × qW) :=
  q_cl (f_X10_isChoice w a1 8) (fun r1 w2 => if r1 = 0 then (some ((-1), w2)) else (q_cl (f_X8_plant w2 a1) (fun r3 w4 => some (r3, w4))))
def f_X10_act (w : qW) (a1 : Int32) (a2 : Int32) (a3 : Int32) : Option (Int32 × qW) :=
  q_cl (f_X8_perform w a1 a2 a3) (fun r1 w2 => some (r1, w2))
def f_X10_trace (w : qW) (a1 : Int32) : Option (Int32 × qW) :=
  q_cl (f_X8_traced w a1) (fun r1 w2 => some (r1, w2))
def f_X10_keep (w : qW) (a1 : Int32) (a2 : Int32) : Option (Int32 × qW) :=
  q_cl (f_X10_isShelf w a1) (fun r1 w2 => if r1 = 0 then (some ((-1), w2)) else (if a2 < (-1) then (some ((-1), w2)) else (if a2 < (q_I w2 32 1) then (q_al a1 (fun id3 => q_cl (f_X6_holdTree w2 id3 a2) (fun _ w6 => some (1, w6)))) else (some ((-1), w2)))))
def f_X10_row (w : qW) (a1 : Int32) (a2 : Int32) (a3 : Int32) : Option (Int32 × qW) :=
  q_cl (f_X10_isShelf w a1) (fun r1 w2 => if r1 = 0 then (some ((-1), w2)) else (q_cl (f_X10_isChoice w2 a2 5) (fun r3 w4 => if r3 = 0 then (some ((-1), w4)) else (if a3 ≤ 60 then (if 0 ≤ a3 then (q_al a1 (fun id5 => q_cl (f_X6_holdRow w4 id5 a2 a3) (fun _ w8 => some (1, w8)))) else (some ((-14), w4))) else (some ((-1), w4))))))
def f_X10_put (w : qW) (a1 : Int32) (a2 : Int32) (a3 : Int64) : Option (Int32 × qW) :=
  q_cl (f_X10_isShelf w a1) (fun r1 w2 => if r1 = 0 then (some ((-1), w2)) else (q_al a1 (fun id3 => q_cl (f_X6_refusalAt w2 id3 a2) (fun r5 w6 => if r5 = 0 then (q_al a1 (fun id7 => q_cl (f_X6_set w6 id7 a2 a3) (fun _ w10 => some (1, w10)))) else (some (r5, w6))))))
def f_X10_element (w : qW) (a1 : Int32) (a2 : Int32) : Option (Int64 × qW) :=
  q_cl (f_X10_isShelf w a1) (fun r1 w2 => if r1 = 0 then (some ((-9223372036854775808), w2)) else (q_al a1 (fun id3 => q_cl (f_X6_refusalAt w2 id3 a2) (fun r5 w6 => if r5 = 0 then (q_al a1 (fun id7 => q_cl (f_X6_get w6 id7 a2) (fun r9 w10 => some (r9, w10)))) else (some ((-9223372036854775808), w6))))))
def f_X10_shift (w : qW) (a1 : Int32) (a2 : Int32) (a3 : Int32) (a4 : Int32) (a5 : Int32) : Option (Int32 × qW) :=
  q_cl (f_X10_isShelf w a1) (fun r1 w2 => if r1 = 0 then (some ((-1), w2)) else (q_cl (f_X10_isShelf w2 a3) (fun r3 w4 => if r3 = 0 then (some ((-1), w4)) else (q_al a1 (fun id5 => q_al a3 (fun id7 => q_cl (f_X6_copyTo w4 id5 a2 id7 a4 a5) (fun r9 w10 => some (r9, w10))))))))
def f_X10_taken (w : qW) (a1 : Int32) (a2 : Int32) : Option (Int32 × qW) :=
  q_cl (f_X10_isShelf w a1) (fun r1 w2 => if r1 = 0 then (some ((-1), w2)) else (q_cl (f_X10_isChoice w2 a2 8) (fun r3 w4 => if r3 = 0 then (some ((-1), w4)) else (q_al a1 (fun id5 => q_cl (f_X6_isEmpty w4 id5) (fun r7 w8 => if r7 = 0 then (q_cl (f_X6_tree w8 id5) (fun r9 w10 => q_cl (f_X8_kindOf w10 r9) (fun r11 w12 => q_cl (f_X8_isUnder w12 r11 a2) (fun r13 w14 => if r13 = 0 then (some ((-12), w14)) else (some (r11, w14)))))) else (some ((-11), w8))))))))
def f_X10_count (w : qW) (a1 : Int32) : Option (Int32 × qW) :=
  if a1 = 0 then (some (q_I w 1 1, w)) else (if a1 = 1 then (some (q_I w 1 2, w)) else (if a1 = 2 then (some (q_I w 3 1, w)) else (if a1 = 3 then (some (q_I w 24 2, w)) else (if a1 = 4 then (some (q_I w 32 1, w)) else (if a1 = 5 then (some (q_I w 32 3, w)) else (some ((-1), w)))))))
