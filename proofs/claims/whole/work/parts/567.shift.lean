def filG (F A : Nat → Int64) (i n : Nat) (j : Nat) : Int64 := if i ≤ j ∧ j < n then F j else A j
theorem filG_stop {F A : Nat → Int64} {i n : Nat} (h : n ≤ i) : filG F A i n = A := by
  funext j
  unfold filG
  rw [if_neg (by omega)]
theorem filG_step {F A : Nat → Int64} {i n : Nat} {v : Int64} (h : i < n) (hv : v = F i) : filG F (vp_updL A i v) (i + 1) n = filG F A i n := by
  subst hv
  funext j
  unfold filG vp_updL
  by_cases h1 : j = i
  · subst h1; rw [if_neg (by omega), if_pos rfl, if_pos (by omega)]
  · by_cases h2 : i + 1 ≤ j ∧ j < n
    · rw [if_pos h2, if_pos (by omega)]
    · rw [if_neg h2, if_neg h1, if_neg (by omega)]
theorem p_shiftB {e j0 n : Nat} {b j : Int32} (he : e < 6) (hb : b.toInt = (e : Int)) (hj : j.toInt = (j0 : Int)) (hn : j0 + n ≤ 60) : ∀ (k fuel t : Nat) (w : qW), t + k = n → k < fuel → f_X11_shift_R150 fuel w b j (nI n) (nI t) = some (nI n, q_sG w 65 (filG (fun p => q_G w 66 (p - (60 * e + j0))) (q_G w 65) (60 * e + j0 + t) (60 * e + j0 + n)))
  | 0, fuel + 1, t, w, h1, h2 => by
    show f_X11_shift_B150 _ w b j (nI n) (nI t) = _
    unfold f_X11_shift_B150
    rw [if_pos (nI_le (by omega) (by omega)), filG_stop (by omega), sG_self]
  | k + 1, fuel + 1, t, w, h1, h2 => by
    show f_X11_shift_B150 (f_X11_shift_R150 fuel) w b j (nI n) (nI t) = _
    unfold f_X11_shift_B150
    have t0 : (nI t).toInt = (t : Int) := nI_toInt (by omega)
    have b1 : ((60 : Int32) * b + j).toInt = 60 * (e : Int) + j0 := by rw [t60 (by omega) (by omega), hb, hj]
    have b2 : ((60 : Int32) * b + j + nI t).toInt = ((60 * e + j0 + t : Nat) : Int) := by rw [t_add _ _ (by rw [b1, t0]; omega) (by rw [b1, t0]; omega), b1, t0]; omega
    rw [if_neg (nI_ge (by omega) (by omega)), z_ld _ _ _ _ (by rw [t0]; omega), z_stl _ _ _ _ _ _ (by rw [b2]; omega), z_bn, nI_1, t0, b2]
    rw [p_shiftB he hb hj hn k fuel (t + 1) _ (by omega) (by omega), sG_two]
    have f1 := filG_step (F := fun p => q_G w 66 (p - (60 * e + j0))) (A := q_G w 65) (i := 60 * e + j0 + t) (n := 60 * e + j0 + n) (v := q_G w 66 t) (by omega) (by show _ = q_G w 66 (60 * e + j0 + t - (60 * e + j0)); congr 1; omega)
    rw [← f1]
    rfl
  | _, 0, _, _, _, h => by omega
theorem p_shiftA {d i0 n : Nat} {a i b j : Int32} (hd : d < 6) (ha : a.toInt = (d : Int)) (hi : i.toInt = (i0 : Int)) (hn : i0 + n ≤ 60) : ∀ (k fuel t : Nat) (w : qW), t + k = n → k < fuel → f_X11_shift_R113 fuel w a i b j (nI n) (nI t) = f_X11_shift_R150 q_fuel (q_sG w 66 (filG (fun p => q_G w 65 (60 * d + i0 + p)) (q_G w 66) t n)) b j (nI n) 0
  | 0, fuel + 1, t, w, h1, h2 => by
    show f_X11_shift_B113 _ w a i b j (nI n) (nI t) = _
    unfold f_X11_shift_B113
    rw [if_pos (nI_le (by omega) (by omega)), filG_stop (by omega), sG_self]
  | k + 1, fuel + 1, t, w, h1, h2 => by
    show f_X11_shift_B113 (f_X11_shift_R113 fuel) w a i b j (nI n) (nI t) = _
    unfold f_X11_shift_B113
    have t0 : (nI t).toInt = (t : Int) := nI_toInt (by omega)
    have b1 : ((60 : Int32) * a + i).toInt = 60 * (d : Int) + i0 := by rw [t60 (by omega) (by omega), ha, hi]
    have b2 : ((60 : Int32) * a + i + nI t).toInt = ((60 * d + i0 + t : Nat) : Int) := by rw [t_add _ _ (by rw [b1, t0]; omega) (by rw [b1, t0]; omega), b1, t0]; omega
    rw [if_neg (nI_ge (by omega) (by omega)), z_ld _ _ _ _ (by rw [b2]; omega), z_stl _ _ _ _ _ _ (by rw [t0]; omega), z_bn, nI_1, t0, b2]
    rw [p_shiftA hd ha hi hn k fuel (t + 1) _ (by omega) (by omega), sG_two]
    have f1 := filG_step (F := fun p => q_G w 65 (60 * d + i0 + p)) (A := q_G w 66) (i := t) (n := n) (v := q_G w 65 (60 * d + i0 + t)) (by omega) rfl
    rw [← f1]
    rfl
  | _, 0, _, _, _, h => by omega
theorem p_shift : j_shift := by
  intro a i b j n w hJ
  show ∃ r w1 w2, f_X10_shift w a i b j n = some (r, w1) ∧ f_X11_shift w1 a i b j n = some (r, w2) ∧ Jn w2
  have hS : jS w := hJ.2.2.2.2.1
  have hpl : (q_I w 32 1).toInt ≤ 50 := hJ.2.2.2.1.1.2
  by_cases ha : 0 ≤ a.toInt ∧ a.toInt < 6
  · by_cases hb : 0 ≤ b.toInt ∧ b.toInt < 6
    · obtain ⟨d, hde⟩ : ∃ d : Nat, d = a.toInt.toNat := ⟨_, rfl⟩
      obtain ⟨e, hee⟩ : ∃ e : Nat, e = b.toInt.toNat := ⟨_, rfl⟩
      have hd6 : d < 6 := by omega
      have he6 : e < 6 := by omega
      have hd := jS_at hS d hd6
      have he := jS_at hS e he6
      have cst : f_X10_shift w a i b j n = f_X6_copyTo w (36 + 2 * d) i (36 + 2 * e) j n := by
        unfold f_X10_shift
        rw [p_isShelf, z_cl, decide_eq_true ha.1, decide_eq_true ha.2, Bool.and_self, b2i_t, if_neg n1_0, p_isShelf, z_cl, decide_eq_true hb.1, decide_eq_true hb.2, Bool.and_self, b2i_t, if_neg n1_0, s_al _ _ ha, s_al _ _ hb, ← hde, ← hee]
        cases f_X6_copyTo w (36 + 2 * d) i (36 + 2 * e) j n with
        | none => rfl
        | some v => rfl
      have mst : ∀ w1 : qW, q_A w1 63 = q_A w 63 → q_A w1 64 = q_A w 64 → f_X11_shift w1 a i b j n = (if q_A w 63 d < 0 then (some ((-11), w1)) else (if 0 ≤ q_A w 63 e then (if q_A w 63 d < 50 then (some ((-12), w1)) else (if q_A w 63 d = q_A w 63 e then (if n < 0 then (some ((-13), w1)) else (if i < 0 then (some ((-13), w1)) else (if j < 0 then (some ((-13), w1)) else (if (q_A w 64 d - n) < i then (some ((-13), w1)) else (if j ≤ (q_A w 64 e - n) then (f_X11_shift_R113 q_fuel w1 a i b j n 0) else (some ((-13), w1))))))) else (some ((-12), w1)))) else (some ((-11), w1)))) := by
        intro w1 a63 a64
        unfold f_X11_shift
        rw [p_mshelf, z_cl, decide_eq_true ha.1, decide_eq_true ha.2, Bool.and_self, b2i_t, if_neg n1_0, p_mshelf, z_cl, decide_eq_true hb.1, decide_eq_true hb.2, Bool.and_self, b2i_t, if_neg n1_0]
        simp only [z_ld _ _ _ _ ha, z_ld _ _ _ _ hb, a63, a64, ← hde, ← hee]
      -- what both say when nothing is moved
      have say : ∀ r : Int32, f_X6_copyTo w (36 + 2 * d) i (36 + 2 * e) j n = some (r, w) → f_X11_shift w a i b j n = some (r, w) → ∃ r w1 w2, f_X10_shift w a i b j n = some (r, w1) ∧ f_X11_shift w1 a i b j n = some (r, w2) ∧ Jn w2 := fun r h1 h2 => ⟨r, w, w, cst.trans h1, h2, hJ⟩
      have emp : ∀ (x : Nat), jSd w x → f_X6_isEmpty w (36 + 2 * x) = some (if (q_A w 63 x).toInt < 0 then 1 else 0, w) := by
        intro x hx
        rw [p_empty]
        rcases hx.1 with ⟨k1, k2, k3, k4⟩ | ⟨k1, k2, k3, k4, k5⟩ | ⟨k1, k2, k3, k4, k5, k6⟩
        · rw [k1, k2, k3, if_pos (by decide)]; rfl
        · have hn1 : ¬ (q_I w (36 + 2 * x) 0 = -1) := by rw [z_eq, cm1]; omega
          rw [decide_eq_false hn1, Bool.false_and, b2i_f, k4, if_neg (by omega)]
        · have hn1 : ¬ (q_I w (36 + 2 * x) 1 = -1) := by rw [z_eq, cm1]; omega
          have t := t50 ⟨k2, k3⟩
          rw [decide_eq_false hn1, Bool.and_false, b2i_f, k4, if_neg (by omega)]
      by_cases hd0 : (q_A w 63 d).toInt < 0
      · refine say (-11) ?_ ?_
        · unfold f_X6_copyTo
          rw [emp d hd, z_cl, if_pos hd0, if_neg n1_0]
        · rw [mst w rfl rfl, if_pos (by rw [z_lt, c0]; exact hd0)]
      by_cases he0 : (q_A w 63 e).toInt < 0
      · refine say (-11) ?_ ?_
        · unfold f_X6_copyTo
          rw [emp d hd, z_cl, if_neg hd0, if_pos rfl, emp e he, z_cl, if_pos he0, if_neg n1_0]
        · rw [mst w rfl rfl, if_neg (by rw [z_lt, c0]; exact hd0), if_neg (by rw [z_le, c0]; omega)]
      have c1' : f_X6_copyTo w (36 + 2 * d) i (36 + 2 * e) j n = (if (q_I w (36 + 2 * d) 1) = (-1) then (some ((-12), w)) else (if (q_I w (36 + 2 * d) 1) = (q_I w (36 + 2 * e) 1) then (if i < 0 then (some ((-13), w)) else (if j < 0 then (some ((-13), w)) else (if n < 0 then (some ((-13), w)) else (if ((q_I w (36 + 2 * d) 2) - n) < i then (some ((-13), w)) else (if j ≤ ((q_I w (36 + 2 * e) 2) - n) then (q_cpl w (36 + 2 * d + 1) 60 (36 + 2 * e + 1) 60 i j n (fun w5 => some (n, w5))) else (some ((-13), w))))))) else (some ((-12), w)))) := by
        unfold f_X6_copyTo
        rw [emp d hd, z_cl, if_neg hd0, if_pos rfl, emp e he, z_cl, if_neg he0, if_pos rfl]
      have m1' : ∀ w1 : qW, q_A w1 63 = q_A w 63 → q_A w1 64 = q_A w 64 → f_X11_shift w1 a i b j n = (if q_A w 63 d < 50 then (some ((-12), w1)) else (if q_A w 63 d = q_A w 63 e then (if n < 0 then (some ((-13), w1)) else (if i < 0 then (some ((-13), w1)) else (if j < 0 then (some ((-13), w1)) else (if (q_A w 64 d - n) < i then (some ((-13), w1)) else (if j ≤ (q_A w 64 e - n) then (f_X11_shift_R113 q_fuel w1 a i b j n 0) else (some ((-13), w1))))))) else (some ((-12), w1)))) := by
        intro w1 a63 a64
        rw [mst w1 a63 a64, if_neg (by rw [z_lt, c0]; exact hd0), if_pos (by rw [z_le, c0]; omega)]
      by_cases hd5 : (q_A w 63 d).toInt < 50
      · refine say (-12) ?_ ?_
        · rw [c1', if_pos]
          rcases hd.1 with ⟨k1, k2, k3, k4⟩ | ⟨k1, k2, k3, k4, k5⟩ | ⟨k1, k2, k3, k4, k5, k6⟩
          · exact k2
          · exact k3
          · have t := t50 ⟨k2, k3⟩
            rw [k4] at hd5
            omega
        · rw [m1' w rfl rfl, if_pos (by rw [z_lt, c50]; exact hd5)]
      obtain ⟨s1, s2, s3, s4, s5⟩ := jSd_row hpl hd (by omega)
      have hdn : ¬ q_I w (36 + 2 * d) 1 = -1 := by rw [z_eq, cm1]; omega
      by_cases hse : q_A w 63 d = q_A w 63 e
      · obtain ⟨u1, u2, u3, u4, u5⟩ := jSd_row hpl he (by rw [← hse]; omega)
        have hso : q_I w (36 + 2 * d) 1 = q_I w (36 + 2 * e) 1 := by
          rw [s3, u3, z_eq, t50 s2, t50 u2] at hse
          rw [z_eq]
          omega
        by_cases hn0 : n.toInt < 0
        · refine say (-13) ?_ ?_
          · rw [c1', if_neg hdn, if_pos hso]
            rw [if_pos (show n < 0 by rw [z_lt, c0]; exact hn0)]
            split
            · rfl
            · split <;> rfl
          · rw [m1' w rfl rfl, if_neg (by rw [z_lt, c50]; exact hd5), if_pos hse, if_pos (by rw [z_lt, c0]; exact hn0)]
        by_cases hi0 : i.toInt < 0
        · refine say (-13) ?_ ?_
          · rw [c1', if_neg hdn, if_pos hso, if_pos (by rw [z_lt, c0]; exact hi0)]
          · rw [m1' w rfl rfl, if_neg (by rw [z_lt, c50]; exact hd5), if_pos hse, if_neg (by rw [z_lt, c0]; exact hn0), if_pos (by rw [z_lt, c0]; exact hi0)]
        by_cases hj0 : j.toInt < 0
        · refine say (-13) ?_ ?_
          · rw [c1', if_neg hdn, if_pos hso, if_neg (by rw [z_lt, c0]; exact hi0), if_pos (by rw [z_lt, c0]; exact hj0)]
          · rw [m1' w rfl rfl, if_neg (by rw [z_lt, c50]; exact hd5), if_pos hse, if_neg (by rw [z_lt, c0]; exact hn0), if_neg (by rw [z_lt, c0]; exact hi0), if_pos (by rw [z_lt, c0]; exact hj0)]
        have hnh := t_hi n
        have x1 : (q_I w (36 + 2 * d) 2 - n).toInt = (q_I w (36 + 2 * d) 2).toInt - n.toInt := t_sub _ _ (by omega) (by omega)
        have x2 : (q_I w (36 + 2 * e) 2 - n).toInt = (q_I w (36 + 2 * e) 2).toInt - n.toInt := t_sub _ _ (by omega) (by omega)
        by_cases hsi : (q_I w (36 + 2 * d) 2).toInt - n.toInt < i.toInt
        · refine say (-13) ?_ ?_
          · rw [c1', if_neg hdn, if_pos hso, if_neg (by rw [z_lt, c0]; exact hi0), if_neg (by rw [z_lt, c0]; exact hj0), if_neg (by rw [z_lt, c0]; exact hn0), if_pos (by rw [z_lt, x1]; exact hsi)]
          · rw [m1' w rfl rfl, if_neg (by rw [z_lt, c50]; exact hd5), if_pos hse, if_neg (by rw [z_lt, c0]; exact hn0), if_neg (by rw [z_lt, c0]; exact hi0), if_neg (by rw [z_lt, c0]; exact hj0), s5, if_pos (by rw [z_lt, x1]; exact hsi)]
        by_cases hsj : j.toInt ≤ (q_I w (36 + 2 * e) 2).toInt - n.toInt
        · obtain ⟨i0, hi0'⟩ : ∃ i0 : Nat, i0 = i.toInt.toNat := ⟨_, rfl⟩
          obtain ⟨j0, hj0'⟩ : ∃ j0 : Nat, j0 = j.toInt.toNat := ⟨_, rfl⟩
          obtain ⟨nn, hnn⟩ : ∃ nn : Nat, nn = n.toInt.toNat := ⟨_, rfl⟩
          have en : n = nI nn := by rw [hnn]; exact z_nI _ (by omega)
          have e1 : f_X10_shift w a i b j n = some (n, q_sG w (36 + 2 * e + 1) (va_cpy (q_G w (36 + 2 * d + 1)) (q_G w (36 + 2 * e + 1)) i0 j0 nn)) := by
            rw [cst, c1', if_neg hdn, if_pos hso, if_neg (by rw [z_lt, c0]; exact hi0), if_neg (by rw [z_lt, c0]; exact hj0), if_neg (by rw [z_lt, c0]; exact hn0), if_neg (by rw [z_lt, x1]; exact hsi), if_pos (by rw [z_le, x2]; exact hsj)]
            unfold q_cpl
            rw [if_pos]
            · rw [z_clamp, z_clamp, z_clamp, ← hi0', ← hj0', ← hnn]
            · unfold q_cok
              simp only [Bool.and_eq_true, Bool.not_eq_true', decide_eq_false_iff_not, decide_eq_true_eq, z_lt, c0, z_clamp]
              exact ⟨hi0, hj0, hn0, by omega, by omega⟩
          generalize hw1 : q_sG w (36 + 2 * e + 1) (va_cpy (q_G w (36 + 2 * d + 1)) (q_G w (36 + 2 * e + 1)) i0 j0 nn) = w1 at e1
          have a63 : q_A w1 63 = q_A w 63 := by rw [← hw1]; rfl
          have a64 : q_A w1 64 = q_A w 64 := by rw [← hw1]; rfl
          have hi1 : q_I w1 = q_I w := by rw [← hw1]; rfl
          have g65 : q_G w1 65 = q_G w 65 := by rw [← hw1, g_GG, if_neg (by omega)]
          obtain ⟨w2, hw2⟩ : ∃ w2 : qW, w2 = q_sG (q_sG w1 66 (filG (fun p => q_G w1 65 (60 * d + i0 + p)) (q_G w1 66) 0 nn)) 65 (filG (fun p => filG (fun p => q_G w1 65 (60 * d + i0 + p)) (q_G w1 66) 0 nn (p - (60 * e + j0))) (q_G w1 65) (60 * e + j0 + 0) (60 * e + j0 + nn)) := ⟨_, rfl⟩
          refine ⟨n, w1, w2, e1, ?_, ?_⟩
          · rw [m1' w1 a63 a64, if_neg (by rw [z_lt, c50]; exact hd5), if_pos hse, if_neg (by rw [z_lt, c0]; exact hn0), if_neg (by rw [z_lt, c0]; exact hi0), if_neg (by rw [z_lt, c0]; exact hj0), s5, u5, if_neg (by rw [z_lt, x1]; exact hsi), if_pos (by rw [z_le, x2]; exact hsj)]
            have h1 := p_shiftA (d := d) (i0 := i0) (n := nn) (a := a) (i := i) (b := b) (j := j) hd6 (by omega) (by omega) (by omega) nn q_fuel 0 w1 (by omega) (by rw [q_fuel_eq]; omega)
            rw [nI_0] at h1
            rw [en, h1]
            have h2 := p_shiftB (e := e) (j0 := j0) (n := nn) (b := b) (j := j) he6 (by omega) (by omega) (by omega) nn q_fuel 0 (q_sG w1 66 (filG (fun p => q_G w1 65 (60 * d + i0 + p)) (q_G w1 66) 0 nn)) (by omega) (by rw [q_fuel_eq]; omega)
            rw [nI_0] at h2
            rw [h2, hw2]
            rfl
          · have o2 : jOs w w2 := by rw [hw2, ← hw1]; exact ((jOs.sG _ _ _).tr (jOs.sG _ _ _)).tr (jOs.sG _ _ _)
            have y65 : ∀ p : Nat, q_G w2 65 p = if 60 * e + j0 ≤ p ∧ p < 60 * e + j0 + nn then q_G w 65 (60 * d + i0 + (p - (60 * e + j0))) else q_G w 65 p := by
              intro p
              rw [hw2, g_GG, if_pos rfl, g65]
              unfold filG
              by_cases h : 60 * e + j0 + 0 ≤ p ∧ p < 60 * e + j0 + nn
              · rw [if_pos h]
                rw [if_pos (show 60 * e + j0 ≤ p ∧ p < 60 * e + j0 + nn by omega)]
                exact if_pos (show 0 ≤ p - (60 * e + j0) ∧ p - (60 * e + j0) < nn by omega)
              · rw [if_neg h, if_neg (by omega)]
            have yel : ∀ x : Nat, x < 6 → q_G w2 (36 + 2 * x + 1) = if x = e then va_cpy (q_G w (36 + 2 * d + 1)) (q_G w (36 + 2 * e + 1)) i0 j0 nn else q_G w (36 + 2 * x + 1) := by
              intro x hx
              rw [hw2, g_GG, if_neg (by omega), g_GG, if_neg (by omega), ← hw1, g_GG]
              by_cases h : x = e
              · rw [if_pos (by omega), if_pos h]
              · rw [if_neg (by omega), if_neg h]
            have i2 : q_I w2 = q_I w := by rw [hw2]; exact hi1
            have b63 : q_A w2 63 = q_A w 63 := by rw [hw2]; exact a63
            have b64 : q_A w2 64 = q_A w 64 := by rw [hw2]; exact a64
            refine Jn_Os hJ o2 (jS_of fun x hx => ?_)
            have hxo := jS_at hS x hx
            by_cases hxe : x = e
            · subst hxe
              obtain ⟨k1, k2, k3⟩ := hxo
              unfold jSd
              rw [i2, b63, b64, yel x hx, if_pos rfl]
              refine ⟨k1, k2, fun t ht => ?_⟩
              show va_cpy (q_G w (36 + 2 * d + 1)) (q_G w (36 + 2 * x + 1)) i0 j0 nn t = q_G w2 65 (60 * x + t) ∧ _
              rw [y65]
              unfold va_cpy
              by_cases h : j0 ≤ t ∧ t < j0 + nn
              · rw [if_pos h, if_pos (by omega)]
                have := hd.2.2 (i0 + (t - j0)) (by omega)
                rw [show 60 * d + i0 + (60 * x + t - (60 * x + j0)) = 60 * d + (i0 + (t - j0)) by omega]
                rw [hso] at this
                exact this
              · rw [if_neg h, if_neg (by omega)]
                exact k3 t ht
            · refine jSd_same (by rw [i2]) (by rw [i2]) (by rw [i2]) (by rw [i2]) (by rw [b63]) (by rw [b64]) (by rw [yel x hx, if_neg hxe]) (fun t ht => ?_) hxo
              rw [y65, if_neg (by omega)]
        · refine say (-13) ?_ ?_
          · rw [c1', if_neg hdn, if_pos hso, if_neg (by rw [z_lt, c0]; exact hi0), if_neg (by rw [z_lt, c0]; exact hj0), if_neg (by rw [z_lt, c0]; exact hn0), if_neg (by rw [z_lt, x1]; exact hsi), if_neg (by rw [z_le, x2]; exact hsj)]
          · rw [m1' w rfl rfl, if_neg (by rw [z_lt, c50]; exact hd5), if_pos hse, if_neg (by rw [z_lt, c0]; exact hn0), if_neg (by rw [z_lt, c0]; exact hi0), if_neg (by rw [z_lt, c0]; exact hj0), s5, u5, if_neg (by rw [z_lt, x1]; exact hsi), if_neg (by rw [z_le, x2]; exact hsj)]
      · refine say (-12) ?_ ?_
        · rw [c1', if_neg hdn, if_neg]
          intro hso
          apply hse
          rw [s3, hso]
          rcases he.1 with ⟨k1, k2, k3, k4⟩ | ⟨k1, k2, k3, k4, k5⟩ | ⟨k1, k2, k3, k4, k5, k6⟩
          · exact absurd (hso.trans k2) hdn
          · exact absurd (hso.trans k3) hdn
          · exact k4.symm
        · rw [m1' w rfl rfl, if_neg (by rw [z_lt, c50]; exact hd5), if_neg hse]
    · have hbb : (decide (0 ≤ b.toInt) && decide (b.toInt < 6)) = false := by simp; omega
      refine ⟨-1, w, w, ?_, ?_, hJ⟩
      · unfold f_X10_shift
        rw [p_isShelf, z_cl, decide_eq_true ha.1, decide_eq_true ha.2, Bool.and_self, b2i_t, if_neg n1_0, p_isShelf, z_cl, hbb]
        rfl
      · unfold f_X11_shift
        rw [p_mshelf, z_cl, decide_eq_true ha.1, decide_eq_true ha.2, Bool.and_self, b2i_t, if_neg n1_0, p_mshelf, z_cl, hbb]
        rfl
  · have hab : (decide (0 ≤ a.toInt) && decide (a.toInt < 6)) = false := by simp; omega
    refine ⟨-1, w, w, ?_, ?_, hJ⟩
    · unfold f_X10_shift
      rw [p_isShelf, hab]
      rfl
    · unfold f_X11_shift
      rw [p_mshelf, hab]
      rfl
