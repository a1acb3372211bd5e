/-- the men's numbers laid back -/
def lb2 (C A N : Nat → Int32) (i n : Nat) (j : Nat) : Int32 := if i ≤ j ∧ j < n then C j else if 16 + i ≤ j ∧ j < 16 + n then A (j - 16) else N j
theorem lb2_stop {C A N : Nat → Int32} {i n : Nat} (h : n ≤ i) : lb2 C A N i n = N := by
  funext j
  unfold lb2
  rw [if_neg (by omega), if_neg (by omega)]
theorem lb2_step {C A N : Nat → Int32} {i n : Nat} (h : i < n) (hn : n ≤ 7) : lb2 C A (upd (upd N i (C i)) (16 + i) (A i)) (i + 1) n = lb2 C A N i n := by
  funext j
  unfold lb2 upd
  by_cases h1 : j = i
  · subst h1; rw [if_neg (by omega), if_neg (by omega), if_neg (by omega), if_pos rfl, if_pos (by omega)]
  · by_cases h2 : j = 16 + i
    · subst h2
      rw [if_neg (by omega), if_neg (by omega), if_pos rfl, if_neg (by omega), if_pos (by omega)]
      congr 1
      omega
    · by_cases h3 : i + 1 ≤ j ∧ j < n
      · rw [if_pos h3, if_pos (by omega)]
      · by_cases h4 : 16 + (i + 1) ≤ j ∧ j < 16 + n
        · rw [if_neg h3, if_pos h4, if_neg (by omega), if_pos (by omega)]
        · rw [if_neg h3, if_neg h4, if_neg h2, if_neg h1, if_neg (by omega), if_neg (by omega)]
def lb4 (S N : Nat → Int32) (i n : Nat) (j : Nat) : Int32 := if 32 + i ≤ j ∧ j < 32 + n then S (j - 32) else N j
theorem lb4_stop {S N : Nat → Int32} {i n : Nat} (h : n ≤ i) : lb4 S N i n = N := by
  funext j
  unfold lb4
  rw [if_neg (by omega)]
theorem lb4_step {S N : Nat → Int32} {i n : Nat} (h : i < n) : lb4 S (upd N (32 + i) (S i)) (i + 1) n = lb4 S N i n := by
  funext j
  unfold lb4 upd
  by_cases h1 : j = 32 + i
  · subst h1
    rw [if_neg (by omega), if_pos rfl, if_pos (by omega)]
    congr 1
    omega
  · by_cases h3 : 32 + (i + 1) ≤ j ∧ j < 32 + n
    · rw [if_pos h3, if_pos (by omega)]
    · rw [if_neg h3, if_neg h1, if_neg (by omega)]
theorem p_bkA {mn st im : Nat} (hm : mn ≤ 7) (hs : st ≤ 8) (hi : im ≤ mn) : ∀ (k fuel i : Nat) (w : qW), q_I w 1 1 = nI mn → q_I w 1 2 = nI st → q_I w 26 3 = nI im → i + k = im → k < fuel → f_X2_layBack_R12 fuel w (nI i) = f_X2_layBack_R58 q_fuel (q_sA w 2 (lb2 (q_A w 28) (q_A w 29) (q_A w 2) i im)) 0
  | 0, fuel + 1, i, w, h1, h2, h3, h4, h5 => by
    show f_X2_layBack_B12 _ w _ = _
    unfold f_X2_layBack_B12
    rw [h3, if_pos (nI_le (by omega) (by omega)), lb2_stop (by omega), sA_self]
  | k + 1, fuel + 1, i, w, h1, h2, h3, h4, h5 => by
    show f_X2_layBack_B12 (f_X2_layBack_R12 fuel) w _ = _
    unfold f_X2_layBack_B12
    have t0 : (nI i).toInt = (i : Int) := nI_toInt (by omega)
    rw [h3, if_neg (nI_ge (by omega) (by omega)), z_ld _ _ _ _ (by rw [t0]; omega), t0]
    rw [show f_X4_set w (nI i) 0 (q_A w 28 (i : Int).toNat) = some ((), q_sA w 2 (upd (q_A w 2) (8 * 0 + i) (q_A w 28 i))) from p_setm 0 (by omega) h1 h2 hm hs (by omega), z_cl, z_ld _ _ _ _ (by rw [t0]; omega), t0]
    rw [show f_X4_set (q_sA w 2 (upd (q_A w 2) (8 * 0 + i) (q_A w 28 i))) (nI i) 2 (q_A (q_sA w 2 (upd (q_A w 2) (8 * 0 + i) (q_A w 28 i))) 29 (i : Int).toNat) = some ((), q_sA (q_sA w 2 (upd (q_A w 2) (8 * 0 + i) (q_A w 28 i))) 2 (upd (upd (q_A w 2) (8 * 0 + i) (q_A w 28 i)) (8 * 2 + i) (q_A w 29 i))) from p_setm (w := q_sA w 2 (upd (q_A w 2) (8 * 0 + i) (q_A w 28 i))) 2 (by omega) h1 h2 hm hs (by omega), z_cl, z_bn, nI_1, sA_two]
    rw [p_bkA hm hs hi k fuel (i + 1) _ (by exact h1) (by exact h2) (by exact h3) (by omega) (by omega)]
    rw [sA_two]
    have f1 := lb2_step (C := q_A w 28) (A := q_A w 29) (N := q_A w 2) (i := i) (n := im) (by omega) (by omega)
    rw [← f1, show 8 * 0 + i = i by omega]
    rfl
  | _, 0, _, _, _, _, _, _, h => by omega
theorem p_bkB {mn st im : Nat} (hm : mn ≤ 7) (hs : st ≤ 8) (hi : im ≤ st) : ∀ (k fuel i : Nat) (w : qW), q_I w 1 1 = nI mn → q_I w 1 2 = nI st → q_I w 26 4 = nI im → i + k = im → k < fuel → f_X2_layBack_R58 fuel w (nI i) = some (q_A w 31 0, q_sA (q_sA w 2 (lb4 (q_A w 30) (q_A w 2) i im)) 27 (va_cpy (q_A w 31) (q_A w 27) 0 0 6))
  | 0, fuel + 1, i, w, h1, h2, h3, h4, h5 => by
    show f_X2_layBack_B58 _ w _ = _
    unfold f_X2_layBack_B58
    rw [h3, if_pos (nI_le (by omega) (by omega)), lb4_stop (by omega), sA_self]
    unfold q_cpi
    rw [if_pos (by decide)]
    rfl
  | k + 1, fuel + 1, i, w, h1, h2, h3, h4, h5 => by
    show f_X2_layBack_B58 (f_X2_layBack_R58 fuel) w _ = _
    unfold f_X2_layBack_B58
    have t0 : (nI i).toInt = (i : Int) := nI_toInt (by omega)
    rw [h3, if_neg (nI_ge (by omega) (by omega)), z_ld _ _ _ _ (by rw [t0]; omega), t0]
    rw [show f_X4_set w (nI i) 4 (q_A w 30 (i : Int).toNat) = some ((), q_sA w 2 (upd (q_A w 2) (8 * 4 + i) (q_A w 30 i))) from p_sets 4 (by omega) h1 h2 hm hs (by omega), z_cl, z_bn, nI_1]
    rw [p_bkB hm hs hi k fuel (i + 1) _ (by exact h1) (by exact h2) (by exact h3) (by omega) (by omega)]
    rw [sA_two]
    have f1 := lb4_step (S := q_A w 30) (N := q_A w 2) (i := i) (n := im) (by omega)
    rw [← f1]
    rfl
  | _, 0, _, _, _, _, _, _, h => by omega
theorem p_bkC {im : Nat} (hm : im ≤ 7) : ∀ (k fuel i : Nat) (w : qW), q_I w 48 21 = nI im → i + k = im → k < fuel → f_X11_back_R12 fuel w (nI i) = f_X11_back_R55 q_fuel (q_sA w 49 (lb2 (q_A w 57) (q_A w 58) (q_A w 49) i im)) 0
  | 0, fuel + 1, i, w, h3, h4, h5 => by
    show f_X11_back_B12 _ w _ = _
    unfold f_X11_back_B12
    rw [h3, if_pos (nI_le (by omega) (by omega)), lb2_stop (by omega), sA_self]
  | k + 1, fuel + 1, i, w, h3, h4, h5 => by
    show f_X11_back_B12 (f_X11_back_R12 fuel) w _ = _
    unfold f_X11_back_B12
    have t0 : (nI i).toInt = (i : Int) := nI_toInt (by omega)
    have t1 : ((16 : Int32) + nI i).toInt = 16 + (i : Int) := by rw [t_16 (by omega), t0]
    rw [h3, if_neg (nI_ge (by omega) (by omega)), z_ld _ _ _ _ (by rw [t0]; omega), z_st _ _ _ _ _ _ (by rw [t0]; omega), z_ld _ _ _ _ (by rw [t0]; omega), z_st _ _ _ _ _ _ (by rw [t1]; omega), z_bn, nI_1, t0, t1, sA_two]
    rw [p_bkC hm k fuel (i + 1) _ (by exact h3) (by omega) (by omega)]
    rw [sA_two]
    have f1 := lb2_step (C := q_A w 57) (A := q_A w 58) (N := q_A w 49) (i := i) (n := im) (by omega) (by omega)
    rw [← f1, show ((16 + (i : Int)).toNat) = 16 + i by omega]
    rfl
  | _, 0, _, _, _, _, h => by omega
theorem p_bkE : ∀ (k fuel i : Nat) (w : qW), i + k = 5 → k < fuel → f_X11_back_R94 fuel w (nI i) = some (fil (q_A w 60) (q_A w 56) i 5 0, q_sA w 56 (fil (q_A w 60) (q_A w 56) i 5))
  | 0, fuel + 1, i, w, h4, h5 => by
    show f_X11_back_B94 _ w _ = _
    unfold f_X11_back_B94
    rw [if_pos (by rw [show i = 5 by omega]; decide), fil_stop (by omega), sA_self, z_ld _ _ _ _ (by rw [c0]; omega)]
    rfl
  | k + 1, fuel + 1, i, w, h4, h5 => by
    show f_X11_back_B94 (f_X11_back_R94 fuel) w _ = _
    unfold f_X11_back_B94
    have t0 : (nI i).toInt = (i : Int) := nI_toInt (by omega)
    rw [if_neg (by rw [z_le, c5, t0]; omega), z_ld _ _ _ _ (by rw [t0]; omega), z_st _ _ _ _ _ _ (by rw [t0]; omega), z_bn, nI_1, t0]
    rw [p_bkE k fuel (i + 1) _ (by omega) (by omega)]
    have f1 := fil_step (F := q_A w 60) (A := q_A w 56) (i := i) (n := 5) (by omega)
    rw [sA_two, ← f1]
    rfl
  | _, 0, _, _, _, h => by omega
theorem p_bkD {im : Nat} (hs : im ≤ 8) : ∀ (k fuel i : Nat) (w : qW), q_I w 48 22 = nI im → i + k = im → k < fuel → f_X11_back_R55 fuel w (nI i) = f_X11_back_R94 q_fuel (q_sI (q_sA w 49 (lb4 (q_A w 59) (q_A w 49) i im)) 48 18 (q_I w 48 23)) 0
  | 0, fuel + 1, i, w, h1, h4, h5 => by
    show f_X11_back_B55 _ w _ = _
    unfold f_X11_back_B55
    rw [h1, if_pos (nI_le (by omega) (by omega)), lb4_stop (by omega), sA_self, z_bn]
  | k + 1, fuel + 1, i, w, h1, h4, h5 => by
    show f_X11_back_B55 (f_X11_back_R55 fuel) w _ = _
    unfold f_X11_back_B55
    have t0 : (nI i).toInt = (i : Int) := nI_toInt (by omega)
    have t1 : ((32 : Int32) + nI i).toInt = ((32 : Nat) : Int) + (i : Int) := by rw [← t0]; exact t_plus 32 (nI i) (by omega) (by omega)
    rw [h1, if_neg (nI_ge (by omega) (by omega)), z_ld _ _ _ _ (by rw [t0]; omega), z_st _ _ _ _ _ _ (by rw [t1]; omega), z_bn, nI_1, t0, t1]
    rw [p_bkD hs k fuel (i + 1) _ (by exact h1) (by omega) (by omega)]
    have f2 := lb4_step (S := q_A w 59) (N := q_A w 49) (i := i) (n := im) (by omega)
    rw [sA_two, ← f2, show ((((32 : Nat) : Int) + (i : Int)).toNat) = 32 + i by omega]
    rfl
  | _, 0, _, _, _, _, h => by omega
theorem p_back : j_back := by
  intro w hJ
  show ∃ r w1 w2, f_X10_back w = some (r, w1) ∧ f_X11_back w1 = some (r, w2) ∧ Jn w2
  obtain ⟨⟨p1, p2, p3, p4, p5⟩, hC, ⟨l1, l2, l3, l4, l5, l6, l7, l8, l9, l10, l11, l12, l13, l14, l15, l16, l17⟩, hT, hS, hL, hR⟩ := id hJ
  by_cases h0 : q_I w 26 2 = 0
  · refine ⟨-5, w, w, ?_, ?_, hJ⟩
    · unfold f_X10_back f_X2_layBack
      rw [if_pos h0]
      rfl
    · unfold f_X11_back
      rw [l4, if_pos h0]
  obtain ⟨mn, hmn⟩ : ∃ mn : Nat, mn = (q_I w 1 1).toInt.toNat := ⟨_, rfl⟩
  obtain ⟨st, hst⟩ : ∃ st : Nat, st = (q_I w 1 2).toInt.toNat := ⟨_, rfl⟩
  obtain ⟨im, him⟩ : ∃ im : Nat, im = (q_I w 26 3).toInt.toNat := ⟨_, rfl⟩
  obtain ⟨is, his⟩ : ∃ is : Nat, is = (q_I w 26 4).toInt.toNat := ⟨_, rfl⟩
  have em : q_I w 1 1 = nI mn := by rw [hmn]; exact z_nI _ p1.1
  have es : q_I w 1 2 = nI st := by rw [hst]; exact z_nI _ p2.1
  have eim : q_I w 26 3 = nI im := by rw [him]; exact z_nI _ l8.1
  have eis : q_I w 26 4 = nI is := by rw [his]; exact z_nI _ l9.1
  have hm7 : mn ≤ 7 := by omega
  have hs8 : st ≤ 8 := by omega
  have him7 : im ≤ mn := by omega
  have his8 : is ≤ st := by omega
  have e1 : f_X10_back w = some (q_A w 31 0, q_sA (q_sA w 2 (lb4 (q_A w 30) (lb2 (q_A w 28) (q_A w 29) (q_A w 2) 0 im) 0 is)) 27 (va_cpy (q_A w 31) (q_A w 27) 0 0 6)) := by
    unfold f_X10_back f_X2_layBack
    rw [if_neg h0]
    have h := p_bkA hm7 hs8 him7 im q_fuel 0 w em es eim (by omega) (by rw [q_fuel_eq]; omega)
    rw [nI_0] at h
    rw [h]
    have h := p_bkB hm7 hs8 his8 is q_fuel 0 (q_sA w 2 (lb2 (q_A w 28) (q_A w 29) (q_A w 2) 0 im)) em es eis (by omega) (by rw [q_fuel_eq]; omega)
    rw [nI_0, sA_two] at h
    rw [h]
    rfl
  generalize hw1 : q_sA (q_sA w 2 (lb4 (q_A w 30) (lb2 (q_A w 28) (q_A w 29) (q_A w 2) 0 im) 0 is)) 27 (va_cpy (q_A w 31) (q_A w 27) 0 0 6) = w1 at e1
  have b20 : ¬ q_I w1 48 20 = 0 := by rw [← hw1]; show ¬ q_I w 48 20 = 0; rw [l4]; exact h0
  have b21 : q_I w1 48 21 = nI im := by rw [← hw1, ← eim]; exact l6
  have b22 : q_I w1 48 22 = nI is := by rw [← hw1, ← eis]; exact l7
  have x49 : q_A w1 49 = q_A w 49 := by rw [← hw1]; rfl
  have x57 : q_A w1 57 = q_A w 57 := by rw [← hw1]; rfl
  have x58 : q_A w1 58 = q_A w 58 := by rw [← hw1]; rfl
  have x59 : q_A w1 59 = q_A w 59 := by rw [← hw1]; rfl
  have x56 : q_A w1 56 = q_A w 56 := by rw [← hw1]; rfl
  have x60 : q_A w1 60 = q_A w 60 := by rw [← hw1]; rfl
  refine ⟨_, w1, q_sA (q_sI (q_sA w1 49 (lb4 (q_A w1 59) (lb2 (q_A w1 57) (q_A w1 58) (q_A w1 49) 0 im) 0 is)) 48 18 (q_I w1 48 23)) 56 (fil (q_A w1 60) (q_A w1 56) 0 5), e1, ?_, ?_⟩
  · unfold f_X11_back
    rw [if_neg b20]
    have h := p_bkC (by omega) im q_fuel 0 w1 b21 (by omega) (by rw [q_fuel_eq]; omega)
    rw [nI_0] at h
    rw [h]
    have h := p_bkD (by omega) is q_fuel 0 (q_sA w1 49 (lb2 (q_A w1 57) (q_A w1 58) (q_A w1 49) 0 im)) b22 (by omega) (by rw [q_fuel_eq]; omega)
    rw [nI_0, sA_two] at h
    rw [h]
    have h := p_bkE 5 q_fuel 0 (q_sI (q_sA w1 49 (lb4 (q_A w1 59) (lb2 (q_A w1 57) (q_A w1 58) (q_A w1 49) 0 im) 0 is)) 48 18 (q_I w1 48 23)) (by omega) (by rw [q_fuel_eq]; omega)
    rw [nI_0] at h
    show f_X11_back_R94 q_fuel (q_sI (q_sA w1 49 (lb4 (q_A w1 59) (lb2 (q_A w1 57) (q_A w1 58) (q_A w1 49) 0 im) 0 is)) 48 18 (q_I w1 48 23)) 0 = _
    rw [h]
    have e0 : q_A w1 60 0 = q_A w 31 0 := by rw [x60, ← l13 0 (by omega)]
    show some (q_A w1 60 0, _) = _
    rw [e0]
    rfl
  · rw [x49, x57, x58, x59, x56, x60, ← hw1]
    have eim1 : (q_I w 26 3).toInt = (im : Int) := by omega
    have eis1 : (q_I w 26 4).toInt = (is : Int) := by omega
    have cp : ∀ j : Nat, j < 6 → va_cpy (q_A w 31) (q_A w 27) 0 0 6 j = q_A w 31 j := fun j hj => by
      unfold va_cpy
      rw [if_pos (by omega)]
      congr 1
      omega
    refine ⟨⟨p1, p2, p3, p4, fun j hj => ?_⟩, hC, ⟨?_, ?_, l15, l4, l5, l6, l7, l8, l9, l10, l11, l12, l13, l14, l15, l16, l17⟩, hT, hS, hL, hR⟩
    · have hj : jvI (q_I w 1 1) (q_I w 1 2) j := hj
      show lb4 (q_A w 30) (lb2 (q_A w 28) (q_A w 29) (q_A w 2) 0 im) 0 is j = lb4 (q_A w 59) (lb2 (q_A w 57) (q_A w 58) (q_A w 49) 0 im) 0 is j ∧ jlo (j / 8) ≤ (lb4 (q_A w 30) (lb2 (q_A w 28) (q_A w 29) (q_A w 2) 0 im) 0 is j).toInt ∧ (lb4 (q_A w 30) (lb2 (q_A w 28) (q_A w 29) (q_A w 2) 0 im) 0 is j).toInt ≤ jhi (j / 8)
      rw [← l10, ← l11, ← l12]
      unfold lb4
      by_cases h : 32 + 0 ≤ j ∧ j < 32 + is
      · rw [if_pos h, if_pos h, show j / 8 = 4 by omega]
        exact ⟨rfl, l17 (j - 32) (by rw [eis1]; omega)⟩
      · rw [if_neg h, if_neg h]
        unfold lb2
        by_cases h2 : 0 ≤ j ∧ j < im
        · rw [if_pos h2, if_pos h2, show j / 8 = 0 by omega]
          exact ⟨rfl, (l16 j (by rw [eim1]; omega)).1⟩
        · rw [if_neg h2, if_neg h2]
          by_cases h3 : 16 + 0 ≤ j ∧ j < 16 + im
          · rw [if_pos h3, if_pos h3, show j / 8 = 2 by omega]
            exact ⟨rfl, (l16 (j - 16) (by rw [eim1]; omega)).2⟩
          · rw [if_neg h3, if_neg h3]
            exact p5 j hj
    · intro j hj
      show va_cpy (q_A w 31) (q_A w 27) 0 0 6 j = fil (q_A w 60) (q_A w 56) 0 5 j
      rw [cp j (by omega)]
      unfold fil
      rw [if_pos (by omega)]
      exact l13 j hj
    · show va_cpy (q_A w 31) (q_A w 27) 0 0 6 5 = q_I w 48 23
      rw [cp 5 (by omega)]
      exact l14
