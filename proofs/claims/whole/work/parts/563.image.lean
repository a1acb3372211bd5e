def fil (F A : Nat → Int32) (i n : Nat) (j : Nat) : Int32 := if i ≤ j ∧ j < n then F j else A j
theorem fil_stop {F A : Nat → Int32} {i n : Nat} (h : n ≤ i) : fil F A i n = A := by
  funext j
  unfold fil
  rw [if_neg (by omega)]
theorem fil_step {F A : Nat → Int32} {i n : Nat} (h : i < n) : fil F (upd A i (F i)) (i + 1) n = fil F A i n := by
  funext j
  unfold fil upd
  by_cases h1 : j = i
  · subst h1; rw [if_neg (by omega), if_pos rfl, if_pos (by omega)]
  · by_cases h2 : i + 1 ≤ j ∧ j < n
    · rw [if_pos h2, if_pos (by omega)]
    · rw [if_neg h2, if_neg h1, if_neg (by omega)]
theorem sA_22 (w : qW) (a b : Nat) (f1 g1 f g : Nat → Int32) : q_sA (q_sA (q_sA (q_sA w a f1) b g1) a f) b g = q_sA (q_sA w a f) b g := by
  refine W_ext rfl rfl (funext fun o => ?_) rfl
  by_cases h1 : o = b
  · simp only [g_AA, if_pos h1]
  · by_cases h2 : o = a
    · simp only [g_AA, if_neg h1, if_pos h2]
    · simp only [g_AA, if_neg h1, if_neg h2]
/-- a man's numbers, a sitter's, by number -/
theorem p_getm {w : qW} {mn st i : Nat} (k : Nat) (hk : k < 4) (h1 : q_I w 1 1 = nI mn) (h2 : q_I w 1 2 = nI st) (hm : mn ≤ 7) (hs : st ≤ 8) (hi : i < mn) : f_X4_get w (nI i) (nI k) = some (q_A w 2 (8 * k + i), w) := by
  have t1 : (nI mn).toInt = (mn : Int) := nI_toInt (by omega)
  have t2 : (nI st).toInt = (st : Int) := nI_toInt (by omega)
  have t3 : (nI i).toInt = (i : Int) := nI_toInt (by omega)
  have t4 : (nI k).toInt = (k : Int) := nI_toInt (by omega)
  have hp := (has_men (w := w) (n := nI i) k hk).mpr (by rw [h1, t1, t3]; omega)
  have := p_get_t (by rw [h1, t1]; omega) (by rw [h2, t2]; omega) hp
  rw [this]
  unfold pIx
  rw [t3, t4]
  rfl
theorem p_gets {w : qW} {mn st i : Nat} (k : Nat) (hk : 4 ≤ k ∧ k < 7) (h1 : q_I w 1 1 = nI mn) (h2 : q_I w 1 2 = nI st) (hm : mn ≤ 7) (hs : st ≤ 8) (hi : i < st) : f_X4_get w (nI i) (nI k) = some (q_A w 2 (8 * k + i), w) := by
  have t1 : (nI mn).toInt = (mn : Int) := nI_toInt (by omega)
  have t2 : (nI st).toInt = (st : Int) := nI_toInt (by omega)
  have t3 : (nI i).toInt = (i : Int) := nI_toInt (by omega)
  have t4 : (nI k).toInt = (k : Int) := nI_toInt (by omega)
  have hp := (has_sit (w := w) (n := nI i) k hk).mpr (by rw [h2, t2, t3]; omega)
  have := p_get_t (by rw [h1, t1]; omega) (by rw [h2, t2]; omega) hp
  rw [this]
  unfold pIx
  rw [t3, t4]
  rfl
theorem p_setm {w : qW} {mn st i : Nat} {v : Int32} (k : Nat) (hk : k < 4) (h1 : q_I w 1 1 = nI mn) (h2 : q_I w 1 2 = nI st) (hm : mn ≤ 7) (hs : st ≤ 8) (hi : i < mn) : f_X4_set w (nI i) (nI k) v = some ((), q_sA w 2 (upd (q_A w 2) (8 * k + i) v)) := by
  have t1 : (nI mn).toInt = (mn : Int) := nI_toInt (by omega)
  have t2 : (nI st).toInt = (st : Int) := nI_toInt (by omega)
  have t3 : (nI i).toInt = (i : Int) := nI_toInt (by omega)
  have t4 : (nI k).toInt = (k : Int) := nI_toInt (by omega)
  have hp := (has_men (w := w) (n := nI i) k hk).mpr (by rw [h1, t1, t3]; omega)
  have := p_set_t (v := v) (by rw [h1, t1]; omega) (by rw [h2, t2]; omega) hp
  rw [this]
  unfold pIx
  rw [t3, t4]
  rfl
theorem p_sets {w : qW} {mn st i : Nat} {v : Int32} (k : Nat) (hk : 4 ≤ k ∧ k < 7) (h1 : q_I w 1 1 = nI mn) (h2 : q_I w 1 2 = nI st) (hm : mn ≤ 7) (hs : st ≤ 8) (hi : i < st) : f_X4_set w (nI i) (nI k) v = some ((), q_sA w 2 (upd (q_A w 2) (8 * k + i) v)) := by
  have t1 : (nI mn).toInt = (mn : Int) := nI_toInt (by omega)
  have t2 : (nI st).toInt = (st : Int) := nI_toInt (by omega)
  have t3 : (nI i).toInt = (i : Int) := nI_toInt (by omega)
  have t4 : (nI k).toInt = (k : Int) := nI_toInt (by omega)
  have hp := (has_sit (w := w) (n := nI i) k hk).mpr (by rw [h2, t2, t3]; omega)
  have := p_set_t (v := v) (by rw [h1, t1]; omega) (by rw [h2, t2]; omega) hp
  rw [this]
  unfold pIx
  rw [t3, t4]
  rfl
theorem p_imgA {mn st : Nat} (hm : mn ≤ 7) (hs : st ≤ 8) : ∀ (k fuel i : Nat) (w : qW), q_I w 1 1 = nI mn → q_I w 1 2 = nI st → q_I w 26 3 = nI mn → i + k = mn → k < fuel → f_X2_keepImage_R29 fuel w (nI i) = f_X2_keepImage_R75 q_fuel (q_sA (q_sA w 28 (fil (q_A w 2) (q_A w 28) i mn)) 29 (fil (fun j => q_A w 2 (16 + j)) (q_A w 29) i mn)) 0
  | 0, fuel + 1, i, w, h1, h2, h3, h4, h5 => by
    show f_X2_keepImage_B29 _ w _ = _
    unfold f_X2_keepImage_B29
    rw [h3, if_pos (nI_le (by omega) (by omega)), fil_stop (by omega), fil_stop (by omega)]
    have e1 : q_sA w 28 (q_A w 28) = w := sA_self w 28
    have e2 : q_sA w 29 (q_A w 29) = w := sA_self w 29
    rw [e1, e2]
  | k + 1, fuel + 1, i, w, h1, h2, h3, h4, h5 => by
    show f_X2_keepImage_B29 (f_X2_keepImage_R29 fuel) w _ = _
    unfold f_X2_keepImage_B29
    have t0 : (nI i).toInt = (i : Int) := nI_toInt (by omega)
    rw [h3, if_neg (nI_ge (by omega) (by omega)), show f_X4_get w (nI i) 0 = some (q_A w 2 (8 * 0 + i), w) from p_getm 0 (by omega) h1 h2 hm hs (by omega), z_cl, z_st _ _ _ _ _ _ (by rw [t0]; omega)]
    rw [show f_X4_get (q_sA w 28 (upd (q_A w 28) (nI i).toInt.toNat (q_A w 2 (8 * 0 + i)))) (nI i) 2 = some (q_A w 2 (8 * 2 + i), (q_sA w 28 (upd (q_A w 28) (nI i).toInt.toNat (q_A w 2 (8 * 0 + i))))) from p_getm (w := q_sA w 28 (upd (q_A w 28) (nI i).toInt.toNat (q_A w 2 (8 * 0 + i)))) 2 (by omega) h1 h2 hm hs (by omega), z_cl, z_st _ _ _ _ _ _ (by rw [t0]; omega), z_bn, nI_1, t0]
    rw [p_imgA hm hs k fuel (i + 1) _ (by exact h1) (by exact h2) (by exact h3) (by omega) (by omega)]
    have f1 := fil_step (F := q_A w 2) (A := q_A w 28) (i := i) (n := mn) (by omega)
    have f2 := fil_step (F := fun j => q_A w 2 (16 + j)) (A := q_A w 29) (i := i) (n := mn) (by omega)
    rw [sA_22, ← f1, ← f2, show 8 * 0 + i = i by omega]
    rfl
  | _, 0, _, _, _, _, _, _, h => by omega
theorem p_imgB {mn st : Nat} (hm : mn ≤ 7) (hs : st ≤ 8) : ∀ (k fuel i : Nat) (w : qW), q_I w 1 1 = nI mn → q_I w 1 2 = nI st → q_I w 26 4 = nI st → i + k = st → k < fuel → f_X2_keepImage_R75 fuel w (nI i) = some (q_A w 27 0, q_sA (q_sA w 30 (fil (fun j => q_A w 2 (32 + j)) (q_A w 30) i st)) 31 (va_cpy (q_A w 27) (q_A w 31) 0 0 6))
  | 0, fuel + 1, i, w, h1, h2, h3, h4, h5 => by
    show f_X2_keepImage_B75 _ w _ = _
    unfold f_X2_keepImage_B75
    rw [h3, if_pos (nI_le (by omega) (by omega)), fil_stop (by omega), sA_self]
    unfold q_cpi
    rw [if_pos (by decide)]
    rfl
  | k + 1, fuel + 1, i, w, h1, h2, h3, h4, h5 => by
    show f_X2_keepImage_B75 (f_X2_keepImage_R75 fuel) w _ = _
    unfold f_X2_keepImage_B75
    have t0 : (nI i).toInt = (i : Int) := nI_toInt (by omega)
    rw [h3, if_neg (nI_ge (by omega) (by omega)), show f_X4_get w (nI i) 4 = some (q_A w 2 (8 * 4 + i), w) from p_gets 4 (by omega) h1 h2 hm hs (by omega), z_cl, z_st _ _ _ _ _ _ (by rw [t0]; omega), z_bn, nI_1, t0]
    rw [p_imgB hm hs k fuel (i + 1) _ (by exact h1) (by exact h2) (by exact h3) (by omega) (by omega)]
    have f2 := fil_step (F := fun j => q_A w 2 (32 + j)) (A := q_A w 30) (i := i) (n := st) (by omega)
    rw [sA_two, ← f2]
    rfl
  | _, 0, _, _, _, _, _, _, h => by omega
theorem p_imC {mn : Nat} (hm : mn ≤ 7) : ∀ (k fuel i : Nat) (w : qW), q_I w 48 6 = nI mn → i + k = mn → k < fuel → f_X11_image_R31 fuel w (nI i) = f_X11_image_R74 q_fuel (q_sA (q_sA w 57 (fil (q_A w 49) (q_A w 57) i mn)) 58 (fil (fun j => q_A w 49 (16 + j)) (q_A w 58) i mn)) 0
  | 0, fuel + 1, i, w, h1, h4, h5 => by
    show f_X11_image_B31 _ w _ = _
    unfold f_X11_image_B31
    rw [h1, if_pos (nI_le (by omega) (by omega)), fil_stop (by omega), fil_stop (by omega)]
    have e1 : q_sA w 57 (q_A w 57) = w := sA_self w 57
    have e2 : q_sA w 58 (q_A w 58) = w := sA_self w 58
    rw [e1, e2]
  | k + 1, fuel + 1, i, w, h1, h4, h5 => by
    show f_X11_image_B31 (f_X11_image_R31 fuel) w _ = _
    unfold f_X11_image_B31
    have t0 : (nI i).toInt = (i : Int) := nI_toInt (by omega)
    have t1 : ((16 : Int32) + nI i).toInt = 16 + (i : Int) := by rw [t_16 (by omega), t0]
    rw [h1, if_neg (nI_ge (by omega) (by omega)), z_ld _ _ _ _ (by rw [t0]; omega), z_st _ _ _ _ _ _ (by rw [t0]; omega), z_ld _ _ _ _ (by rw [t1]; omega), z_st _ _ _ _ _ _ (by rw [t0]; omega), z_bn, nI_1, t0, t1]
    rw [p_imC hm k fuel (i + 1) _ (by exact h1) (by omega) (by omega)]
    have f1 := fil_step (F := q_A w 49) (A := q_A w 57) (i := i) (n := mn) (by omega)
    have f2 := fil_step (F := fun j => q_A w 49 (16 + j)) (A := q_A w 58) (i := i) (n := mn) (by omega)
    rw [sA_22, ← f1, ← f2, show ((16 + (i : Int)).toNat) = 16 + i by omega]
    rfl
  | _, 0, _, _, _, _, h => by omega
theorem p_imE : ∀ (k fuel i : Nat) (w : qW), i + k = 5 → k < fuel → f_X11_image_R105 fuel w (nI i) = some (q_A w 56 0, q_sA w 60 (fil (q_A w 56) (q_A w 60) i 5))
  | 0, fuel + 1, i, w, h4, h5 => by
    show f_X11_image_B105 _ w _ = _
    unfold f_X11_image_B105
    rw [if_pos (by rw [show i = 5 by omega]; decide), fil_stop (by omega), sA_self, z_ld _ _ _ _ (by rw [c0]; omega)]
    rfl
  | k + 1, fuel + 1, i, w, h4, h5 => by
    show f_X11_image_B105 (f_X11_image_R105 fuel) w _ = _
    unfold f_X11_image_B105
    have t0 : (nI i).toInt = (i : Int) := nI_toInt (by omega)
    rw [if_neg (by rw [z_le, c5, t0]; omega), z_ld _ _ _ _ (by rw [t0]; omega), z_st _ _ _ _ _ _ (by rw [t0]; omega), z_bn, nI_1, t0]
    rw [p_imE k fuel (i + 1) _ (by omega) (by omega)]
    have f1 := fil_step (F := q_A w 56) (A := q_A w 60) (i := i) (n := 5) (by omega)
    rw [sA_two, ← f1]
    rfl
  | _, 0, _, _, _, h => by omega
theorem p_imD {st : Nat} (hs : st ≤ 8) : ∀ (k fuel i : Nat) (w : qW), q_I w 48 7 = nI st → i + k = st → k < fuel → f_X11_image_R74 fuel w (nI i) = f_X11_image_R105 q_fuel (q_sA w 59 (fil (fun j => q_A w 49 (32 + j)) (q_A w 59) i st)) 0
  | 0, fuel + 1, i, w, h1, h4, h5 => by
    show f_X11_image_B74 _ w _ = _
    unfold f_X11_image_B74
    rw [h1, if_pos (nI_le (by omega) (by omega)), fil_stop (by omega), sA_self]
  | k + 1, fuel + 1, i, w, h1, h4, h5 => by
    show f_X11_image_B74 (f_X11_image_R74 fuel) w _ = _
    unfold f_X11_image_B74
    have t0 : (nI i).toInt = (i : Int) := nI_toInt (by omega)
    have t1 : ((32 : Int32) + nI i).toInt = ((32 : Nat) : Int) + (i : Int) := by rw [← t0]; exact t_plus 32 (nI i) (by omega) (by omega)
    rw [h1, if_neg (nI_ge (by omega) (by omega)), z_ld _ _ _ _ (by rw [t1]; omega), z_st _ _ _ _ _ _ (by rw [t0]; omega), z_bn, nI_1, t0, t1]
    rw [p_imD hs k fuel (i + 1) _ (by exact h1) (by omega) (by omega)]
    have f2 := fil_step (F := fun j => q_A w 49 (32 + j)) (A := q_A w 59) (i := i) (n := st) (by omega)
    rw [sA_two, ← f2, show ((((32 : Nat) : Int) + (i : Int)).toNat) = 32 + i by omega]
    rfl
  | _, 0, _, _, _, _, h => by omega
theorem p_image : j_image := by
  intro w hJ
  show ∃ r w1 w2, f_X10_image w = some (r, w1) ∧ f_X11_image w1 = some (r, w2) ∧ Jn w2
  obtain ⟨⟨p1, p2, p3, p4, p5⟩, hC, ⟨l1, l2, l3, l4, l5, l6, l7, l8, l9, l10, l11, l12, l13, l14, l15, l16, l17⟩, hT, hS, hL, hR⟩ := id hJ
  obtain ⟨mn, hmn⟩ : ∃ mn : Nat, mn = (q_I w 1 1).toInt.toNat := ⟨_, rfl⟩
  obtain ⟨st, hst⟩ : ∃ st : Nat, st = (q_I w 1 2).toInt.toNat := ⟨_, rfl⟩
  have em : q_I w 1 1 = nI mn := by rw [hmn]; exact z_nI _ p1.1
  have es : q_I w 1 2 = nI st := by rw [hst]; exact z_nI _ p2.1
  have hm7 : mn ≤ 7 := by omega
  have hs8 : st ≤ 8 := by omega
  obtain ⟨wa, hwa⟩ : ∃ wa : qW, wa = q_sI (q_sI (q_sI w 26 2 1) 26 3 (q_I w 1 1)) 26 4 (q_I w 1 2) := ⟨_, rfl⟩
  have e1 : f_X10_image w = some (q_A w 27 0, q_sA (q_sA (q_sA (q_sA wa 28 (fil (q_A w 2) (q_A w 28) 0 mn)) 29 (fil (fun j => q_A w 2 (16 + j)) (q_A w 29) 0 mn)) 30 (fil (fun j => q_A w 2 (32 + j)) (q_A w 30) 0 st)) 31 (va_cpy (q_A w 27) (q_A w 31) 0 0 6)) := by
    unfold f_X10_image f_X2_keepImage
    rw [z_bn, z_bn, z_bn]
    show q_cl (f_X2_keepImage_R29 q_fuel (q_sI (q_sI (q_sI w 26 2 1) 26 3 (q_I w 1 1)) 26 4 (q_I w 1 2)) 0) _ = _
    rw [← hwa]
    have h := p_imgA hm7 hs8 mn q_fuel 0 wa (by rw [hwa]; exact em) (by rw [hwa]; exact es) (by rw [hwa]; exact em) (by omega) (by rw [q_fuel_eq]; omega)
    rw [nI_0] at h
    rw [h]
    have h := p_imgB hm7 hs8 st q_fuel 0 (q_sA (q_sA wa 28 (fil (q_A wa 2) (q_A wa 28) 0 mn)) 29 (fil (fun j => q_A wa 2 (16 + j)) (q_A wa 29) 0 mn)) (by rw [hwa]; exact em) (by rw [hwa]; exact es) (by rw [hwa]; exact es) (by omega) (by rw [q_fuel_eq]; omega)
    rw [nI_0] at h
    rw [h, hwa]
    rfl
  generalize hw1 : q_sA (q_sA (q_sA (q_sA wa 28 (fil (q_A w 2) (q_A w 28) 0 mn)) 29 (fil (fun j => q_A w 2 (16 + j)) (q_A w 29) 0 mn)) 30 (fil (fun j => q_A w 2 (32 + j)) (q_A w 30) 0 st)) 31 (va_cpy (q_A w 27) (q_A w 31) 0 0 6) = w1 at e1
  obtain ⟨wb, hwb⟩ : ∃ wb : qW, wb = q_sI (q_sI (q_sI (q_sI w1 48 20 1) 48 21 (q_I w1 48 6)) 48 22 (q_I w1 48 7)) 48 23 (q_I w1 48 18) := ⟨_, rfl⟩
  have b6 : q_I wb 48 6 = nI mn := by rw [hwb, ← hw1, hwa, ← em]; exact p3
  have b7 : q_I wb 48 7 = nI st := by rw [hwb, ← hw1, hwa, ← es]; exact p4
  refine ⟨_, w1, q_sA (q_sA (q_sA (q_sA wb 57 (fil (q_A wb 49) (q_A wb 57) 0 mn)) 58 (fil (fun j => q_A wb 49 (16 + j)) (q_A wb 58) 0 mn)) 59 (fil (fun j => q_A wb 49 (32 + j)) (q_A wb 59) 0 st)) 60 (fil (q_A wb 56) (q_A wb 60) 0 5), e1, ?_, ?_⟩
  · unfold f_X11_image
    rw [z_bn, z_bn, z_bn, z_bn]
    show f_X11_image_R31 q_fuel (q_sI (q_sI (q_sI (q_sI w1 48 20 1) 48 21 (q_I w1 48 6)) 48 22 (q_I w1 48 7)) 48 23 (q_I w1 48 18)) 0 = _
    rw [← hwb]
    have h := p_imC hm7 mn q_fuel 0 wb b6 (by omega) (by rw [q_fuel_eq]; omega)
    rw [nI_0] at h
    rw [h]
    have h := p_imD hs8 st q_fuel 0 (q_sA (q_sA wb 57 (fil (q_A wb 49) (q_A wb 57) 0 mn)) 58 (fil (fun j => q_A wb 49 (16 + j)) (q_A wb 58) 0 mn)) b7 (by omega) (by rw [q_fuel_eq]; omega)
    rw [nI_0] at h
    rw [h]
    have h := p_imE 5 q_fuel 0 (q_sA (q_sA (q_sA wb 57 (fil (q_A wb 49) (q_A wb 57) 0 mn)) 58 (fil (fun j => q_A wb 49 (16 + j)) (q_A wb 58) 0 mn)) 59 (fil (fun j => q_A wb 49 (32 + j)) (q_A wb 59) 0 st)) (by omega) (by rw [q_fuel_eq]; omega)
    rw [nI_0] at h
    have e0 : q_A wb 56 0 = q_A w 27 0 := by rw [hwb, ← hw1, hwa]; exact (l1 0 (by omega)).symm
    show f_X11_image_R105 q_fuel (q_sA (q_sA (q_sA wb 57 (fil (q_A wb 49) (q_A wb 57) 0 mn)) 58 (fil (fun j => q_A wb 49 (16 + j)) (q_A wb 58) 0 mn)) 59 (fil (fun j => q_A wb 49 (32 + j)) (q_A wb 59) 0 st)) 0 = _
    rw [h]
    show some (q_A wb 56 0, _) = _
    rw [e0]
    rfl
  · have x49 : q_A wb 49 = q_A w 49 := by rw [hwb, ← hw1, hwa]; rfl
    have x57 : q_A wb 57 = q_A w 57 := by rw [hwb, ← hw1, hwa]; rfl
    have x58 : q_A wb 58 = q_A w 58 := by rw [hwb, ← hw1, hwa]; rfl
    have x59 : q_A wb 59 = q_A w 59 := by rw [hwb, ← hw1, hwa]; rfl
    have x56 : q_A wb 56 = q_A w 56 := by rw [hwb, ← hw1, hwa]; rfl
    have x60 : q_A wb 60 = q_A w 60 := by rw [hwb, ← hw1, hwa]; rfl
    rw [x49, x57, x58, x59, x56, x60, hwb, ← hw1, hwa]
    have em1 : (q_I w 1 1).toInt = (mn : Int) := by omega
    have es1 : (q_I w 1 2).toInt = (st : Int) := by omega
    have v0 : ∀ j : Nat, j < mn → q_A w 2 j = q_A w 49 j ∧ 0 ≤ (q_A w 2 j).toInt ∧ (q_A w 2 j).toInt ≤ 143 := fun j hj => by
      have h := p5 j (Or.inl ⟨by omega, by rw [em1]; omega⟩)
      rw [show j / 8 = 0 by omega] at h
      exact h
    have v2 : ∀ j : Nat, j < mn → q_A w 2 (16 + j) = q_A w 49 (16 + j) ∧ 0 ≤ (q_A w 2 (16 + j)).toInt ∧ (q_A w 2 (16 + j)).toInt ≤ 4 := fun j hj => by
      have h := p5 (16 + j) (Or.inl ⟨by omega, by rw [em1]; omega⟩)
      rw [show (16 + j) / 8 = 2 by omega] at h
      exact h
    have v4 : ∀ j : Nat, j < st → q_A w 2 (32 + j) = q_A w 49 (32 + j) ∧ 0 ≤ (q_A w 2 (32 + j)).toInt ∧ (q_A w 2 (32 + j)).toInt ≤ 143 := fun j hj => by
      have h := p5 (32 + j) (Or.inr (Or.inl ⟨by omega, by omega, by rw [es1]; omega⟩))
      rw [show (32 + j) / 8 = 4 by omega] at h
      exact h
    have cp : ∀ j : Nat, j < 6 → va_cpy (q_A w 27) (q_A w 31) 0 0 6 j = q_A w 27 j := fun j hj => by
      unfold va_cpy
      rw [if_pos (by omega)]
      congr 1
      omega
    refine ⟨⟨p1, p2, p3, p4, p5⟩, hC, ⟨l1, l2, l3, rfl, Or.inr rfl, p3, p4, ⟨p1.1, Int.le_refl _⟩, ⟨p2.1, Int.le_refl _⟩, ?_, ?_, ?_, ?_, ?_, l3, ?_, ?_⟩, hT, hS, hL, hR⟩
    · show fil (q_A w 2) (q_A w 28) 0 mn = fil (q_A w 49) (q_A w 57) 0 mn
      funext j
      unfold fil
      by_cases h : 0 ≤ j ∧ j < mn
      · rw [if_pos h, if_pos h]; exact (v0 j h.2).1
      · rw [if_neg h, if_neg h, l10]
    · show fil (fun j => q_A w 2 (16 + j)) (q_A w 29) 0 mn = fil (fun j => q_A w 49 (16 + j)) (q_A w 58) 0 mn
      funext j
      unfold fil
      by_cases h : 0 ≤ j ∧ j < mn
      · rw [if_pos h, if_pos h]; exact (v2 j h.2).1
      · rw [if_neg h, if_neg h, l11]
    · show fil (fun j => q_A w 2 (32 + j)) (q_A w 30) 0 st = fil (fun j => q_A w 49 (32 + j)) (q_A w 59) 0 st
      funext j
      unfold fil
      by_cases h : 0 ≤ j ∧ j < st
      · rw [if_pos h, if_pos h]; exact (v4 j h.2).1
      · rw [if_neg h, if_neg h, l12]
    · intro j hj
      show va_cpy (q_A w 27) (q_A w 31) 0 0 6 j = fil (q_A w 56) (q_A w 60) 0 5 j
      rw [cp j (by omega)]
      unfold fil
      rw [if_pos (by omega)]
      exact l1 j hj
    · show va_cpy (q_A w 27) (q_A w 31) 0 0 6 5 = q_I w 48 18
      rw [cp 5 (by omega)]
      exact l2
    · intro j hj
      have hj : (j : Int) < (q_I w 1 1).toInt := hj
      show (0 ≤ (fil (q_A w 2) (q_A w 28) 0 mn j).toInt ∧ (fil (q_A w 2) (q_A w 28) 0 mn j).toInt ≤ 143) ∧ 0 ≤ (fil (fun j => q_A w 2 (16 + j)) (q_A w 29) 0 mn j).toInt ∧ (fil (fun j => q_A w 2 (16 + j)) (q_A w 29) 0 mn j).toInt ≤ 4
      unfold fil
      rw [if_pos (by omega), if_pos (by omega)]
      exact ⟨(v0 j (by omega)).2, (v2 j (by omega)).2⟩
    · intro j hj
      have hj : (j : Int) < (q_I w 1 2).toInt := hj
      show 0 ≤ (fil (fun j => q_A w 2 (32 + j)) (q_A w 30) 0 st j).toInt ∧ (fil (fun j => q_A w 2 (32 + j)) (q_A w 30) 0 st j).toInt ≤ 143
      unfold fil
      rw [if_pos (by omega)]
      exact (v4 j (by omega)).2
