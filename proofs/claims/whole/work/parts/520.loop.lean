def j_ok {β : Type} (f g : qW → Option (β × qW)) : Prop := ∀ w : qW, Jn w → ∃ (r : β) (w1 w2 : qW), f w = some (r, w1) ∧ g w1 = some (r, w2) ∧ Jn w2
def j_man : Prop := ∀ (a b : Int32), j_ok (fun w => f_X10_man w a b) (fun w => f_X11_man w a b)
def j_sitter : Prop := ∀ (a b : Int32), j_ok (fun w => f_X10_sitter w a b) (fun w => f_X11_sitter w a b)
def j_sitters : Prop := ∀ (a b c : Int32), j_ok (fun w => f_X10_sitters w a b c) (fun w => f_X11_sitters w a b c)
def j_mend : Prop := ∀ (a b c : Int32), j_ok (fun w => f_X10_mend w a b c) (fun w => f_X11_mend w a b c)
def j_of : Prop := ∀ (a b : Int32), j_ok (fun w => f_X10_of w a b) (fun w => f_X11_of w a b)
def j_feed : Prop := ∀ (a : Int32), j_ok (fun w => f_X10_feed w a) (fun w => f_X11_feed w a)
def j_law : Prop := j_ok (fun w => f_X10_law w ) (fun w => f_X11_law w )
def j_shade : Prop := ∀ (a b : Int32), j_ok (fun w => f_X10_shade w a b) (fun w => f_X11_shade w a b)
def j_walk : Prop := ∀ (a b : Int32), j_ok (fun w => f_X10_walk w a b) (fun w => f_X11_walk w a b)
def j_served : Prop := ∀ (a b : Int32), j_ok (fun w => f_X10_served w a b) (fun w => f_X11_served w a b)
def j_at : Prop := ∀ (a b : Int32), j_ok (fun w => f_X10_at w a b) (fun w => f_X11_at w a b)
def j_enough : Prop := ∀ (a : Int32), j_ok (fun w => f_X10_enough w a) (fun w => f_X11_enough w a)
def j_roster : Prop := ∀ (a : Int32), j_ok (fun w => f_X10_roster w a) (fun w => f_X11_roster w a)
def j_oneMore : Prop := ∀ (a b : Int32), j_ok (fun w => f_X10_oneMore w a b) (fun w => f_X11_oneMore w a b)
def j_step : Prop := ∀ (a b : Int32), j_ok (fun w => f_X10_step w a b) (fun w => f_X11_step w a b)
def j_judge : Prop := ∀ (a b : Int32), j_ok (fun w => f_X10_judge w a b) (fun w => f_X11_judge w a b)
def j_stood : Prop := ∀ (a b c : Int32), j_ok (fun w => f_X10_stood w a b c) (fun w => f_X11_stood w a b c)
def j_who : Prop := ∀ (a b c : Int32), j_ok (fun w => f_X10_who w a b c) (fun w => f_X11_who w a b c)
def j_wish : Prop := ∀ (a b : Int32), j_ok (fun w => f_X10_wish w a b) (fun w => f_X11_wish w a b)
def j_share : Prop := ∀ (a b : Int32), j_ok (fun w => f_X10_share w a b) (fun w => f_X11_share w a b)
def j_late : Prop := ∀ (a b : Int32), j_ok (fun w => f_X10_late w a b) (fun w => f_X11_late w a b)
def j_byTurns : Prop := ∀ (a b c : Int32), j_ok (fun w => f_X10_byTurns w a b c) (fun w => f_X11_byTurns w a b c)
def j_drawn : Prop := ∀ (a b c : Int32), j_ok (fun w => f_X10_drawn w a b c) (fun w => f_X11_drawn w a b c)
def j_passes : Prop := j_ok (fun w => f_X10_passes w ) (fun w => f_X11_passes w )
def j_steps : Prop := ∀ (a b : Int32), j_ok (fun w => f_X10_steps w a b) (fun w => f_X11_steps w a b)
def j_bird : Prop := ∀ (a : Int32), j_ok (fun w => f_X10_bird w a) (fun w => f_X11_bird w a)
def j_goes : Prop := ∀ (a b : Int32), j_ok (fun w => f_X10_goes w a b) (fun w => f_X11_goes w a b)
def j_led : Prop := ∀ (a : Int32), j_ok (fun w => f_X10_led w a) (fun w => f_X11_led w a)
def j_image : Prop := j_ok (fun w => f_X10_image w ) (fun w => f_X11_image w )
def j_back : Prop := j_ok (fun w => f_X10_back w ) (fun w => f_X11_back w )
def j_undo : Prop := j_ok (fun w => f_X10_undo w ) (fun w => f_X11_undo w )
def j_redo : Prop := j_ok (fun w => f_X10_redo w ) (fun w => f_X11_redo w )
def j_body : Prop := ∀ (a : Int32), j_ok (fun w => f_X10_body w a) (fun w => f_X11_body w a)
def j_act : Prop := ∀ (a b c : Int32), j_ok (fun w => f_X10_act w a b c) (fun w => f_X11_act w a b c)
def j_trace : Prop := ∀ (a : Int32), j_ok (fun w => f_X10_trace w a) (fun w => f_X11_trace w a)
def j_keep : Prop := ∀ (a b : Int32), j_ok (fun w => f_X10_keep w a b) (fun w => f_X11_keep w a b)
def j_row : Prop := ∀ (a b c : Int32), j_ok (fun w => f_X10_row w a b c) (fun w => f_X11_row w a b c)
def j_put : Prop := ∀ (a b : Int32) (v : Int64), j_ok (fun w => f_X10_put w a b v) (fun w => f_X11_put w a b v)
def j_element : Prop := ∀ (a b : Int32), j_ok (fun w => f_X10_element w a b) (fun w => f_X11_element w a b)
def j_shift : Prop := ∀ (a b c d e : Int32), j_ok (fun w => f_X10_shift w a b c d e) (fun w => f_X11_shift w a b c d e)
def j_taken : Prop := ∀ (a b : Int32), j_ok (fun w => f_X10_taken w a b) (fun w => f_X11_taken w a b)
def j_count : Prop := ∀ (a : Int32), j_ok (fun w => f_X10_count w a) (fun w => f_X11_count w a)
def j_all : Prop := j_man ∧ j_sitter ∧ j_sitters ∧ j_mend ∧ j_of ∧ j_feed ∧ j_law ∧ j_shade ∧ j_walk ∧ j_served ∧ j_at ∧ j_enough ∧ j_roster ∧ j_oneMore ∧ j_step ∧ j_judge ∧ j_stood ∧ j_who ∧ j_wish ∧ j_share ∧ j_late ∧ j_byTurns ∧ j_drawn ∧ j_passes ∧ j_steps ∧ j_bird ∧ j_goes ∧ j_led ∧ j_image ∧ j_back ∧ j_undo ∧ j_redo ∧ j_body ∧ j_act ∧ j_trace ∧ j_keep ∧ j_row ∧ j_put ∧ j_element ∧ j_shift ∧ j_taken ∧ j_count
set_option maxRecDepth 100000 in
set_option maxHeartbeats 8000000 in
theorem j_turn (hall : j_all) {xs : Nat → Int32} {Lz i : Nat} (hz : Lz ≤ 3072) (hi : i + 6 ≤ Lz) (w : qW) (hJ : Jn w) (k18 : qW → Int32 → Option (Int32 × qW)) : ∃ w2, Jn w2 ∧ f_L_law_B18 xs Lz k18 w (nI i) = k18 w2 (nI (i + 6)) := by
  obtain ⟨j0, j1, j2, j3, j4, j5, j6, j7, j8, j9, j10, j11, j12, j13, j14, j15, j16, j17, j18, j19, j20, j21, j22, j23, j24, j25, j26, j27, j28, j29, j30, j31, j32, j33, j34, j35, j36, j37, j38, j39, j40, j41⟩ := hall
  have b0 : ∀ {β : Type} (k : Int32 → Option β), q_ld xs Lz (nI i) k = k (xs i) := fun k => by rw [z_ld _ _ _ _ (by rw [nI_toInt (by omega)]; omega), nI_toInt (by omega)]; rfl
  have b1 : ∀ {β : Type} (k : Int32 → Option β), q_ld xs Lz (nI i + 1) k = k (xs (i + 1)) := fun k => by rw [show nI i + 1 = nI (i + 1) from nI_add i 1, z_ld _ _ _ _ (by rw [nI_toInt (by omega)]; omega), nI_toInt (by omega)]; rfl
  have b2 : ∀ {β : Type} (k : Int32 → Option β), q_ld xs Lz (nI i + 2) k = k (xs (i + 2)) := fun k => by rw [show nI i + 2 = nI (i + 2) from nI_add i 2, z_ld _ _ _ _ (by rw [nI_toInt (by omega)]; omega), nI_toInt (by omega)]; rfl
  have b3 : ∀ {β : Type} (k : Int32 → Option β), q_ld xs Lz (nI i + 3) k = k (xs (i + 3)) := fun k => by rw [show nI i + 3 = nI (i + 3) from nI_add i 3, z_ld _ _ _ _ (by rw [nI_toInt (by omega)]; omega), nI_toInt (by omega)]; rfl
  have b4 : ∀ {β : Type} (k : Int32 → Option β), q_ld xs Lz (nI i + 4) k = k (xs (i + 4)) := fun k => by rw [show nI i + 4 = nI (i + 4) from nI_add i 4, z_ld _ _ _ _ (by rw [nI_toInt (by omega)]; omega), nI_toInt (by omega)]; rfl
  have b5 : ∀ {β : Type} (k : Int32 → Option β), q_ld xs Lz (nI i + 5) k = k (xs (i + 5)) := fun k => by rw [show nI i + 5 = nI (i + 5) from nI_add i 5, z_ld _ _ _ _ (by rw [nI_toInt (by omega)]; omega), nI_toInt (by omega)]; rfl
  have b6 : nI i + 6 = nI (i + 6) := nI_add i 6
  have hc : ¬ (Int32.ofNat Lz - 6 < nI i) := by
    have h6 : (6 : Int32).toInt = 6 := by decide
    have hL : (Int32.ofNat Lz).toInt = Lz := nI_toInt (by omega)
    rw [z_lt, t_sub _ _ (by rw [hL, h6]; omega) (by rw [hL, h6]; omega), hL, h6, nI_toInt (by omega)]
    omega
  unfold f_L_law_B18 f_L_law_B1553
  rw [if_neg hc, b0, z_bn]
  generalize xs i &&& 63 = x
  by_cases h0 : x = 0
  · rw [if_pos h0]
    obtain ⟨r, w1, w2, e1, e2, e3⟩ := j0 (xs (i + 1)) (xs (i + 2)) w hJ
    refine ⟨w2, e3, ?_⟩
    simp only [] at e1 e2
    simp only [b1, b2, b3, b4, b5, e1, e2, z_cl, z_bn, if_true, b6, lg_cmp_eq]
  rw [if_neg h0]
  by_cases h1 : x = 1
  · rw [if_pos h1]
    obtain ⟨r, w1, w2, e1, e2, e3⟩ := j1 (xs (i + 1)) (xs (i + 2)) w hJ
    refine ⟨w2, e3, ?_⟩
    simp only [] at e1 e2
    simp only [b1, b2, b3, b4, b5, e1, e2, z_cl, z_bn, if_true, b6, lg_cmp_eq]
  rw [if_neg h1]
  by_cases h2 : x = 2
  · rw [if_pos h2]
    obtain ⟨r, w1, w2, e1, e2, e3⟩ := j2 (xs (i + 1)) (xs (i + 2)) (xs (i + 3)) w hJ
    refine ⟨w2, e3, ?_⟩
    simp only [] at e1 e2
    simp only [b1, b2, b3, b4, b5, e1, e2, z_cl, z_bn, if_true, b6, lg_cmp_eq]
  rw [if_neg h2]
  by_cases h3 : x = 3
  · rw [if_pos h3]
    obtain ⟨r, w1, w2, e1, e2, e3⟩ := j3 (xs (i + 1)) (xs (i + 2)) (xs (i + 3)) w hJ
    refine ⟨w2, e3, ?_⟩
    simp only [] at e1 e2
    simp only [b1, b2, b3, b4, b5, e1, e2, z_cl, z_bn, if_true, b6, lg_cmp_eq]
  rw [if_neg h3]
  by_cases h4 : x = 4
  · rw [if_pos h4]
    obtain ⟨r, w1, w2, e1, e2, e3⟩ := j4 (xs (i + 1)) (xs (i + 2)) w hJ
    refine ⟨w2, e3, ?_⟩
    simp only [] at e1 e2
    simp only [b1, b2, b3, b4, b5, e1, e2, z_cl, z_bn, if_true, b6, lg_cmp_eq]
  rw [if_neg h4]
  by_cases h5 : x = 5
  · rw [if_pos h5]
    obtain ⟨r, w1, w2, e1, e2, e3⟩ := j5 (xs (i + 1)) w hJ
    refine ⟨w2, e3, ?_⟩
    simp only [] at e1 e2
    simp only [b1, b2, b3, b4, b5, e1, e2, z_cl, z_bn, if_true, b6, lg_cmp_eq]
  rw [if_neg h5]
  by_cases h6 : x = 6
  · rw [if_pos h6]
    obtain ⟨r, w1, w2, e1, e2, e3⟩ := j6  w hJ
    refine ⟨w2, e3, ?_⟩
    simp only [] at e1 e2
    simp only [b1, b2, b3, b4, b5, e1, e2, z_cl, z_bn, if_true, b6, lg_cmp_eq]
  rw [if_neg h6]
  by_cases h7 : x = 7
  · rw [if_pos h7]
    obtain ⟨r, w1, w2, e1, e2, e3⟩ := j7 (xs (i + 1)) (xs (i + 2)) w hJ
    refine ⟨w2, e3, ?_⟩
    simp only [] at e1 e2
    simp only [b1, b2, b3, b4, b5, e1, e2, z_cl, z_bn, if_true, b6, lg_cmp_eq]
  rw [if_neg h7]
  by_cases h8 : x = 8
  · rw [if_pos h8]
    obtain ⟨r, w1, w2, e1, e2, e3⟩ := j8 (xs (i + 1)) (xs (i + 2)) w hJ
    refine ⟨w2, e3, ?_⟩
    simp only [] at e1 e2
    simp only [b1, b2, b3, b4, b5, e1, e2, z_cl, z_bn, if_true, b6, lg_cmp_eq]
  rw [if_neg h8]
  by_cases h9 : x = 9
  · rw [if_pos h9]
    obtain ⟨r, w1, w2, e1, e2, e3⟩ := j9 (xs (i + 1)) (xs (i + 2)) w hJ
    refine ⟨w2, e3, ?_⟩
    simp only [] at e1 e2
    simp only [b1, b2, b3, b4, b5, e1, e2, z_cl, z_bn, if_true, b6, lg_cmp_eq]
  rw [if_neg h9]
  by_cases h10 : x = 10
  · rw [if_pos h10]
    obtain ⟨r, w1, w2, e1, e2, e3⟩ := j10 (xs (i + 1)) (xs (i + 2)) w hJ
    refine ⟨w2, e3, ?_⟩
    simp only [] at e1 e2
    simp only [b1, b2, b3, b4, b5, e1, e2, z_cl, z_bn, if_true, b6, lg_cmp_eq]
  rw [if_neg h10]
  by_cases h11 : x = 11
  · rw [if_pos h11]
    obtain ⟨r, w1, w2, e1, e2, e3⟩ := j11 (xs (i + 1)) w hJ
    refine ⟨w2, e3, ?_⟩
    simp only [] at e1 e2
    simp only [b1, b2, b3, b4, b5, e1, e2, z_cl, z_bn, if_true, b6, lg_cmp_eq]
  rw [if_neg h11]
  by_cases h12 : x = 12
  · rw [if_pos h12]
    obtain ⟨r, w1, w2, e1, e2, e3⟩ := j12 (xs (i + 1)) w hJ
    refine ⟨w2, e3, ?_⟩
    simp only [] at e1 e2
    simp only [b1, b2, b3, b4, b5, e1, e2, z_cl, z_bn, if_true, b6, lg_cmp_eq]
  rw [if_neg h12]
  by_cases h13 : x = 13
  · rw [if_pos h13]
    obtain ⟨r, w1, w2, e1, e2, e3⟩ := j13 (xs (i + 1)) (xs (i + 2)) w hJ
    refine ⟨w2, e3, ?_⟩
    simp only [] at e1 e2
    simp only [b1, b2, b3, b4, b5, e1, e2, z_cl, z_bn, if_true, b6, lg_cmp_eq]
  rw [if_neg h13]
  by_cases h14 : x = 14
  · rw [if_pos h14]
    obtain ⟨r, w1, w2, e1, e2, e3⟩ := j14 (xs (i + 1)) (xs (i + 2)) w hJ
    refine ⟨w2, e3, ?_⟩
    simp only [] at e1 e2
    simp only [b1, b2, b3, b4, b5, e1, e2, z_cl, z_bn, if_true, b6, lg_cmp_eq]
  rw [if_neg h14]
  by_cases h15 : x = 15
  · rw [if_pos h15]
    obtain ⟨r, w1, w2, e1, e2, e3⟩ := j15 (xs (i + 1)) (xs (i + 2)) w hJ
    refine ⟨w2, e3, ?_⟩
    simp only [] at e1 e2
    simp only [b1, b2, b3, b4, b5, e1, e2, z_cl, z_bn, if_true, b6, lg_cmp_eq]
  rw [if_neg h15]
  by_cases h16 : x = 16
  · rw [if_pos h16]
    obtain ⟨r, w1, w2, e1, e2, e3⟩ := j16 (xs (i + 1)) (xs (i + 2)) (xs (i + 3)) w hJ
    refine ⟨w2, e3, ?_⟩
    simp only [] at e1 e2
    simp only [b1, b2, b3, b4, b5, e1, e2, z_cl, z_bn, if_true, b6, lg_cmp_eq]
  rw [if_neg h16]
  by_cases h17 : x = 17
  · rw [if_pos h17]
    obtain ⟨r, w1, w2, e1, e2, e3⟩ := j17 (xs (i + 1)) (xs (i + 2)) (xs (i + 3)) w hJ
    refine ⟨w2, e3, ?_⟩
    simp only [] at e1 e2
    simp only [b1, b2, b3, b4, b5, e1, e2, z_cl, z_bn, if_true, b6, lg_cmp_eq]
  rw [if_neg h17]
  by_cases h18 : x = 18
  · rw [if_pos h18]
    obtain ⟨r, w1, w2, e1, e2, e3⟩ := j18 (xs (i + 1)) (xs (i + 2)) w hJ
    refine ⟨w2, e3, ?_⟩
    simp only [] at e1 e2
    simp only [b1, b2, b3, b4, b5, e1, e2, z_cl, z_bn, if_true, b6, lg_cmp_eq]
  rw [if_neg h18]
  by_cases h19 : x = 19
  · rw [if_pos h19]
    obtain ⟨r, w1, w2, e1, e2, e3⟩ := j19 (xs (i + 1)) (xs (i + 2)) w hJ
    refine ⟨w2, e3, ?_⟩
    simp only [] at e1 e2
    simp only [b1, b2, b3, b4, b5, e1, e2, z_cl, z_bn, if_true, b6, lg_cmp_eq]
  rw [if_neg h19]
  by_cases h20 : x = 20
  · rw [if_pos h20]
    obtain ⟨r, w1, w2, e1, e2, e3⟩ := j20 (xs (i + 1)) (xs (i + 2)) w hJ
    refine ⟨w2, e3, ?_⟩
    simp only [] at e1 e2
    simp only [b1, b2, b3, b4, b5, e1, e2, z_cl, z_bn, if_true, b6, lg_cmp_eq]
  rw [if_neg h20]
  by_cases h21 : x = 21
  · rw [if_pos h21]
    obtain ⟨r, w1, w2, e1, e2, e3⟩ := j21 (xs (i + 1)) (xs (i + 2)) (xs (i + 3)) w hJ
    refine ⟨w2, e3, ?_⟩
    simp only [] at e1 e2
    simp only [b1, b2, b3, b4, b5, e1, e2, z_cl, z_bn, if_true, b6, lg_cmp_eq]
  rw [if_neg h21]
  by_cases h22 : x = 22
  · rw [if_pos h22]
    obtain ⟨r, w1, w2, e1, e2, e3⟩ := j22 (xs (i + 1)) (xs (i + 2)) (xs (i + 3)) w hJ
    refine ⟨w2, e3, ?_⟩
    simp only [] at e1 e2
    simp only [b1, b2, b3, b4, b5, e1, e2, z_cl, z_bn, if_true, b6, lg_cmp_eq]
  rw [if_neg h22]
  by_cases h23 : x = 23
  · rw [if_pos h23]
    obtain ⟨r, w1, w2, e1, e2, e3⟩ := j23  w hJ
    refine ⟨w2, e3, ?_⟩
    simp only [] at e1 e2
    simp only [b1, b2, b3, b4, b5, e1, e2, z_cl, z_bn, if_true, b6, lg_cmp_eq]
  rw [if_neg h23]
  by_cases h24 : x = 24
  · rw [if_pos h24]
    obtain ⟨r, w1, w2, e1, e2, e3⟩ := j24 (xs (i + 1)) (xs (i + 2)) w hJ
    refine ⟨w2, e3, ?_⟩
    simp only [] at e1 e2
    simp only [b1, b2, b3, b4, b5, e1, e2, z_cl, z_bn, if_true, b6, lg_cmp_eq]
  rw [if_neg h24]
  by_cases h25 : x = 25
  · rw [if_pos h25]
    obtain ⟨r, w1, w2, e1, e2, e3⟩ := j25 (xs (i + 1)) w hJ
    refine ⟨w2, e3, ?_⟩
    simp only [] at e1 e2
    simp only [b1, b2, b3, b4, b5, e1, e2, z_cl, z_bn, if_true, b6, lg_cmp_eq]
  rw [if_neg h25]
  by_cases h26 : x = 26
  · rw [if_pos h26]
    obtain ⟨r, w1, w2, e1, e2, e3⟩ := j26 (xs (i + 1)) (xs (i + 2)) w hJ
    refine ⟨w2, e3, ?_⟩
    simp only [] at e1 e2
    simp only [b1, b2, b3, b4, b5, e1, e2, z_cl, z_bn, if_true, b6, lg_cmp_eq]
  rw [if_neg h26]
  by_cases h27 : x = 27
  · rw [if_pos h27]
    obtain ⟨r, w1, w2, e1, e2, e3⟩ := j27 (xs (i + 1)) w hJ
    refine ⟨w2, e3, ?_⟩
    simp only [] at e1 e2
    simp only [b1, b2, b3, b4, b5, e1, e2, z_cl, z_bn, if_true, b6, lg_cmp_eq]
  rw [if_neg h27]
  by_cases h28 : x = 28
  · rw [if_pos h28]
    obtain ⟨r, w1, w2, e1, e2, e3⟩ := j28  w hJ
    refine ⟨w2, e3, ?_⟩
    simp only [] at e1 e2
    simp only [b1, b2, b3, b4, b5, e1, e2, z_cl, z_bn, if_true, b6, lg_cmp_eq]
  rw [if_neg h28]
  by_cases h29 : x = 29
  · rw [if_pos h29]
    obtain ⟨r, w1, w2, e1, e2, e3⟩ := j29  w hJ
    refine ⟨w2, e3, ?_⟩
    simp only [] at e1 e2
    simp only [b1, b2, b3, b4, b5, e1, e2, z_cl, z_bn, if_true, b6, lg_cmp_eq]
  rw [if_neg h29]
  by_cases h30 : x = 30
  · rw [if_pos h30]
    obtain ⟨r, w1, w2, e1, e2, e3⟩ := j30  w hJ
    refine ⟨w2, e3, ?_⟩
    simp only [] at e1 e2
    simp only [b1, b2, b3, b4, b5, e1, e2, z_cl, z_bn, if_true, b6, lg_cmp_eq]
  rw [if_neg h30]
  by_cases h31 : x = 31
  · rw [if_pos h31]
    obtain ⟨r, w1, w2, e1, e2, e3⟩ := j31  w hJ
    refine ⟨w2, e3, ?_⟩
    simp only [] at e1 e2
    simp only [b1, b2, b3, b4, b5, e1, e2, z_cl, z_bn, if_true, b6, lg_cmp_eq]
  rw [if_neg h31]
  by_cases h32 : x = 32
  · rw [if_pos h32]
    obtain ⟨r, w1, w2, e1, e2, e3⟩ := j32 (xs (i + 1)) w hJ
    refine ⟨w2, e3, ?_⟩
    simp only [] at e1 e2
    simp only [b1, b2, b3, b4, b5, e1, e2, z_cl, z_bn, if_true, b6, lg_cmp_eq]
  rw [if_neg h32]
  by_cases h33 : x = 33
  · rw [if_pos h33]
    obtain ⟨r, w1, w2, e1, e2, e3⟩ := j33 (xs (i + 1)) (xs (i + 2)) (xs (i + 3)) w hJ
    refine ⟨w2, e3, ?_⟩
    simp only [] at e1 e2
    simp only [b1, b2, b3, b4, b5, e1, e2, z_cl, z_bn, if_true, b6, lg_cmp_eq]
  rw [if_neg h33]
  by_cases h34 : x = 34
  · rw [if_pos h34]
    obtain ⟨r, w1, w2, e1, e2, e3⟩ := j34 (xs (i + 1)) w hJ
    refine ⟨w2, e3, ?_⟩
    simp only [] at e1 e2
    simp only [b1, b2, b3, b4, b5, e1, e2, z_cl, z_bn, if_true, b6, lg_cmp_eq]
  rw [if_neg h34]
  by_cases h35 : x = 35
  · rw [if_pos h35]
    obtain ⟨r, w1, w2, e1, e2, e3⟩ := j35 (xs (i + 1)) (xs (i + 2)) w hJ
    refine ⟨w2, e3, ?_⟩
    simp only [] at e1 e2
    simp only [b1, b2, b3, b4, b5, e1, e2, z_cl, z_bn, if_true, b6, lg_cmp_eq]
  rw [if_neg h35]
  by_cases h36 : x = 36
  · rw [if_pos h36]
    obtain ⟨r, w1, w2, e1, e2, e3⟩ := j36 (xs (i + 1)) (xs (i + 2)) (xs (i + 3)) w hJ
    refine ⟨w2, e3, ?_⟩
    simp only [] at e1 e2
    simp only [b1, b2, b3, b4, b5, e1, e2, z_cl, z_bn, if_true, b6, lg_cmp_eq]
  rw [if_neg h36]
  by_cases h37 : x = 37
  · rw [if_pos h37]
    obtain ⟨r, w1, w2, e1, e2, e3⟩ := j37 (xs (i + 1)) (xs (i + 2)) ((Int32.toInt64 (xs (i + 3)) <<< (Int32.toInt64 32 &&& 63)) ||| (Int32.toInt64 (xs (i + 4)) &&& 4294967295)) w hJ
    refine ⟨w2, e3, ?_⟩
    simp only [] at e1 e2
    simp only [b1, b2, b3, b4, b5, e1, e2, z_cl, z_bn, if_true, b6, lg_cmp_eq]
  rw [if_neg h37]
  by_cases h38 : x = 38
  · rw [if_pos h38]
    obtain ⟨r, w1, w2, e1, e2, e3⟩ := j38 (xs (i + 1)) (xs (i + 2)) w hJ
    refine ⟨w2, e3, ?_⟩
    simp only [] at e1 e2
    simp only [b1, b2, b3, b4, b5, e1, e2, z_cl, z_bn, if_true, b6, lg_cmp_eq]
  rw [if_neg h38]
  by_cases h39 : x = 39
  · rw [if_pos h39]
    obtain ⟨r, w1, w2, e1, e2, e3⟩ := j39 (xs (i + 1)) (xs (i + 2)) (xs (i + 3)) (xs (i + 4)) (xs (i + 5)) w hJ
    refine ⟨w2, e3, ?_⟩
    simp only [] at e1 e2
    simp only [b1, b2, b3, b4, b5, e1, e2, z_cl, z_bn, if_true, b6, lg_cmp_eq]
  rw [if_neg h39]
  by_cases h40 : x = 40
  · rw [if_pos h40]
    obtain ⟨r, w1, w2, e1, e2, e3⟩ := j40 (xs (i + 1)) (xs (i + 2)) w hJ
    refine ⟨w2, e3, ?_⟩
    simp only [] at e1 e2
    simp only [b1, b2, b3, b4, b5, e1, e2, z_cl, z_bn, if_true, b6, lg_cmp_eq]
  rw [if_neg h40]
  by_cases h41 : x = 41
  · rw [if_pos h41]
    obtain ⟨r, w1, w2, e1, e2, e3⟩ := j41 (xs (i + 1)) w hJ
    refine ⟨w2, e3, ?_⟩
    simp only [] at e1 e2
    simp only [b1, b2, b3, b4, b5, e1, e2, z_cl, z_bn, if_true, b6, lg_cmp_eq]
  rw [if_neg h41]
  exact ⟨w, hJ, by simp only [z_bn, b6]⟩
theorem j_run (hall : j_all) {xs : Nat → Int32} {Lz : Nat} (hz : Lz ≤ 3072) : ∀ (fuel i : Nat) (w : qW), Jn w → i ≤ Lz + 6 → Lz + 7 ≤ i + fuel → ∃ w2, f_L_law_R18 xs Lz fuel w (nI i) = some (1, w2)
  | 0, i, w, _, h1, h2 => by omega
  | fuel + 1, i, w, hJ, h1, h2 => by
    show ∃ w2, f_L_law_B18 xs Lz (f_L_law_R18 xs Lz fuel) w (nI i) = some (1, w2)
    by_cases hi : i + 6 ≤ Lz
    · obtain ⟨w2, g1, g2⟩ := j_turn hall hz hi w hJ (f_L_law_R18 xs Lz fuel)
      rw [g2]
      exact j_run hall hz fuel (i + 6) w2 g1 (by omega) (by omega)
    · refine ⟨w, ?_⟩
      unfold f_L_law_B18
      rw [if_pos]
      have h6 : (6 : Int32).toInt = 6 := by decide
      have hL : (Int32.ofNat Lz).toInt = Lz := nI_toInt (by omega)
      rw [z_lt, t_sub _ _ (by rw [hL, h6]; omega) (by rw [hL, h6]; omega), hL, h6, nI_toInt (by omega)]
      omega
theorem pure_of_ops (hall : j_all) : q_PureOK := by
  intro xs Lz hz
  exact j_run hall hz q_fuel 0 q_w0 Jn_0 (by omega) (by show Lz + 7 ≤ 0 + 4096; omega)
