/-! a step -/
def cavY (y x : Int32) : Int32 := if x < 0 then -1 else if 12 ≤ x then -1 else if y < 0 then -1 else if y < 12 then (12 : Int32) * y + x else -1
def cav (c way : Int32) : Int32 := cavY (c / 12 + (if way = 2 then 1 else if way = 0 then -1 else 0)) (q_rem c 12 + (if way = 1 then 1 else if way = 3 then -1 else 0))
theorem p_cellAfter (w : qW) (c way : Int32) : f_X10_cellAfter w c way = some (cav c way, w) := by
  have key : ∀ (x y : Int32), (if x < 0 then (some ((-1 : Int32), w)) else (if 12 ≤ x then (some ((-1), w)) else (if y < 0 then (some ((-1), w)) else (if y < 12 then (some (((12 : Int32) * y) + x, w)) else (some ((-1), w)))))) = some (cavY y x, w) := by
    intro x y
    unfold cavY
    repeat' split
    all_goals rfl
  unfold f_X10_cellAfter f_X10_cellAfter_B23 f_X10_cellAfter_B47 f_X10_cellAfter_B69 cav
  simp only [z_bn, key]
  by_cases h1 : way = 1
  · rw [if_pos h1, if_pos h1]
    by_cases h2 : way = 2
    · rw [if_pos h2, if_pos h2]
    · rw [if_neg h2, if_neg h2]
      by_cases h3 : way = 0
      · rw [if_pos h3, if_pos h3]
      · rw [if_neg h3, if_neg h3]
  · rw [if_neg h1, if_neg h1]
    by_cases h4 : way = 3
    · rw [if_pos h4, if_pos h4]
      by_cases h2 : way = 2
      · rw [if_pos h2, if_pos h2]
      · rw [if_neg h2, if_neg h2]
        by_cases h3 : way = 0
        · rw [if_pos h3, if_pos h3]
        · rw [if_neg h3, if_neg h3]
    · rw [if_neg h4, if_neg h4]
      by_cases h2 : way = 2
      · rw [if_pos h2, if_pos h2]
      · rw [if_neg h2, if_neg h2]
        by_cases h3 : way = 0
        · rw [if_pos h3, if_pos h3]
        · rw [if_neg h3, if_neg h3]
theorem d11 : (11 : Int64).toInt = 11 := by decide
theorem p_stepFrom (w : qW) (c way : Int32) : f_X11_stepFrom w c way = some (if way = 4 then c else cav c way, w) := by
  have key : ∀ (x y : Int32), (q_cl (f_X11_within w (Int32.toInt64 x) 0 11) (fun r2 w3 => if r2 = 0 then (some ((-1), w3)) else (q_cl (f_X11_within w3 (Int32.toInt64 y) 0 11) (fun r4 w5 => if r4 = 0 then (some ((-1), w5)) else (some (((12 : Int32) * y) + x, w5)))))) = some (cavY y x, w) := by
    intro x y
    unfold cavY
    rw [p_within32, z_cl, d0, d11]
    by_cases h1 : x.toInt < 0
    · rw [if_pos (show x < 0 by rw [z_lt, c0]; exact h1), decide_eq_false (show ¬ 0 ≤ x.toInt by omega)]
      rfl
    · rw [if_neg (show ¬ x < 0 by rw [z_lt, c0]; exact h1)]
      by_cases h2 : 12 ≤ x.toInt
      · rw [if_pos (show 12 ≤ x by rw [z_le, c12]; exact h2), decide_eq_false (show ¬ x.toInt ≤ 11 by omega), Bool.and_false]
        rfl
      · rw [if_neg (show ¬ 12 ≤ x by rw [z_le, c12]; exact h2), decide_eq_true (show 0 ≤ x.toInt by omega), decide_eq_true (show x.toInt ≤ 11 by omega), Bool.and_self, b2i_t, if_neg n1_0, p_within32, z_cl, d0, d11]
        by_cases h3 : y.toInt < 0
        · rw [if_pos (show y < 0 by rw [z_lt, c0]; exact h3), decide_eq_false (show ¬ 0 ≤ y.toInt by omega)]
          rfl
        · rw [if_neg (show ¬ y < 0 by rw [z_lt, c0]; exact h3), decide_eq_true (show 0 ≤ y.toInt by omega)]
          by_cases h4 : y.toInt < 12
          · rw [if_pos (show y < 12 by rw [z_lt, c12]; exact h4), decide_eq_true (show y.toInt ≤ 11 by omega), Bool.and_self, b2i_t, if_neg n1_0]
          · rw [if_neg (show ¬ y < 12 by rw [z_lt, c12]; exact h4), decide_eq_false (show ¬ y.toInt ≤ 11 by omega), Bool.and_false]
            rfl
  unfold f_X11_stepFrom f_X11_stepFrom_B30 f_X11_stepFrom_B54 cav
  simp only [z_bn, key]
  by_cases h0 : way = 4
  · rw [if_pos h0, if_pos h0]
  · rw [if_neg h0, if_neg h0]
    by_cases h2 : way = 2
    · subst h2; rfl
    · rw [if_neg h2]
      by_cases h3 : way = 0
      · subst h3; rfl
      · rw [if_neg h3]
        by_cases h1 : way = 1
        · subst h1; rfl
        · rw [if_neg h1, if_neg h1]
          by_cases h4 : way = 3
          · subst h4; rfl
          · rw [if_neg h4, if_neg h4, if_neg h3, if_neg h2, if_neg h2, if_neg h3]
theorem cav_range : ∀ c : Nat, c < 144 → ∀ y : Nat, y < 5 → (cav (nI c) (nI y) = -1 ∨ (0 ≤ (cav (nI c) (nI y)).toInt ∧ (cav (nI c) (nI y)).toInt ≤ 143)) := by decide +kernel
theorem cav_4 : ∀ c : Nat, c < 144 → cav (nI c) 4 = nI c := by decide +kernel
theorem p_steps : j_steps := by
  intro n way w hJ
  show ∃ r w1 w2, f_X10_steps w n way = some (r, w1) ∧ f_X11_steps w1 n way = some (r, w2) ∧ Jn w2
  obtain ⟨h1, h2, h3, h4, h5⟩ := hJ.1
  obtain ⟨l1, l2, -⟩ := hJ.2.2.1
  by_cases hn : 0 ≤ n.toInt ∧ n.toInt < (q_I w 1 1).toInt
  · have hp0 := (has_men (w := w) (n := n) 0 (by omega)).mpr hn
    have a1 : f_X4_has w n 0 = some (1, w) := p_has_t hp0
    by_cases hw : 0 ≤ way.toInt ∧ way.toInt < 4
    · obtain ⟨g1, g2, g3, g4, g5⟩ := pIx_spec h1.2 h2.2 hp0
      have hix : pIx n (nI 0) = n.toInt.toNat := by show 8 * 0 + n.toInt.toNat = _; omega
      generalize hi : pIx n (nI 0) = i at *
      obtain ⟨v1, v2, v3⟩ := h5 i g2
      have hi8 : i / 8 = 0 := g4
      rw [hi8] at v2 v3
      have v2 : 0 ≤ (q_A w 2 i).toInt := v2
      have v3 : (q_A w 2 i).toInt ≤ 143 := v3
      have a2 : f_X4_get w n 0 = some (q_A w 2 i, w) := by rw [← hi]; exact p_get_t h1.2 h2.2 hp0
      have hw5 : (decide ((0 : Int64).toInt ≤ way.toInt) && decide (way.toInt ≤ (3 : Int64).toInt)) = true := by rw [d0, d3]; simp; omega
      have hin : n.toInt = (i : Int) := by omega
      have hwn : ¬ way = 4 := by rw [z_eq, c4]; omega
      have hr : cav (q_A w 2 i) way = -1 ∨ (0 ≤ (cav (q_A w 2 i) way).toInt ∧ (cav (q_A w 2 i) way).toInt ≤ 143) := by
        have := cav_range (q_A w 2 i).toInt.toNat (by omega) way.toInt.toNat (by omega)
        rw [← z_nI _ v2, ← z_nI _ hw.1] at this
        exact this
      generalize hcv : cav (q_A w 2 i) way = cv at hr
      have m0 : ∀ w1 : qW, q_A w1 49 = q_A w 49 → q_I w1 48 6 = q_I w 1 1 → f_X11_steps w1 n way = (if 0 ≤ cv then (q_st w1 49 57 n cv (fun w8 => q_ld (q_A w8 56) 5 1 (fun v9 => q_st w8 56 5 1 (v9 + 1) (fun w10 => some (cv, w10))))) else (some ((-5), w1))) := by
        intro w1 m49 m6
        unfold f_X11_steps
        rw [p_isMan _ _ (by rw [m6]; omega), z_cl, m6, decide_eq_true hn.1, decide_eq_true hn.2, Bool.and_self, b2i_t, if_neg n1_0, p_within32, z_cl, hw5, b2i_t, if_neg n1_0, z_ld _ _ _ _ (by rw [hin]; omega), p_stepFrom, z_cl, if_neg hwn, m49, show n.toInt.toNat = i by omega, ← v1, hcv]
      rcases hr with hr | hr
      · refine ⟨-5, w, w, ?_, ?_, hJ⟩
        · unfold f_X10_steps f_X2_manSteps
          rw [a1, z_cl, if_neg n1_0, p_choice, z_cl, c4, decide_eq_true hw.1, decide_eq_true hw.2, Bool.and_self, b2i_t, if_neg n1_0, a2, z_cl, p_cellAfter, z_cl, hcv, hr]
          rfl
        · rw [m0 w rfl h3, hr]
          rfl
      · have hpos : 0 ≤ cv := by rw [z_le, c0]; exact hr.1
        have e1 : f_X10_steps w n way = some (cv, q_sA (q_sA w 2 (upd (q_A w 2) i cv)) 27 (upd (q_A w 27) 1 (q_A w 27 1 + 1))) := by
          unfold f_X10_steps f_X2_manSteps
          have a3 : f_X4_set w n 0 cv = some ((), q_sA w 2 (upd (q_A w 2) i cv)) := by rw [← hi]; exact p_set_t h1.2 h2.2 hp0
          rw [a1, z_cl, if_neg n1_0, p_choice, z_cl, c4, decide_eq_true hw.1, decide_eq_true hw.2, Bool.and_self, b2i_t, if_neg n1_0, a2, z_cl, p_cellAfter, z_cl, hcv, if_pos hpos, a3, z_cl]
          rfl
        generalize hw1 : q_sA (q_sA w 2 (upd (q_A w 2) i cv)) 27 (upd (q_A w 27) 1 (q_A w 27 1 + 1)) = w1 at e1
        have m49 : q_A w1 49 = q_A w 49 := by rw [← hw1]; rfl
        have m56 : q_A w1 56 = q_A w 56 := by rw [← hw1]; rfl
        have m6 : q_I w1 48 6 = q_I w 1 1 := by rw [← hw1]; exact h3
        refine ⟨cv, w1, q_sA (q_sA w1 49 (upd (q_A w1 49) i cv)) 56 (upd (q_A w1 56) 1 (q_A w1 56 1 + 1)), e1, ?_, ?_⟩
        · rw [m0 w1 m49 m6, if_pos hpos, z_st _ _ _ _ _ _ (by rw [hin]; omega), show n.toInt.toNat = i by omega, z_ld _ _ _ _ (by rw [c1]; omega), z_st _ _ _ _ _ _ (by rw [c1]; omega)]
          rfl
        · have j1 := Jn_num (i := i) (v := cv) hJ (by rw [hi8]; exact hr)
          have j2 := Jn_led (i := 1) (v := q_A w 27 1 + 1) j1 (by omega)
          rw [← hw1]
          have e3 : q_A w 56 1 + 1 = q_A w 27 1 + 1 := by rw [l1 1 (by omega)]
          show Jn (q_sA (q_sA (q_sA (q_sA w 2 (upd (q_A w 2) i cv)) 27 (upd (q_A w 27) 1 (q_A w 27 1 + 1))) 49 (upd (q_A w 49) i cv)) 56 (upd (q_A w 56) 1 (q_A w 56 1 + 1)))
          rw [e3, sA_comm _ 27 49 _ _ (by omega)]
          exact j2
    · have hb1 : (decide (0 ≤ way.toInt) && decide (way.toInt < (4 : Int32).toInt)) = false := by rw [c4]; simp; omega
      have hb2 : (decide ((0 : Int64).toInt ≤ way.toInt) && decide (way.toInt ≤ (3 : Int64).toInt)) = false := by rw [d0, d3]; simp; omega
      refine ⟨-1, w, w, ?_, ?_, hJ⟩
      · unfold f_X10_steps
        rw [a1, z_cl, if_neg n1_0, p_choice, z_cl, hb1]
        rfl
      · unfold f_X11_steps
        rw [p_isMan _ _ (by rw [h3]; omega), z_cl, h3, decide_eq_true hn.1, decide_eq_true hn.2, Bool.and_self, b2i_t, if_neg n1_0, p_within32, z_cl, hb2]
        rfl
  · refine ⟨-1, w, w, ?_, ?_, hJ⟩
    · unfold f_X10_steps
      have a1 : f_X4_has w n 0 = some (0, w) := p_has_f (fun q => hn ((has_men (w := w) (n := n) 0 (by omega)).mp q))
      rw [a1]
      rfl
    · unfold f_X11_steps
      have hb : (decide (0 ≤ n.toInt) && decide (n.toInt < (q_I w 1 1).toInt)) = false := by simp; omega
      rw [p_isMan _ _ (by rw [h3]; omega), z_cl, h3, hb]
      rfl
