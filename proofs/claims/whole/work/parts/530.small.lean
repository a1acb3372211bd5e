theorem c0 : (0 : Int32).toInt = 0 := by decide
theorem c1 : (1 : Int32).toInt = 1 := by decide
theorem cm1 : (-1 : Int32).toInt = -1 := by decide
theorem c2 : (2 : Int32).toInt = 2 := by decide
theorem c3 : (3 : Int32).toInt = 3 := by decide
theorem c4 : (4 : Int32).toInt = 4 := by decide
theorem c5 : (5 : Int32).toInt = 5 := by decide
theorem c6 : (6 : Int32).toInt = 6 := by decide
theorem c7 : (7 : Int32).toInt = 7 := by decide
theorem c8 : (8 : Int32).toInt = 8 := by decide
theorem c12 : (12 : Int32).toInt = 12 := by decide
theorem c24 : (24 : Int32).toInt = 24 := by decide
theorem c50 : (50 : Int32).toInt = 50 := by decide
theorem c60 : (60 : Int32).toInt = 60 := by decide
theorem d0 : (0 : Int64).toInt = 0 := by decide
theorem d1 : (1 : Int64).toInt = 1 := by decide
theorem d2 : (2 : Int64).toInt = 2 := by decide
theorem d4 : (4 : Int64).toInt = 4 := by decide
theorem d5 : (5 : Int64).toInt = 5 := by decide
theorem d7 : (7 : Int64).toInt = 7 := by decide
theorem b2i_t : b2i true = 1 := rfl
theorem b2i_f : b2i false = 0 := rfl
theorem i10 : ((1 : Int32) = 0) = False := by decide
theorem p_count : j_count := by
  intro a w hJ
  obtain ⟨⟨-, -, h1, h2, -⟩, ⟨-, h3, -, -⟩, -, ⟨-, h4, h5, -⟩, -, ⟨-, h6, -⟩, -⟩ := id hJ
  have e : f_X11_count w a = f_X10_count w a := by
    unfold f_X11_count f_X10_count
    rw [h1, h2, h3, h4, h5, h6]
  have v : ∃ r, f_X10_count w a = some (r, w) := by
    unfold f_X10_count
    repeat' split
    all_goals exact ⟨_, rfl⟩
  obtain ⟨r, hr⟩ := v
  exact ⟨r, w, w, hr, e.trans hr, hJ⟩
theorem p_led : j_led := by
  intro a w hJ
  obtain ⟨-, -, ⟨h1, h2, -⟩, -⟩ := id hJ
  show ∃ r w1 w2, f_X10_led w a = some (r, w1) ∧ f_X11_led w1 a = some (r, w2) ∧ Jn w2
  by_cases ha : 0 ≤ a.toInt ∧ a.toInt < 6
  · have e1 : f_X10_led w a = some (q_A w 27 a.toInt.toNat, w) := by
      unfold f_X10_led f_X2_told
      rw [p_choice]
      simp only [z_cl, c6, ha.1, ha.2, decide_true, Bool.and_self, b2i_t, i10, if_false]
      rw [if_neg (by rw [z_lt, c0]; omega), if_neg (by rw [z_le, show (Int32.ofNat 6).toInt = 6 by decide]; omega), z_ld _ _ _ _ ⟨ha.1, ha.2⟩]
      rfl
    by_cases h5 : a.toInt = 5
    · refine ⟨_, w, w, e1, ?_, hJ⟩
      unfold f_X11_led
      rw [p_within32]
      simp only [d0, d4, z_cl, show ¬ a.toInt ≤ 4 by omega, decide_false, Bool.and_false, b2i_f, if_true]
      rw [if_pos (by rw [z_eq, c5]; exact h5), h5, ← h2]
      rfl
    · refine ⟨_, w, w, e1, ?_, hJ⟩
      unfold f_X11_led
      rw [p_within32]
      simp only [d0, d4, z_cl, show a.toInt ≤ 4 by omega, ha.1, decide_true, Bool.and_self, b2i_t, i10, if_false]
      rw [z_ld _ _ _ _ ⟨ha.1, by omega⟩, h1 a.toInt.toNat (by omega)]
  · refine ⟨-1, w, w, ?_, ?_, hJ⟩
    · unfold f_X10_led
      rw [p_choice]
      have : (decide (0 ≤ a.toInt) && decide (a.toInt < (6 : Int32).toInt)) = false := by rw [c6]; simp; omega
      rw [this]
      rfl
    · unfold f_X11_led
      rw [p_within32]
      have : (decide ((0 : Int64).toInt ≤ a.toInt) && decide (a.toInt ≤ (4 : Int64).toInt)) = false := by rw [d0, d4]; simp; omega
      rw [this]
      simp only [z_cl, b2i_f, if_true]
      rw [if_neg (by rw [z_eq, c5]; omega)]
theorem p_trace : j_trace := by
  intro a w hJ
  obtain ⟨-, -, -, ⟨-, -, h5, -, h6, -⟩, -⟩ := id hJ
  show ∃ r w1 w2, f_X10_trace w a = some (r, w1) ∧ f_X11_trace w1 a = some (r, w2) ∧ Jn w2
  have e : f_X11_trace w a = f_X8_traced w a := by
    unfold f_X11_trace f_X8_traced
    rw [h5, h6]
  have v : ∃ r, f_X8_traced w a = some (r, w) := by
    unfold f_X8_traced
    by_cases g1 : a < 0
    · rw [if_pos g1]; exact ⟨_, rfl⟩
    · rw [if_neg g1]
      by_cases g2 : q_I w 32 3 ≤ a
      · rw [if_pos g2]; exact ⟨_, rfl⟩
      · rw [if_neg g2]
        by_cases g3 : 24 ≤ a
        · rw [if_pos g3]; exact ⟨_, rfl⟩
        · rw [if_neg g3]
          rw [z_lt, c0] at g1
          rw [z_le, c24] at g3
          rw [z_ld _ _ _ _ ⟨by omega, by omega⟩]
          exact ⟨_, rfl⟩
  obtain ⟨r, hr⟩ := v
  refine ⟨r, w, w, ?_, e.trans hr, hJ⟩
  unfold f_X10_trace
  rw [hr]
  rfl
theorem p_body : j_body := by
  intro a w hJ
  obtain ⟨hP, hC, hD, ⟨h1, h2, h3, h4, h5, h6⟩, hS, hL, hR⟩ := id hJ
  show ∃ r w1 w2, f_X10_body w a = some (r, w1) ∧ f_X11_body w1 a = some (r, w2) ∧ Jn w2
  by_cases ha : 0 ≤ a.toInt ∧ a.toInt < 8
  · by_cases hp : (q_I w 32 1).toInt < 50
    · have e1 : f_X10_body w a = some (q_I w 32 1 + 1 - 1, q_sI (q_sA w 33 (upd (q_A w 33) (q_I w 32 1).toInt.toNat a)) 32 1 (q_I w 32 1 + 1)) := by
        unfold f_X10_body f_X8_plant
        rw [p_choice]
        simp only [z_cl, c8, ha.1, ha.2, decide_true, Bool.and_self, b2i_t, i10, if_false]
        rw [if_pos (by rw [z_lt, c50]; exact hp), z_st _ _ _ _ _ _ ⟨h1.1, hp⟩]
        rfl
      refine ⟨_, _, q_sI (q_sA (q_sI (q_sA w 33 (upd (q_A w 33) (q_I w 32 1).toInt.toNat a)) 32 1 (q_I w 32 1 + 1)) 61 (upd (q_A w 61) (q_I w 48 28).toInt.toNat a)) 48 28 (q_I w 48 28 + 1), e1, ?_, ?_⟩
      · unfold f_X11_body
        rw [p_within32]
        simp only [d0, d7, z_cl, ha.1, show a.toInt ≤ 7 by omega, decide_true, Bool.and_self, b2i_t, i10, if_false]
        have hq : q_I (q_sI (q_sA w 33 (upd (q_A w 33) (q_I w 32 1).toInt.toNat a)) 32 1 (q_I w 32 1 + 1)) 48 28 = q_I w 48 28 := rfl
        rw [hq, h2, if_neg (by rw [z_eq, c50]; omega), z_st _ _ _ _ _ _ ⟨h1.1, hp⟩]
        simp only [z_bn]
        rw [show q_I (q_sA (q_sI (q_sA w 33 (upd (q_A w 33) (q_I w 32 1).toInt.toNat a)) 32 1 (q_I w 32 1 + 1)) 61 (upd (q_A (q_sI (q_sA w 33 (upd (q_A w 33) (q_I w 32 1).toInt.toNat a)) 32 1 (q_I w 32 1 + 1)) 61) (q_I w 32 1).toInt.toNat a)) 48 28 = q_I w 48 28 from rfl, h2]
        rfl
      · have hpl : (q_I w 32 1 + 1).toInt = (q_I w 32 1).toInt + 1 := by rw [t_add _ _ (by rw [c1]; omega) (by rw [c1]; omega), c1]
        refine ⟨hP, hC, hD, ⟨⟨?_, ?_⟩, ?_, h3, ?_, h5, ?_⟩, ?_, hL, hR⟩
        · show 0 ≤ (q_I w 32 1 + 1).toInt
          omega
        · show (q_I w 32 1 + 1).toInt ≤ 50
          omega
        · show q_I w 48 28 + 1 = q_I w 32 1 + 1
          rw [h2]
        · show upd (q_A w 61) (q_I w 48 28).toInt.toNat a = upd (q_A w 33) (q_I w 32 1).toInt.toNat a
          rw [h2, h4]
        · intro j hj
          have hj : (j : Int) < (q_I w 32 1 + 1).toInt := hj
          show 0 ≤ (upd (q_A w 33) (q_I w 32 1).toInt.toNat a j).toInt ∧ (upd (q_A w 33) (q_I w 32 1).toInt.toNat a j).toInt ≤ 7
          unfold upd
          by_cases hz : j = (q_I w 32 1).toInt.toNat
          · rw [if_pos hz]; omega
          · rw [if_neg hz]; exact h6 j (by omega)
        · have key : ∀ {tr so sz sh mn : Int32} {el it : Nat → Int64}, jS1 (q_I w 32 1) tr so sz sh mn el it → jS1 (q_I w 32 1 + 1) tr so sz sh mn el it := by
            intro tr so sz sh mn el it h
            obtain ⟨g1, g2⟩ := h
            refine ⟨?_, g2⟩
            rcases g1 with g1 | ⟨g3, g4, g5⟩ | g1
            · exact Or.inl g1
            · exact Or.inr (Or.inl ⟨g3, by omega, g5⟩)
            · exact Or.inr (Or.inr g1)
          obtain ⟨s0, s1, s2, s3, s4, s5⟩ := hS
          exact ⟨key s0, key s1, key s2, key s3, key s4, key s5⟩
    · refine ⟨-3, w, w, ?_, ?_, hJ⟩
      · unfold f_X10_body f_X8_plant
        rw [p_choice]
        simp only [z_cl, c8, ha.1, ha.2, decide_true, Bool.and_self, b2i_t, i10, if_false]
        rw [if_neg (by rw [z_lt, c50]; exact hp)]
        rfl
      · unfold f_X11_body
        rw [p_within32]
        simp only [d0, d7, z_cl, ha.1, show a.toInt ≤ 7 by omega, decide_true, Bool.and_self, b2i_t, i10, if_false]
        rw [h2, if_pos (by rw [z_eq, c50]; omega)]
  · refine ⟨-1, w, w, ?_, ?_, hJ⟩
    · unfold f_X10_body
      rw [p_choice]
      have : (decide (0 ≤ a.toInt) && decide (a.toInt < (8 : Int32).toInt)) = false := by rw [c8]; simp; omega
      rw [this]
      rfl
    · unfold f_X11_body
      rw [p_within32]
      have : (decide ((0 : Int64).toInt ≤ a.toInt) && decide (a.toInt ≤ (7 : Int64).toInt)) = false := by rw [d0, d7]; simp; omega
      rw [this]
      rfl
