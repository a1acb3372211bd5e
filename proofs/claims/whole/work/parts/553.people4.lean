theorem jvI_mono {m1 s1 m2 s2 : Int32} {i : Nat} (hm : m1.toInt ≤ m2.toInt) (hs : s1.toInt ≤ s2.toInt) (h : jvI m1 s1 i) : jvI m2 s2 i := by
  rcases h with ⟨h1, h2⟩ | ⟨h1, h2, h3⟩ | h
  · exact Or.inl ⟨h1, by omega⟩
  · exact Or.inr (Or.inl ⟨h1, h2, by omega⟩)
  · exact Or.inr (Or.inr h)
theorem jC_mono {m1 s1 m2 s2 d a d2 a2 : Int32} {K x y z : Nat → Int32} (hm : m1.toInt ≤ m2.toInt) (hs : s1.toInt ≤ s2.toInt) (h : jC0 m1 s1 d a d2 a2 K x y z) : jC0 m2 s2 d a d2 a2 K x y z := by
  obtain ⟨h1, h2, h3, h4⟩ := h
  refine ⟨h1, h2, h3, fun i hi => ?_⟩
  obtain ⟨n, wh, g1, g2, g3, g4, g5, g6⟩ := h4 i hi
  exact ⟨n, wh, g1, g2, g3, g4, jvI_mono hm hs g5, g6⟩
theorem jD_mono {m1 s1 m2 s2 a b c a2 b2 c2 d e : Int32} {f1 f2 f3 f4 f5 g1 g2 g3 g4 g5 : Nat → Int32} (hm : m1.toInt ≤ m2.toInt) (hs : s1.toInt ≤ s2.toInt) (h : jD0 m1 s1 a b c a2 b2 c2 d e f1 f2 f3 f4 f5 g1 g2 g3 g4 g5) : jD0 m2 s2 a b c a2 b2 c2 d e f1 f2 f3 f4 f5 g1 g2 g3 g4 g5 := by
  obtain ⟨q1, q2, q3, q4, q5, q6, q7, q8, q9, q10⟩ := h
  exact ⟨q1, q2, q3, q4, q5, q6, q7, ⟨q8.1, by omega⟩, ⟨q9.1, by omega⟩, q10⟩
theorem d255 : (255 : Int64).toInt = 255 := by decide
theorem c255 : (255 : Int32).toInt = 255 := by decide
theorem c120 : (120 : Int32).toInt = 120 := by decide
theorem p_feed : j_feed := by
  intro a w hJ
  show ∃ r w1 w2, f_X10_feed w a = some (r, w1) ∧ f_X11_feed w1 a = some (r, w2) ∧ Jn w2
  obtain ⟨hP, hC, hD, hT, hS, ⟨h1, h2, h3, h4, h5⟩, hR⟩ := id hJ
  by_cases ha : 0 ≤ a.toInt ∧ a.toInt ≤ 255
  · have hb : (decide ((0 : Int64).toInt ≤ a.toInt) && decide (a.toInt ≤ (255 : Int64).toInt)) = true := by rw [d0, d255]; simp; omega
    by_cases hf : (q_I w 3 1).toInt < 120
    · have e1 : f_X10_feed w a = some (q_I w 3 1 + 1, q_sI (q_sA w 4 (upd (q_A w 4) (q_I w 3 1).toInt.toNat a)) 3 1 (q_I w 3 1 + 1)) := by
        unfold f_X10_feed f_X3_take
        rw [if_neg (by rw [z_lt, c0]; omega), if_pos (by rw [z_le, c255]; exact ha.2), if_pos (by rw [z_lt, c120]; exact hf), z_st _ _ _ _ _ _ ⟨h1.1, hf⟩]
        rfl
      generalize hw1 : q_sI (q_sA w 4 (upd (q_A w 4) (q_I w 3 1).toInt.toNat a)) 3 1 (q_I w 3 1 + 1) = w1 at e1
      have m9 : q_I w1 48 9 = q_I w 3 1 := by rw [← hw1]; exact h2
      have m53 : q_A w1 53 = q_A w 4 := by rw [← hw1]; exact h3
      refine ⟨_, w1, q_sI (q_sA w1 53 (upd (q_A w 4) (q_I w 3 1).toInt.toNat a)) 48 9 (q_I w 3 1 + 1), e1, ?_, ?_⟩
      · unfold f_X11_feed
        rw [p_within32, z_cl, hb, b2i_t, if_neg n1_0, m9, if_neg (by rw [z_eq, c120]; omega), z_st _ _ _ _ _ _ ⟨h1.1, hf⟩, z_bn, m53, show q_I (q_sA w1 53 (upd (q_A w 4) (q_I w 3 1).toInt.toNat a)) 48 9 = q_I w1 48 9 from rfl, m9]
        rfl
      · rw [← hw1]
        have e3 : (q_I w 3 1 + 1).toInt = (q_I w 3 1).toInt + 1 := by rw [t_add _ _ (by rw [c1]; omega) (by rw [c1]; omega), c1]
        refine ⟨hP, hC, hD, hT, hS, ⟨⟨?_, ?_⟩, rfl, rfl, fun j hj => ?_, h5⟩, hR⟩
        · show 0 ≤ (q_I w 3 1 + 1).toInt; omega
        · show (q_I w 3 1 + 1).toInt ≤ 120; omega
        · have hj : (j : Int) < (q_I w 3 1 + 1).toInt := hj
          show 0 ≤ (upd (q_A w 4) (q_I w 3 1).toInt.toNat a j).toInt ∧ (upd (q_A w 4) (q_I w 3 1).toInt.toNat a j).toInt ≤ 255
          unfold upd
          by_cases hz : j = (q_I w 3 1).toInt.toNat
          · rw [if_pos hz]; exact ha
          · rw [if_neg hz]; exact h4 j (by omega)
    · refine ⟨-3, w, w, ?_, ?_, hJ⟩
      · unfold f_X10_feed f_X3_take
        rw [if_neg (by rw [z_lt, c0]; omega), if_pos (by rw [z_le, c255]; exact ha.2), if_neg (by rw [z_lt, c120]; exact hf)]
        rfl
      · unfold f_X11_feed
        rw [p_within32, z_cl, hb, b2i_t, if_neg n1_0, h2, if_pos (by rw [z_eq, c120]; omega)]
  · have hb : (decide ((0 : Int64).toInt ≤ a.toInt) && decide (a.toInt ≤ (255 : Int64).toInt)) = false := by rw [d0, d255]; simp; omega
    refine ⟨-1, w, w, ?_, ?_, hJ⟩
    · unfold f_X10_feed
      by_cases q : a.toInt < 0
      · rw [if_pos (by rw [z_lt, c0]; exact q)]
      · rw [if_neg (by rw [z_lt, c0]; exact q), if_neg (by rw [z_le, c255]; omega)]
    · unfold f_X11_feed
      rw [p_within32, z_cl, hb]
      rfl
theorem t_plus (k : Nat) (n : Int32) (hk : k < 1000) (h : 0 ≤ n.toInt ∧ n.toInt < 1000) : ((Int32.ofNat k) + n).toInt = k + n.toInt := by
  have e : (Int32.ofNat k).toInt = k := nI_toInt (by omega)
  rw [t_add _ _ (by rw [e]; omega) (by rw [e]; omega), e]
/-- four numbers of a new man -/
def pMan (N : Nat → Int32) (m : Nat) (c k : Int32) : Nat → Int32 := upd (upd (upd (upd N m c) (8 + m) k) (16 + m) 1) (24 + m) 10
theorem p_man : j_man := by
  intro c k w hJ
  show ∃ r w1 w2, f_X10_man w c k = some (r, w1) ∧ f_X11_man w1 c k = some (r, w2) ∧ Jn w2
  obtain ⟨⟨h1, h2, h3, h4, h5⟩, hC, hD, hT, hS, hL, hR⟩ := id hJ
  have hf0 : fitP 0 c ↔ 0 ≤ c.toInt ∧ c.toInt ≤ 143 := by
    have e : jlo ((0 : Int32).toInt.toNat) = 0 ∧ jhi ((0 : Int32).toInt.toNat) = 143 := by decide
    unfold fitP
    rw [e.1, e.2, c0]
    omega
  have hf1 : fitP 1 k ↔ 0 ≤ k.toInt ∧ k.toInt ≤ 2 := by
    have e : jlo ((1 : Int32).toInt.toNat) = 0 ∧ jhi ((1 : Int32).toInt.toNat) = 2 := by decide
    unfold fitP
    rw [e.1, e.2, c1]
    omega
  by_cases hc : 0 ≤ c.toInt ∧ c.toInt ≤ 143
  · by_cases hk : 0 ≤ k.toInt ∧ k.toInt ≤ 2
    · have hkb : (decide ((0 : Int64).toInt ≤ k.toInt) && decide (k.toInt ≤ (2 : Int64).toInt)) = true := by rw [d0, d2]; simp; omega
      by_cases hm : (q_I w 1 1).toInt < 7
      · generalize hme : q_I w 1 1 = men at *
        generalize hmn : men.toInt.toNat = m
        have hm1 : (men + 1).toInt = men.toInt + 1 := by rw [t_add _ _ (by rw [c1]; omega) (by rw [c1]; omega), c1]
        have hs : ∀ (f : Nat → Int32) (kk : Nat) (v : Int32), kk < 4 → f_X4_set (q_sA (q_sI w 1 1 (men + 1)) 2 f) men (nI kk) v = some ((), q_sA (q_sI w 1 1 (men + 1)) 2 (upd f (8 * kk + m) v)) := by
          intro f kk v hkk
          have hp : hasP (q_I (q_sA (q_sI w 1 1 (men + 1)) 2 f) 1 1) (q_I (q_sA (q_sI w 1 1 (men + 1)) 2 f) 1 2) men (nI kk) := by
            rw [has_men kk hkk]
            show 0 ≤ men.toInt ∧ men.toInt < (men + 1).toInt
            omega
          rw [p_set_t (w := q_sA (q_sI w 1 1 (men + 1)) 2 f) (show (men + 1).toInt ≤ 7 by omega) h2.2 hp, sA_two]
          have : pIx men (nI kk) = 8 * kk + m := by unfold pIx; rw [nI_toInt (by omega)]; omega
          rw [this]
          rfl
        have e1 : f_X10_man w c k = some (men, q_sA (q_sI w 1 1 (men + 1)) 2 (pMan (q_A w 2) m c k)) := by
          unfold f_X10_man f_X4_addMan
          rw [p_fits_t (hf0.mpr hc), z_cl, if_neg n1_0, p_fits_t (hf1.mpr hk), z_cl, if_neg n1_0, hme, if_pos (by rw [z_lt, c7]; exact hm), z_bn, z_bn]
          have s0 : f_X4_set (q_sI w 1 1 (men + 1)) men 0 c = some ((), q_sA (q_sI w 1 1 (men + 1)) 2 (upd (q_A w 2) m c)) := by
            have := hs (q_A w 2) 0 c (by omega)
            rw [show q_sA (q_sI w 1 1 (men + 1)) 2 (q_A w 2) = q_sI w 1 1 (men + 1) from sA_self (q_sI w 1 1 (men + 1)) 2, show 8 * 0 + m = m by omega] at this
            exact this
          have hs1 : ∀ (f : Nat → Int32) (v : Int32), f_X4_set (q_sA (q_sI w 1 1 (men + 1)) 2 f) men 1 v = some ((), q_sA (q_sI w 1 1 (men + 1)) 2 (upd f (8 * 1 + m) v)) := fun f v => hs f 1 v (by omega)
          have hs2 : ∀ (f : Nat → Int32) (v : Int32), f_X4_set (q_sA (q_sI w 1 1 (men + 1)) 2 f) men 2 v = some ((), q_sA (q_sI w 1 1 (men + 1)) 2 (upd f (8 * 2 + m) v)) := fun f v => hs f 2 v (by omega)
          have hs3 : ∀ (f : Nat → Int32) (v : Int32), f_X4_set (q_sA (q_sI w 1 1 (men + 1)) 2 f) men 3 v = some ((), q_sA (q_sI w 1 1 (men + 1)) 2 (upd f (8 * 3 + m) v)) := fun f v => hs f 3 v (by omega)
          rw [s0, z_cl, hs1, z_cl, hs2, z_cl, hs3, z_cl]
          rfl
        generalize hw1 : q_sA (q_sI w 1 1 (men + 1)) 2 (pMan (q_A w 2) m c k) = w1 at e1
        have m6 : q_I w1 48 6 = men := by rw [← hw1]; exact h3
        have m49 : q_A w1 49 = q_A w 49 := by rw [← hw1]; rfl
        refine ⟨men, w1, q_sI (q_sA w1 49 (pMan (q_A w 49) m c k)) 48 6 (men + 1), e1, ?_, ?_⟩
        · unfold f_X11_man
          have x8 := t_plus 8 men (by omega) ⟨h1.1, by omega⟩
          have x16 := t_plus 16 men (by omega) ⟨h1.1, by omega⟩
          have x24 := t_plus 24 men (by omega) ⟨h1.1, by omega⟩
          have i6 : ∀ f : Nat → Int32, q_I (q_sA w1 49 f) 48 6 = men := fun f => m6
          have a49 : ∀ f : Nat → Int32, q_A (q_sA w1 49 f) 49 = f := fun f => rfl
          rw [p_isCell, z_cl, decide_eq_true hc.1, decide_eq_true hc.2, Bool.and_self, b2i_t, if_neg n1_0, p_within32, z_cl, hkb, b2i_t, if_neg n1_0, m6, if_neg (by rw [z_eq, c7]; omega)]
          rw [z_st _ _ _ _ _ _ (by omega), i6, show ((8 : Int32)) = Int32.ofNat 8 from rfl, z_st _ _ _ _ _ _ (by rw [x8]; omega), sA_two, i6, a49, show ((16 : Int32)) = Int32.ofNat 16 from rfl, z_st _ _ _ _ _ _ (by rw [x16]; omega), sA_two, i6, a49, show ((24 : Int32)) = Int32.ofNat 24 from rfl, z_st _ _ _ _ _ _ (by rw [x24]; omega), sA_two, a49, i6, z_bn]
          have hsub : men + 1 - 1 = men := by rw [z_eq, t_sub _ _ (by rw [c1]; omega) (by rw [c1]; omega), c1, hm1]; omega
          rw [x8, x16, x24, hmn, show ((8 : Nat) + men.toInt : Int).toNat = 8 + m by omega, show ((16 : Nat) + men.toInt : Int).toNat = 16 + m by omega, show ((24 : Nat) + men.toInt : Int).toNat = 24 + m by omega, m49]
          show some (men + 1 - 1, _) = _
          rw [hsub]
          rfl
        · rw [← hw1]
          refine ⟨⟨⟨?_, ?_⟩, h2, rfl, h4, fun i hi => ?_⟩, jC_mono ?_ (Int.le_refl _) hC, jD_mono ?_ (Int.le_refl _) hD, hT, hS, hL, hR⟩
          · show 0 ≤ (men + 1).toInt; omega
          · show (men + 1).toInt ≤ 7; omega
          · have hi : jvI (men + 1) (q_I w 1 2) i := hi
            show pMan (q_A w 2) m c k i = pMan (q_A w 49) m c k i ∧ jlo (i / 8) ≤ (pMan (q_A w 2) m c k i).toInt ∧ (pMan (q_A w 2) m c k i).toInt ≤ jhi (i / 8)
            unfold pMan upd
            by_cases q4 : i = 24 + m
            · rw [if_pos q4, if_pos q4, show i / 8 = 3 by omega]
              exact ⟨rfl, by decide, by decide⟩
            · rw [if_neg q4, if_neg q4]
              by_cases q3 : i = 16 + m
              · rw [if_pos q3, if_pos q3, show i / 8 = 2 by omega]
                exact ⟨rfl, by decide, by decide⟩
              · rw [if_neg q3, if_neg q3]
                by_cases q2 : i = 8 + m
                · rw [if_pos q2, if_pos q2, show i / 8 = 1 by omega]
                  exact ⟨rfl, hk⟩
                · rw [if_neg q2, if_neg q2]
                  by_cases q1 : i = m
                  · rw [if_pos q1, if_pos q1, show i / 8 = 0 by omega]
                    exact ⟨rfl, hc⟩
                  · rw [if_neg q1, if_neg q1]
                    refine h5 i ?_
                    rcases hi with ⟨g1, g2⟩ | g | g
                    · exact Or.inl ⟨g1, by omega⟩
                    · exact Or.inr (Or.inl g)
                    · exact Or.inr (Or.inr g)
          · show (q_I w 1 1).toInt ≤ (men + 1).toInt; rw [hme]; omega
          · show (q_I w 1 1).toInt ≤ (men + 1).toInt; rw [hme]; omega
      · refine ⟨-3, w, w, ?_, ?_, hJ⟩
        · unfold f_X10_man f_X4_addMan
          rw [p_fits_t (hf0.mpr hc), z_cl, if_neg n1_0, p_fits_t (hf1.mpr hk), z_cl, if_neg n1_0, if_neg (by rw [z_lt, c7]; exact hm)]
          rfl
        · unfold f_X11_man
          rw [p_isCell, z_cl, decide_eq_true hc.1, decide_eq_true hc.2, Bool.and_self, b2i_t, if_neg n1_0, p_within32, z_cl, hkb, b2i_t, if_neg n1_0, h3, if_pos (by rw [z_eq, c7]; omega)]
    · have hkb : (decide ((0 : Int64).toInt ≤ k.toInt) && decide (k.toInt ≤ (2 : Int64).toInt)) = false := by rw [d0, d2]; simp; omega
      refine ⟨-1, w, w, ?_, ?_, hJ⟩
      · unfold f_X10_man
        rw [p_fits_t (hf0.mpr hc), z_cl, if_neg n1_0, p_fits_f (fun q => hk (hf1.mp q))]
        rfl
      · unfold f_X11_man
        rw [p_isCell, z_cl, decide_eq_true hc.1, decide_eq_true hc.2, Bool.and_self, b2i_t, if_neg n1_0, p_within32, z_cl, hkb]
        rfl
  · have hcb : (decide (0 ≤ c.toInt) && decide (c.toInt ≤ 143)) = false := by simp; omega
    refine ⟨-1, w, w, ?_, ?_, hJ⟩
    · unfold f_X10_man
      rw [p_fits_f (fun q => hc (hf0.mp q))]
      rfl
    · unfold f_X11_man
      rw [p_isCell, hcb]
      rfl
