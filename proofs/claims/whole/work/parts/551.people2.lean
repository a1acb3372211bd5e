theorem sA_comm (w : qW) (o p : Nat) (f g : Nat → Int32) (h : ¬ o = p) : q_sA (q_sA w o f) p g = q_sA (q_sA w p g) o f := by
  have : (fun a => if a = p then g else if a = o then f else w.2.2.1 a) = (fun a => if a = o then f else if a = p then g else w.2.2.1 a) := by
    funext a
    by_cases h1 : a = p
    · have h2 : ¬ a = o := fun q => h (q.symm.trans h1)
      rw [if_pos h1, if_neg h2, if_pos h1]
    · rw [if_neg h1, if_neg h1]
  show (w.1, w.2.1, (fun a => if a = p then g else if a = o then f else w.2.2.1 a), w.2.2.2) = _
  rw [this]
  rfl
theorem Jn_num {w : qW} (hJ : Jn w) {i : Nat} {v : Int32} (hv : jlo (i / 8) ≤ v.toInt ∧ v.toInt ≤ jhi (i / 8)) : Jn (q_sA (q_sA w 2 (upd (q_A w 2) i v)) 49 (upd (q_A w 49) i v)) := by
  obtain ⟨⟨h1, h2, h3, h4, h5⟩, hC, hD, hT, hS, hL, hR⟩ := hJ
  refine ⟨⟨h1, h2, h3, h4, fun j hj => ?_⟩, hC, hD, hT, hS, hL, hR⟩
  show upd (q_A w 2) i v j = upd (q_A w 49) i v j ∧ jlo (j / 8) ≤ (upd (q_A w 2) i v j).toInt ∧ (upd (q_A w 2) i v j).toInt ≤ jhi (j / 8)
  unfold upd
  by_cases h : j = i
  · rw [if_pos h, if_pos h, h]
    exact ⟨rfl, hv⟩
  · rw [if_neg h, if_neg h]
    exact h5 j hj
theorem Jn_led {w : qW} (hJ : Jn w) {i : Nat} {v : Int32} (hi : i < 5) : Jn (q_sA (q_sA w 27 (upd (q_A w 27) i v)) 56 (upd (q_A w 56) i v)) := by
  obtain ⟨hP, hC, ⟨h1, h2, h3⟩, hT, hS, hL, hR⟩ := hJ
  refine ⟨hP, hC, ⟨fun j hj => ?_, ?_, h3⟩, hT, hS, hL, hR⟩
  · show upd (q_A w 27) i v j = upd (q_A w 56) i v j
    unfold upd
    by_cases h : j = i
    · rw [if_pos h, if_pos h]
    · rw [if_neg h, if_neg h]
      exact h1 j hj
  · show upd (q_A w 27) i v 5 = q_I w 48 18
    unfold upd
    rw [if_neg (by omega)]
    exact h2
theorem tab_lo : ∀ k : Nat, k < 8 → (q_T 0 k).toInt = jlo k := by decide
theorem tab_hi : ∀ k : Nat, k < 8 → (q_T 1 k).toInt = jhi k := by decide
def fitP (what v : Int32) : Prop := (0 ≤ what.toInt ∧ what.toInt < 8) ∧ jlo what.toInt.toNat ≤ v.toInt ∧ v.toInt ≤ jhi what.toInt.toNat
theorem p_fits_t {w : qW} {what v : Int32} (h : fitP what v) : f_X4_fits w what v = some (1, w) := by
  obtain ⟨⟨h1, h2⟩, h3, h4⟩ := h
  unfold f_X4_fits
  rw [if_neg (by rw [z_lt, c0]; omega), if_neg (by rw [z_le, c8]; omega), z_ld _ _ _ _ ⟨h1, show what.toInt < ((q_Tn 0 : Nat) : Int) from h2⟩, if_neg (by rw [z_lt, tab_lo _ (by omega)]; omega), z_ld _ _ _ _ ⟨h1, show what.toInt < ((q_Tn 1 : Nat) : Int) from h2⟩, if_neg (by rw [z_lt, tab_hi _ (by omega)]; omega)]
  rfl
theorem p_fits_f {w : qW} {what v : Int32} (h : ¬ fitP what v) : f_X4_fits w what v = some (0, w) := by
  unfold f_X4_fits
  by_cases g1 : what.toInt < 0
  · rw [if_pos (by rw [z_lt, c0]; exact g1)]; rfl
  · rw [if_neg (by rw [z_lt, c0]; exact g1)]
    by_cases g2 : 8 ≤ what.toInt
    · rw [if_pos (by rw [z_le, c8]; exact g2)]; rfl
    · rw [if_neg (by rw [z_le, c8]; exact g2), z_ld _ _ _ _ ⟨by omega, by show what.toInt < 8; omega⟩]
      by_cases g3 : v.toInt < jlo what.toInt.toNat
      · rw [if_pos (by rw [z_lt, tab_lo _ (by omega)]; exact g3)]; rfl
      · rw [if_neg (by rw [z_lt, tab_lo _ (by omega)]; exact g3), z_ld _ _ _ _ ⟨by omega, by show what.toInt < 8; omega⟩, if_pos]
        · rfl
        · rw [z_lt, tab_hi _ (by omega)]
          refine Int.not_le.mp fun q => h ⟨⟨by omega, by omega⟩, by omega, q⟩
theorem d143 : (143 : Int64).toInt = 143 := by decide
theorem p_isCell (w : qW) (c : Int32) : f_X11_isCell w (Int32.toInt64 c) = some (b2i (decide (0 ≤ c.toInt) && decide (c.toInt ≤ 143)), w) := by
  unfold f_X11_isCell
  rw [p_within32, z_cl, b2i_and, d0, d143]
theorem p_goes : j_goes := by
  intro n c w hJ
  show ∃ r w1 w2, f_X10_goes w n c = some (r, w1) ∧ f_X11_goes w1 n c = some (r, w2) ∧ Jn w2
  obtain ⟨h1, h2, h3, h4, h5⟩ := hJ.1
  have hf4 : fitP 4 c ↔ 0 ≤ c.toInt ∧ c.toInt ≤ 143 := by
    have e : jlo ((4 : Int32).toInt.toNat) = 0 ∧ jhi ((4 : Int32).toInt.toNat) = 143 := by decide
    unfold fitP
    rw [e.1, e.2, c4]
    omega
  by_cases h : hasP (q_I w 1 1) (q_I w 1 2) n 4
  · obtain ⟨g1, g2, g3, g4, g5⟩ := pIx_spec h1.2 h2.2 h
    have hn : 0 ≤ n.toInt ∧ n.toInt < (q_I w 1 2).toInt := by
      obtain ⟨-, q1, q2⟩ := h
      rw [c4, if_neg (by omega), if_pos (by omega)] at q2
      exact ⟨q1, q2⟩
    by_cases hc : 0 ≤ c.toInt ∧ c.toInt ≤ 143
    · have e1 : f_X10_goes w n c = some (q_A w 2 (pIx n 4), q_sA w 2 (upd (q_A w 2) (pIx n 4) c)) := by
        unfold f_X10_goes
        rw [p_has_t h, z_cl, if_neg n1_0, p_fits_t (hf4.mpr hc), z_cl, if_neg n1_0, p_get_t h1.2 h2.2 h, z_cl, p_set_t h1.2 h2.2 h, z_cl]
      have hx : ((32 : Int32) + n).toInt = (pIx n 4 : Int) := by
        rw [t_add _ _ (by rw [c32]; omega) (by rw [c32]; omega), c32]
        unfold pIx
        rw [c4]
        omega
      refine ⟨_, _, q_sA (q_sA w 2 (upd (q_A w 2) (pIx n 4) c)) 49 (upd (q_A w 49) (pIx n 4) c), e1, ?_, Jn_num hJ (by rw [g4, c4]; exact ⟨by have : jlo (4 : Int).toNat = 0 := rfl; omega, by have : jhi (4 : Int).toNat = 143 := rfl; omega⟩)⟩
      unfold f_X11_goes
      have hs7 : (q_I (q_sA w 2 (upd (q_A w 2) (pIx n 4) c)) 48 7) = q_I w 1 2 := h4
      rw [p_isSitter _ _ (by rw [hs7]; omega), z_cl, hs7, decide_eq_true hn.1, decide_eq_true hn.2, Bool.and_self, b2i_t, if_neg n1_0, p_isCell, z_cl, decide_eq_true hc.1, decide_eq_true hc.2, Bool.and_self, b2i_t, if_neg n1_0, z_ld _ _ _ _ (by rw [hx]; omega), z_st _ _ _ _ _ _ (by rw [hx]; omega), hx]
      show some (q_A w 49 (pIx n 4), _) = _
      rw [← (h5 _ g2).1]
      rfl
    · refine ⟨-1, w, w, ?_, ?_, hJ⟩
      · unfold f_X10_goes
        rw [p_has_t h, z_cl, if_neg n1_0, p_fits_f (fun q => hc (hf4.mp q))]
        rfl
      · unfold f_X11_goes
        have hb : (decide (0 ≤ c.toInt) && decide (c.toInt ≤ 143)) = false := by simp; omega
        rw [p_isSitter _ _ (by rw [h4]; omega), z_cl, h4, decide_eq_true hn.1, decide_eq_true hn.2, Bool.and_self, b2i_t, if_neg n1_0, p_isCell, z_cl, hb]
        rfl
  · refine ⟨-1, w, w, ?_, ?_, hJ⟩
    · unfold f_X10_goes
      rw [p_has_f h]
      rfl
    · unfold f_X11_goes
      have hb : (decide (0 ≤ n.toInt) && decide (n.toInt < (q_I w 48 7).toInt)) = false := by
        rw [h4]
        simp only [Bool.and_eq_false_iff, decide_eq_false_iff_not]
        by_cases q : 0 ≤ n.toInt
        · refine Or.inr fun q2 => h ⟨by rw [c4]; omega, q, ?_⟩
          rw [c4, if_neg (by omega), if_pos (by omega)]; exact q2
        · exact Or.inl q
      rw [p_isSitter _ _ (by rw [h4]; omega), z_cl, hb]
      rfl
theorem has_men {w : qW} {n : Int32} (k : Nat) (hk : k < 4) : hasP (q_I w 1 1) (q_I w 1 2) n (nI k) ↔ 0 ≤ n.toInt ∧ n.toInt < (q_I w 1 1).toInt := by
  unfold hasP
  rw [nI_toInt (by omega), if_pos (by omega)]
  omega
theorem t_16 {n : Int32} (h : 0 ≤ n.toInt ∧ n.toInt < 100) : ((16 : Int32) + n).toInt = 16 + n.toInt := by
  rw [t_add _ _ (by rw [show (16 : Int32).toInt = 16 by decide]; omega) (by rw [show (16 : Int32).toInt = 16 by decide]; omega), show (16 : Int32).toInt = 16 by decide]
theorem p_bird : j_bird := by
  intro n w hJ
  show ∃ r w1 w2, f_X10_bird w n = some (r, w1) ∧ f_X11_bird w1 n = some (r, w2) ∧ Jn w2
  obtain ⟨h1, h2, h3, h4, h5⟩ := hJ.1
  obtain ⟨l1, l2, -⟩ := hJ.2.2.1
  by_cases hn : 0 ≤ n.toInt ∧ n.toInt < (q_I w 1 1).toInt
  · have hp0 := (has_men (w := w) (n := n) 0 (by omega)).mpr hn
    have hp2 := (has_men (w := w) (n := n) 2 (by omega)).mpr hn
    obtain ⟨g1, g2, g3, g4, g5⟩ := pIx_spec h1.2 h2.2 hp2
    have hix : pIx n (nI 2) = 16 + n.toInt.toNat := rfl
    generalize hi : pIx n (nI 2) = i at *
    obtain ⟨v1, v2, v3⟩ := h5 i g2
    have hi8 : i / 8 = 2 := g4
    rw [hi8] at v2 v3
    have v2 : 0 ≤ (q_A w 2 i).toInt := v2
    have v3 : (q_A w 2 i).toInt ≤ 4 := v3
    obtain ⟨nv, hnv⟩ : ∃ nv : Int32, nv = (if q_A w 2 i + 1 < 4 then q_A w 2 i + 1 else 4) := ⟨_, rfl⟩
    have hp1 : (q_A w 2 i + 1).toInt = (q_A w 2 i).toInt + 1 := by rw [t_add _ _ (by rw [c1]; omega) (by rw [c1]; omega), c1]
    have hnt : nv.toInt = if (q_A w 2 i).toInt < 4 then (q_A w 2 i).toInt + 1 else 4 := by
      rw [hnv]
      by_cases q : q_A w 2 i + 1 < 4
      · rw [if_pos q]
        rw [z_lt, hp1, c4] at q
        rw [if_pos (by omega), hp1]
      · rw [if_neg q]
        rw [z_lt, hp1, c4] at q
        by_cases q2 : (q_A w 2 i).toInt < 4
        · rw [if_pos q2, c4]; omega
        · rw [if_neg q2, c4]
    have e1 : f_X10_bird w n = some (nv, q_sA (q_sA w 2 (upd (q_A w 2) i nv)) 27 (upd (q_A w 27) 2 (q_A w 27 2 + 1))) := by
      unfold f_X10_bird f_X2_birdGetsIn
      have a1 : f_X4_has w n 0 = some (1, w) := p_has_t hp0
      have a2 : f_X4_get w n 2 = some (q_A w 2 i, w) := by rw [← hi]; exact p_get_t h1.2 h2.2 hp2
      have a3 : f_X4_set w n 2 nv = some ((), q_sA w 2 (upd (q_A w 2) i nv)) := by rw [← hi]; exact p_set_t h1.2 h2.2 hp2
      rw [a1, z_cl, if_neg n1_0, a2, z_cl, z_bn, ← hnv, a3, z_cl]
      rfl
    generalize hw1 : q_sA (q_sA w 2 (upd (q_A w 2) i nv)) 27 (upd (q_A w 27) 2 (q_A w 27 2 + 1)) = w1 at e1
    have m49 : q_A w1 49 = q_A w 49 := by rw [← hw1]; rfl
    have m56 : q_A w1 56 = q_A w 56 := by rw [← hw1]; rfl
    have m6 : q_I w1 48 6 = q_I w 1 1 := by rw [← hw1]; exact h3
    have t16 := t_16 (n := n) ⟨hn.1, by omega⟩
    have hx : ((16 : Int32) + n).toInt.toNat = i := by rw [t16]; omega
    refine ⟨nv, w1, q_sA (q_sA w1 49 (upd (q_A w1 49) i nv)) 56 (upd (q_A w1 56) 2 (q_A w1 56 2 + 1)), e1, ?_, ?_⟩
    · unfold f_X11_bird f_X11_bird_B39
      rw [p_isMan _ _ (by rw [m6]; omega), z_cl, m6, decide_eq_true hn.1, decide_eq_true hn.2, Bool.and_self, b2i_t, if_neg n1_0, z_bn, z_ld _ _ _ _ (by rw [t16]; omega), z_ld _ _ _ _ (by rw [t16]; omega), hx, m49]
      have fin : ∀ s0 : Int32, q_A w 49 i + s0 = nv → q_st w1 49 57 (16 + n) (q_A w 49 i + s0) (fun w1 => q_ld (q_A w1 56) 5 2 (fun v2 => q_st w1 56 5 2 (v2 + 1) (fun w3 => q_ld (q_A w3 49) 57 ((16 : Int32) + n) (fun v4 => some (v4, w3))))) = some (nv, q_sA (q_sA w1 49 (upd (q_A w 49) i nv)) 56 (upd (q_A w1 56) 2 (q_A w1 56 2 + 1))) := by
        intro s0 hs
        rw [hs, z_st _ _ _ _ _ _ (by rw [t16]; omega), hx, m49]
        rw [z_ld _ _ _ _ (by rw [c2]; omega), z_st _ _ _ _ _ _ (by rw [c2]; omega), z_ld _ _ _ _ (by rw [t16]; omega), hx]
        show some (upd (q_A w 49) i nv i, _) = _
        unfold upd
        rw [if_pos rfl]
        rfl
      by_cases q : 4 ≤ q_A w 49 i
      · rw [if_pos q]
        refine fin 0 ?_
        rw [z_le, c4, ← v1] at q
        rw [z_eq, ← v1, hnt, if_neg (by omega), t_add _ _ (by rw [c0]; omega) (by rw [c0]; omega), c0]
        omega
      · rw [if_neg q]
        refine fin 1 ?_
        rw [z_le, c4, ← v1] at q
        rw [z_eq, ← v1, hnt, if_pos (by omega), hp1]
    · have j1 := Jn_num (i := i) (v := nv) hJ (by rw [hi8]; show 0 ≤ nv.toInt ∧ nv.toInt ≤ 4; rw [hnt]; split <;> omega)
      have j2 := Jn_led (i := 2) (v := q_A w 27 2 + 1) j1 (by omega)
      rw [← hw1]
      have e3 : q_A w 56 2 + 1 = q_A w 27 2 + 1 := by rw [l1 2 (by omega)]
      show Jn (q_sA (q_sA (q_sA (q_sA w 2 (upd (q_A w 2) i nv)) 27 (upd (q_A w 27) 2 (q_A w 27 2 + 1))) 49 (upd (q_A w 49) i nv)) 56 (upd (q_A w 56) 2 (q_A w 56 2 + 1)))
      rw [e3, sA_comm _ 27 49 _ _ (by omega)]
      exact j2
  · refine ⟨-1, w, w, ?_, ?_, hJ⟩
    · unfold f_X10_bird
      have a1 : f_X4_has w n 0 = some (0, w) := p_has_f (fun q => hn ((has_men (w := w) (n := n) 0 (by omega)).mp q))
      rw [a1]
      rfl
    · unfold f_X11_bird
      have hb : (decide (0 ≤ n.toInt) && decide (n.toInt < (q_I w 1 1).toInt)) = false := by simp; omega
      rw [p_isMan _ _ (by rw [h3]; omega), z_cl, h3, hb]
      rfl
