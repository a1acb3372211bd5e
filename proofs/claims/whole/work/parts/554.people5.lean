def pSit (N : Nat → Int32) (m : Nat) (c wa le : Int32) : Nat → Int32 := upd (upd (upd N (32 + m) c) (40 + m) wa) (48 + m) le
theorem has_sit {w : qW} {n : Int32} (k : Nat) (hk : 4 ≤ k ∧ k < 7) : hasP (q_I w 1 1) (q_I w 1 2) n (nI k) ↔ 0 ≤ n.toInt ∧ n.toInt < (q_I w 1 2).toInt := by
  unfold hasP
  rw [nI_toInt (by omega), if_neg (by omega), if_pos (by omega)]
  omega
theorem p_addSit {w : qW} {c wa le : Int32} (hm : (q_I w 1 1).toInt ≤ 7) (hs : 0 ≤ (q_I w 1 2).toInt ∧ (q_I w 1 2).toInt < 8) : f_X4_addSitter w c wa le = some (q_I w 1 2, q_sA (q_sI w 1 2 (q_I w 1 2 + 1)) 2 (pSit (q_A w 2) (q_I w 1 2).toInt.toNat c wa le)) := by
  generalize hme : q_I w 1 2 = sit at *
  generalize hmn : sit.toInt.toNat = m
  have hm1 : (sit + 1).toInt = sit.toInt + 1 := by rw [t_add _ _ (by rw [c1]; omega) (by rw [c1]; omega), c1]
  have hset : ∀ (f : Nat → Int32) (kk : Nat) (v : Int32), 4 ≤ kk ∧ kk < 7 → f_X4_set (q_sA (q_sI w 1 2 (sit + 1)) 2 f) sit (nI kk) v = some ((), q_sA (q_sI w 1 2 (sit + 1)) 2 (upd f (8 * kk + m) v)) := by
    intro f kk v hkk
    have hp : hasP (q_I (q_sA (q_sI w 1 2 (sit + 1)) 2 f) 1 1) (q_I (q_sA (q_sI w 1 2 (sit + 1)) 2 f) 1 2) sit (nI kk) := by
      rw [has_sit kk hkk]
      show 0 ≤ sit.toInt ∧ sit.toInt < (sit + 1).toInt
      omega
    rw [p_set_t (w := q_sA (q_sI w 1 2 (sit + 1)) 2 f) hm (show (sit + 1).toInt ≤ 8 by omega) hp, sA_two]
    have : pIx sit (nI kk) = 8 * kk + m := by unfold pIx; rw [nI_toInt (by omega)]; omega
    rw [this]
    rfl
  unfold f_X4_addSitter
  rw [hme, if_pos (by rw [z_lt, c8]; exact hs.2), z_bn, z_bn]
  have s0 : f_X4_set (q_sI w 1 2 (sit + 1)) sit 4 c = some ((), q_sA (q_sI w 1 2 (sit + 1)) 2 (upd (q_A w 2) (8 * 4 + m) c)) := by
    have := hset (q_A w 2) 4 c (by omega)
    rw [show q_sA (q_sI w 1 2 (sit + 1)) 2 (q_A w 2) = q_sI w 1 2 (sit + 1) from sA_self (q_sI w 1 2 (sit + 1)) 2] at this
    exact this
  have hs1 : ∀ (f : Nat → Int32) (v : Int32), f_X4_set (q_sA (q_sI w 1 2 (sit + 1)) 2 f) sit 5 v = some ((), q_sA (q_sI w 1 2 (sit + 1)) 2 (upd f (8 * 5 + m) v)) := fun f v => hset f 5 v (by omega)
  have hs2 : ∀ (f : Nat → Int32) (v : Int32), f_X4_set (q_sA (q_sI w 1 2 (sit + 1)) 2 f) sit 6 v = some ((), q_sA (q_sI w 1 2 (sit + 1)) 2 (upd f (8 * 6 + m) v)) := fun f v => hset f 6 v (by omega)
  rw [s0, z_cl, hs1, z_cl, hs2, z_cl]
  rfl
theorem p_adds {w : qW} {c wa le : Int32} (hs : 0 ≤ (q_I w 48 7).toInt ∧ (q_I w 48 7).toInt < 8) : f_X11_adds w c wa le = some ((), q_sI (q_sA w 49 (pSit (q_A w 49) (q_I w 48 7).toInt.toNat c wa le)) 48 7 (q_I w 48 7 + 1)) := by
  generalize hme : q_I w 48 7 = sit at *
  unfold f_X11_adds
  have x8 := t_plus 32 sit (by omega) ⟨hs.1, by omega⟩
  have x16 := t_plus 40 sit (by omega) ⟨hs.1, by omega⟩
  have x24 := t_plus 48 sit (by omega) ⟨hs.1, by omega⟩
  have i6 : ∀ f : Nat → Int32, q_I (q_sA w 49 f) 48 7 = sit := fun f => hme
  have a49 : ∀ f : Nat → Int32, q_A (q_sA w 49 f) 49 = f := fun f => rfl
  rw [hme, show ((32 : Int32)) = Int32.ofNat 32 from rfl, z_st _ _ _ _ _ _ (by rw [x8]; omega), i6, show ((40 : Int32)) = Int32.ofNat 40 from rfl, z_st _ _ _ _ _ _ (by rw [x16]; omega), sA_two, i6, a49, show ((48 : Int32)) = Int32.ofNat 48 from rfl, z_st _ _ _ _ _ _ (by rw [x24]; omega), sA_two, i6, a49, z_bn]
  rw [x8, x16, x24, show ((32 : Nat) + sit.toInt : Int).toNat = 32 + sit.toInt.toNat by omega, show ((40 : Nat) + sit.toInt : Int).toNat = 40 + sit.toInt.toNat by omega, show ((48 : Nat) + sit.toInt : Int).toNat = 48 + sit.toInt.toNat by omega]
  rfl
theorem Jn_sit {w : qW} {c wa le : Int32} (hJ : Jn w) (hs8 : (q_I w 1 2).toInt < 8) (hc : 0 ≤ c.toInt ∧ c.toInt ≤ 143) (hwa : 0 ≤ wa.toInt ∧ wa.toInt ≤ 4095) (hle : 1 ≤ le.toInt ∧ le.toInt ≤ 12) : Jn (q_sI (q_sA (q_sA (q_sI w 1 2 (q_I w 1 2 + 1)) 2 (pSit (q_A w 2) (q_I w 1 2).toInt.toNat c wa le)) 49 (pSit (q_A w 49) (q_I w 1 2).toInt.toNat c wa le)) 48 7 (q_I w 1 2 + 1)) := by
  obtain ⟨⟨h1, h2, h3, h4, h5⟩, hC, hD, hT, hS, hL, hR⟩ := hJ
  have hm1 : (q_I w 1 2 + 1).toInt = (q_I w 1 2).toInt + 1 := by rw [t_add _ _ (by rw [c1]; omega) (by rw [c1]; omega), c1]
  refine ⟨⟨h1, ⟨?_, ?_⟩, h3, rfl, fun i hi => ?_⟩, jC_mono (Int.le_refl _) ?_ hC, jD_mono (Int.le_refl _) ?_ hD, hT, hS, hL, hR⟩
  · show 0 ≤ (q_I w 1 2 + 1).toInt; omega
  · show (q_I w 1 2 + 1).toInt ≤ 8; omega
  · have hi : jvI (q_I w 1 1) (q_I w 1 2 + 1) i := hi
    show pSit (q_A w 2) (q_I w 1 2).toInt.toNat c wa le i = pSit (q_A w 49) (q_I w 1 2).toInt.toNat c wa le i ∧ jlo (i / 8) ≤ (pSit (q_A w 2) (q_I w 1 2).toInt.toNat c wa le i).toInt ∧ (pSit (q_A w 2) (q_I w 1 2).toInt.toNat c wa le i).toInt ≤ jhi (i / 8)
    generalize hmn : (q_I w 1 2).toInt.toNat = m
    unfold pSit upd
    by_cases q3 : i = 48 + m
    · rw [if_pos q3, if_pos q3, show i / 8 = 6 by omega]
      exact ⟨rfl, hle⟩
    · rw [if_neg q3, if_neg q3]
      by_cases q2 : i = 40 + m
      · rw [if_pos q2, if_pos q2, show i / 8 = 5 by omega]
        exact ⟨rfl, hwa⟩
      · rw [if_neg q2, if_neg q2]
        by_cases q1 : i = 32 + m
        · rw [if_pos q1, if_pos q1, show i / 8 = 4 by omega]
          exact ⟨rfl, hc⟩
        · rw [if_neg q1, if_neg q1]
          refine h5 i ?_
          rcases hi with g | ⟨g1, g2, g3⟩ | g
          · exact Or.inl g
          · exact Or.inr (Or.inl ⟨g1, g2, by omega⟩)
          · exact Or.inr (Or.inr g)
  · show (q_I w 1 2).toInt ≤ (q_I w 1 2 + 1).toInt; omega
  · show (q_I w 1 2).toInt ≤ (q_I w 1 2 + 1).toInt; omega
theorem d4095 : (4095 : Int64).toInt = 4095 := by decide
theorem d12 : (12 : Int64).toInt = 12 := by decide
/-- whether a sitter may come, by longs -/
def comeP (a b c : Int) : Prop := (0 ≤ a ∧ a ≤ 143) ∧ (0 ≤ b ∧ b ≤ 4095) ∧ 1 ≤ c ∧ c ≤ 12
theorem p_mayCome_t {w : qW} {a b c : Int64} (h : comeP a.toInt b.toInt c.toInt) : f_X11_mayCome w a b c = some (1, w) := by
  obtain ⟨h1, h2, h3⟩ := h
  unfold f_X11_mayCome f_X11_isCell
  rw [p_within, z_cl, z_cl, b2i_and, d0, d143, decide_eq_true h1.1, decide_eq_true h1.2, Bool.and_self, b2i_t, if_neg n1_0, p_within, z_cl, d0, d4095, decide_eq_true h2.1, decide_eq_true h2.2, Bool.and_self, b2i_t, if_neg n1_0, p_within, z_cl, d1, d12, decide_eq_true h3.1, decide_eq_true h3.2, Bool.and_self, b2i_t, if_neg n1_0]
  rfl
theorem p_mayCome_f {w : qW} {a b c : Int64} (h : ¬ comeP a.toInt b.toInt c.toInt) : f_X11_mayCome w a b c = some (0, w) := by
  unfold f_X11_mayCome f_X11_isCell
  rw [p_within, z_cl, z_cl, b2i_and, d0, d143]
  by_cases h1 : 0 ≤ a.toInt ∧ a.toInt ≤ 143
  · rw [decide_eq_true h1.1, decide_eq_true h1.2, Bool.and_self, b2i_t, if_neg n1_0, p_within, z_cl, d0, d4095]
    by_cases h2 : 0 ≤ b.toInt ∧ b.toInt ≤ 4095
    · rw [decide_eq_true h2.1, decide_eq_true h2.2, Bool.and_self, b2i_t, if_neg n1_0, p_within, z_cl, d1, d12]
      have hb : (decide (1 ≤ c.toInt) && decide (c.toInt ≤ 12)) = false := by
        have : ¬ (1 ≤ c.toInt ∧ c.toInt ≤ 12) := fun q => h ⟨h1, h2, q⟩
        simp; omega
      rw [hb]; rfl
    · have hb : (decide (0 ≤ b.toInt) && decide (b.toInt ≤ 4095)) = false := by simp; omega
      rw [hb]; rfl
  · have hb : (decide (0 ≤ a.toInt) && decide (a.toInt ≤ 143)) = false := by simp; omega
    rw [hb]; rfl
theorem fit4 (c : Int32) : fitP 4 c ↔ 0 ≤ c.toInt ∧ c.toInt ≤ 143 := by
  have e : jlo ((4 : Int32).toInt.toNat) = 0 ∧ jhi ((4 : Int32).toInt.toNat) = 143 := by decide
  unfold fitP
  rw [e.1, e.2, c4]
  omega
theorem fit5 (c : Int32) : fitP 5 c ↔ 0 ≤ c.toInt ∧ c.toInt ≤ 4095 := by
  have e : jlo ((5 : Int32).toInt.toNat) = 0 ∧ jhi ((5 : Int32).toInt.toNat) = 4095 := by decide
  unfold fitP
  rw [e.1, e.2, c5]
  omega
theorem fit6 (c : Int32) : fitP 6 c ↔ 1 ≤ c.toInt ∧ c.toInt ≤ 12 := by
  have e : jlo ((6 : Int32).toInt.toNat) = 1 ∧ jhi ((6 : Int32).toInt.toNat) = 12 := by decide
  unfold fitP
  rw [e.1, e.2, c6]
  omega
theorem p_sitter : j_sitter := by
  intro c wa w hJ
  show ∃ r w1 w2, f_X10_sitter w c wa = some (r, w1) ∧ f_X11_sitter w1 c wa = some (r, w2) ∧ Jn w2
  obtain ⟨⟨h1, h2, h3, h4, h5⟩, -⟩ := id hJ
  have dd6 : (6 : Int64).toInt = 6 := d6
  by_cases hc : 0 ≤ c.toInt ∧ c.toInt ≤ 143
  · by_cases hwa : 0 ≤ wa.toInt ∧ wa.toInt ≤ 4095
    · have hcome : ∀ w1 : qW, f_X11_mayCome w1 (Int32.toInt64 c) (Int32.toInt64 wa) 6 = some (1, w1) := fun w1 => p_mayCome_t (by rw [Int32.toInt_toInt64, Int32.toInt_toInt64, dd6]; exact ⟨hc, hwa, by omega, by omega⟩)
      by_cases hs8 : (q_I w 1 2).toInt < 8
      · have e1 : f_X10_sitter w c wa = some (q_I w 1 2, q_sA (q_sI w 1 2 (q_I w 1 2 + 1)) 2 (pSit (q_A w 2) (q_I w 1 2).toInt.toNat c wa 6)) := by
          unfold f_X10_sitter
          rw [p_fits_t ((fit4 c).mpr hc), z_cl, if_neg n1_0, p_fits_t ((fit5 wa).mpr hwa), z_cl, if_neg n1_0, p_addSit h1.2 ⟨h2.1, hs8⟩, z_cl]
        have hj := Jn_sit (c := c) (wa := wa) (le := 6) hJ hs8 hc hwa (by rw [c6]; omega)
        generalize hw1 : q_sA (q_sI w 1 2 (q_I w 1 2 + 1)) 2 (pSit (q_A w 2) (q_I w 1 2).toInt.toNat c wa 6) = w1 at e1 hj
        have m7 : q_I w1 48 7 = q_I w 1 2 := by rw [← hw1]; exact h4
        have m49 : q_A w1 49 = q_A w 49 := by rw [← hw1]; rfl
        refine ⟨_, w1, _, e1, ?_, hj⟩
        unfold f_X11_sitter
        have hadd := p_adds (w := w1) (c := c) (wa := wa) (le := 6) (by rw [m7]; exact ⟨h2.1, hs8⟩)
        rw [m7, m49] at hadd
        rw [hcome, z_cl, if_neg n1_0, m7, if_neg (by rw [z_eq, c8]; omega), hadd, z_cl]
        show some (q_I w 1 2 + 1 - 1, _) = _
        have hm1 : (q_I w 1 2 + 1).toInt = (q_I w 1 2).toInt + 1 := by rw [t_add _ _ (by rw [c1]; omega) (by rw [c1]; omega), c1]
        have hsub : q_I w 1 2 + 1 - 1 = q_I w 1 2 := by rw [z_eq, t_sub _ _ (by rw [c1]; omega) (by rw [c1]; omega), c1, hm1]; omega
        rw [hsub]
      · refine ⟨-3, w, w, ?_, ?_, hJ⟩
        · unfold f_X10_sitter f_X4_addSitter
          rw [p_fits_t ((fit4 c).mpr hc), z_cl, if_neg n1_0, p_fits_t ((fit5 wa).mpr hwa), z_cl, if_neg n1_0, if_neg (by rw [z_lt, c8]; exact hs8)]
          rfl
        · unfold f_X11_sitter
          rw [hcome, z_cl, if_neg n1_0, h4, if_pos (by rw [z_eq, c8]; omega)]
    · refine ⟨-1, w, w, ?_, ?_, hJ⟩
      · unfold f_X10_sitter
        rw [p_fits_t ((fit4 c).mpr hc), z_cl, if_neg n1_0, p_fits_f (fun q => hwa ((fit5 wa).mp q))]
        rfl
      · unfold f_X11_sitter
        rw [p_mayCome_f (by rw [Int32.toInt_toInt64, Int32.toInt_toInt64]; exact fun q => hwa q.2.1)]
        rfl
  · refine ⟨-1, w, w, ?_, ?_, hJ⟩
    · unfold f_X10_sitter
      rw [p_fits_f (fun q => hc ((fit4 c).mp q))]
      rfl
    · unfold f_X11_sitter
      rw [p_mayCome_f (by rw [Int32.toInt_toInt64, Int32.toInt_toInt64]; exact fun q => hc q.1)]
      rfl
