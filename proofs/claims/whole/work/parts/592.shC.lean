/-! shade, walk -/
theorem bd_t {P Q : Prop} [Decidable P] [Decidable Q] (hp : P) (hq : Q) : b2i (decide P && decide Q) = 1 := by rw [decide_eq_true hp, decide_eq_true hq]; rfl
theorem bd_f {P Q : Prop} [Decidable P] [Decidable Q] (h : ¬ (P ∧ Q)) : b2i (decide P && decide Q) = 0 := by
  by_cases hp : P
  · rw [decide_eq_false (fun hq => h ⟨hp, hq⟩), Bool.and_false]; rfl
  · rw [decide_eq_false hp]; rfl
theorem n10 : ¬ (1 : Int32) = 0 := by decide
theorem m_isHour (w : qW) (a : Int32) : f_X11_isHour w (Int32.toInt64 a) = some (b2i (decide (0 ≤ a.toInt) && decide (a.toInt < 12)), w) := by
  unfold f_X11_isHour
  rw [p_within32, z_cl, b2i_and, d0, show (11 : Int64).toInt = 11 by decide]
  by_cases h : 0 ≤ a.toInt ∧ a.toInt < 12
  · rw [bd_t h.1 (show a.toInt ≤ 11 by omega), bd_t h.1 h.2]
  · rw [bd_f (show ¬ (0 ≤ a.toInt ∧ a.toInt ≤ 11) by omega), bd_f h]
theorem m_isMan {w : qW} {mn mk st : Nat} {N : Nat → Nat} (hP : PM mn mk st N w) (a : Int32) : f_X11_isMan w (Int32.toInt64 a) = some (b2i (decide (0 ≤ a.toInt) && decide (a.toInt < (mn : Int))), w) := by
  have h3 := hP.2.2.1
  have t : (q_I w 48 6).toInt = (mn : Int) := by rw [hP.1, nI_toInt (by omega)]
  have := p_isMan w a (by rw [t]; omega)
  rw [this, t]
theorem m_isSit {w : qW} {mn mk st : Nat} {N : Nat → Nat} (hP : PM mn mk st N w) (a : Int32) : f_X11_isSitter w (Int32.toInt64 a) = some (b2i (decide (0 ≤ a.toInt) && decide (a.toInt < (st : Int))), w) := by
  have h3 := hP.2.2.2.1
  have t : (q_I w 48 7).toInt = (st : Int) := by rw [hP.2.1, nI_toInt (by omega)]
  have := p_isSitter w a (by rw [t]; omega)
  rw [this, t]
theorem m_w01 (w : qW) (a : Int32) : f_X11_within w (Int32.toInt64 a) 0 1 = some (b2i (decide (0 ≤ a.toInt) && decide (a.toInt < 2)), w) := by
  rw [p_within32, d0, d1]
  by_cases h : 0 ≤ a.toInt ∧ a.toInt < 2
  · rw [bd_t h.1 (show a.toInt ≤ 1 by omega), bd_t h.1 h.2]
  · rw [bd_f (show ¬ (0 ≤ a.toInt ∧ a.toInt ≤ 1) by omega), bd_f h]
theorem c144 : (144 : Int32).toInt = 144 := by decide
theorem p_shade : j_shade := by
  intro a b w hJ
  show ∃ r w1 w2, f_X10_shade w a b = some (r, w1) ∧ f_X11_shade w1 a b = some (r, w2) ∧ Jn w2
  obtain ⟨tx, hL⟩ := lSt_of hJ
  obtain ⟨mn, st, N, hC, hM, -⟩ := PN_of hJ
  obtain ⟨p1, p2, p3, p4, p5⟩ := id hC
  have t1 : (nI mn).toInt = (mn : Int) := nI_toInt (by omega)
  by_cases h0 : a.toInt < 0
  · refine ⟨-1, w, w, ?_, ?_, hJ⟩
    · unfold f_X10_shade
      rw [z_bn, z_bn, if_pos (by rw [z_lt, c0]; exact h0)]
    · unfold f_X11_shade
      rw [if_pos (by rw [z_lt, c0]; exact h0)]
  · obtain ⟨c, hc⟩ : ∃ c, c = a.toInt.toNat := ⟨_, rfl⟩
    have ea : a = nI c := by rw [hc]; exact z_nI _ (by omega)
    have hc2 : c < 2 ^ 31 := by have := t_hi a; omega
    have h0' : ¬ nI c < 0 := by rw [z_lt, c0, nI_toInt (by omega)]; omega
    have d1 : nI c / 100 = nI (c / 100) := i_div (b := 100) hc2 (by omega)
    have d2 : q_rem (nI c) 100 = nI (c % 100) := i_rem (b := 100) hc2 (by omega)
    have t2 : (nI (c / 100)).toInt = ((c / 100 : Nat) : Int) := nI_toInt (by omega)
    have t3 : (nI (c % 100)).toInt = ((c % 100 : Nat) : Int) := nI_toInt (by omega)
    subst ea
    unfold f_X10_shade f_X11_shade
    rw [z_bn, z_bn, d1, d2, if_neg h0']
    simp only [if_neg h0']
    by_cases g1 : c / 100 < 144
    · rw [if_neg (by rw [z_le, c144, t2]; omega)]
      by_cases g2 : c % 100 < 12
      · rw [if_neg (by rw [z_le, c12, t3]; omega)]
        by_cases g3 : b.toInt < -1
        · rw [if_pos (by rw [z_lt, cm1]; exact g3)]
          refine ⟨-1, w, w, rfl, ?_, hJ⟩
          rw [p_isCell, z_cl, bd_t (by rw [t2]; omega) (by rw [t2]; omega), if_neg n10, m_isHour, z_cl, bd_t (by rw [t3]; omega) (by rw [t3]; omega), if_neg n10, if_neg (by rw [z_eq, cm1]; omega), m_isMan hM, z_cl, bd_f (by omega), if_pos rfl]
        · rw [if_neg (by rw [z_lt, cm1]; exact g3), p1]
          by_cases g4 : b.toInt < (mn : Int)
          · rw [if_pos (by rw [z_lt, t1]; exact g4)]
            by_cases g5 : 0 ≤ b.toInt
            · obtain ⟨m, hm⟩ : ∃ m, m = b.toInt.toNat := ⟨_, rfl⟩
              have eb : b = nI m := by rw [hm]; exact z_nI _ g5
              subst eb
              have hmm : m < mn := by omega
              rw [if_pos (by rw [z_le, c0]; exact g5)]
              obtain ⟨w1, e1, f1⟩ := s_byMan hL hC (m := m) (cell := c / 100) (by omega) g2
              obtain ⟨w2, e2, f2⟩ := m_shadeBy (lSt_fr f1 hL) (PM_fr f1 hM) hmm g2 (nI (c / 100))
              refine ⟨_, w1, w2, by rw [e1, z_cl], ?_, Jn_fr0 (Jn_fr0 hJ f1) f2⟩
              rw [p_isCell, z_cl, bd_t (by rw [t2]; omega) (by rw [t2]; omega), if_neg n10, m_isHour, z_cl, bd_t (by rw [t3]; omega) (by rw [t3]; omega), if_neg n10, if_neg (by rw [z_eq, cm1]; omega), m_isMan (PM_fr f1 hM), z_cl, bd_t g5 g4, if_neg n10]
              unfold f_X11_shade_B42
              rw [if_pos (by rw [z_le, c0]; exact g5), d1, d2, e2, z_cl, s5_eq]
              unfold gv
              rw [if_pos hmm]
              rfl
            · have eb : b = -1 := by rw [z_eq, cm1]; omega
              subst eb
              rw [if_neg (by decide)]
              obtain ⟨w1, e1, f1⟩ := s_byAll hL hC (cell := c / 100) g2
              obtain ⟨w2, e2, f2⟩ := m_shadeOf (s := evb mn) (cell := c / 100) (lSt_fr f1 hL) (PM_fr f1 hM) (evb_lt mn (by omega)) (evb_ok p3 (Nat.le_refl mn)) g2
              have hb := sm_le (g := gv tx mn N (c / 100) (c % 100)) (fun m => gv_le ..) mn
              refine ⟨_, w1, w2, by rw [e1, z_cl, z_bn, n_min (by omega)], ?_, Jn_fr0 (Jn_fr0 hJ f1) f2⟩
              rw [p_isCell, z_cl, bd_t (by rw [t2]; omega) (by rw [t2]; omega), if_neg n10, m_isHour, z_cl, bd_t (by rw [t3]; omega) (by rw [t3]; omega), if_neg n10, if_pos rfl]
              unfold f_X11_shade_B42
              rw [if_neg (by decide), m_evb (PM_fr f1 hM), z_cl, d1, d2, e2, z_cl, evb_sm p3]
          · rw [if_neg (by rw [z_lt, t1]; exact g4)]
            refine ⟨-1, w, w, rfl, ?_, hJ⟩
            rw [p_isCell, z_cl, bd_t (by rw [t2]; omega) (by rw [t2]; omega), if_neg n10, m_isHour, z_cl, bd_t (by rw [t3]; omega) (by rw [t3]; omega), if_neg n10, if_neg (by rw [z_eq, cm1]; omega), m_isMan hM, z_cl, bd_f (by omega), if_pos rfl]
      · rw [if_pos (by rw [z_le, c12, t3]; omega)]
        refine ⟨-1, w, w, rfl, ?_, hJ⟩
        rw [p_isCell, z_cl, bd_t (by rw [t2]; omega) (by rw [t2]; omega), if_neg n10, m_isHour, z_cl, bd_f (by rw [t3]; omega), if_pos rfl]
    · rw [if_pos (by rw [z_le, c144, t2]; omega)]
      refine ⟨-1, w, w, rfl, ?_, hJ⟩
      rw [p_isCell, z_cl, bd_f (by rw [t2]; omega), if_pos rfl]
/-! walk: how many, and the first darkest, over what the cells have -/
def wkN (V : Nat → Nat) : Nat → Nat
  | 0 => 0
  | k + 1 => wkN V k + (if 0 < V k then 1 else 0)
def wkB (V : Nat → Nat) : Nat → Nat × Nat
  | 0 => (0, 0)
  | k + 1 => if V k ≤ (wkB V k).2 then wkB V k else (k, V k)
theorem wkN_le (V : Nat → Nat) : ∀ k, wkN V k ≤ k
  | 0 => Nat.le_refl 0
  | k + 1 => by
    have := wkN_le V k
    show wkN V k + (if 0 < V k then 1 else 0) ≤ k + 1
    by_cases h : 0 < V k
    · rw [if_pos h]; omega
    · rw [if_neg h]; omega
theorem wkB_lt (V : Nat → Nat) : ∀ k, 0 < k → (wkB V k).1 < k
  | 0, h => by omega
  | k + 1, _ => by
    show (if V k ≤ (wkB V k).2 then wkB V k else (k, V k)).1 < k + 1
    by_cases h : V k ≤ (wkB V k).2
    · rw [if_pos h]
      cases k with
      | zero => show 0 < 1; omega
      | succ k => have := wkB_lt V (k + 1) (by omega); omega
    · rw [if_neg h]; show k < k + 1; omega
def vAll (tx : Option (List lw_Ln)) (mn : Nat) (N : Nat → Nat) (h c : Nat) : Nat := min (sm (gv tx mn N c h) mn) 12
theorem vAll_le (tx : Option (List lw_Ln)) (mn : Nat) (N : Nat → Nat) (h c : Nat) : vAll tx mn N h c ≤ 12 := Nat.min_le_right ..
theorem wkB_le {V : Nat → Nat} (hV : ∀ c, V c ≤ 12) : ∀ k, (wkB V k).2 ≤ 12
  | 0 => by show 0 ≤ 12; omega
  | k + 1 => by
    show (if V k ≤ (wkB V k).2 then wkB V k else (k, V k)).2 ≤ 12
    by_cases h : V k ≤ (wkB V k).2
    · rw [if_pos h]; exact wkB_le hV k
    · rw [if_neg h]; exact hV k
theorem s_shady {tx : Option (List lw_Ln)} {mn st : Nat} {N : Nat → Nat} {h : Nat} (hh : h < 12) : ∀ (k F i : Nat) (w : qW), lSt tx w → PC mn st N w → i + k = 144 → k < F → rto (f_X7_shadyCells_R4 F w (nI h) (nI (wkN (vAll tx mn N h) i)) (nI i)) (nI (wkN (vAll tx mn N h) 144)) w
  | 0, F + 1, i, w, hL, hP, h1, _ => by
    show rto (f_X7_shadyCells_B4 (f_X7_shadyCells_R4 F) w (nI h) (nI (wkN (vAll tx mn N h) i)) (nI i)) _ w
    have hi : i = 144 := by omega
    subst hi
    unfold f_X7_shadyCells_B4
    rw [if_pos (by decide)]
    exact ⟨w, rfl, fr0_rf w⟩
  | k + 1, F + 1, i, w, hL, hP, h1, h2 => by
    show rto (f_X7_shadyCells_B4 (f_X7_shadyCells_R4 F) w (nI h) (nI (wkN (vAll tx mn N h) i)) (nI i)) _ w
    obtain ⟨w2, e, f⟩ := s_byAll hL hP (cell := i) hh
    have hb := sm_le (g := gv tx mn N i h) (fun m => gv_le ..) mn
    have h7 := hP.2.2.1
    unfold f_X7_shadyCells_B4
    rw [if_neg (by rw [z_le, c144, nI_toInt (by omega)]; omega), e, z_cl]
    obtain ⟨w3, e3, f3⟩ := s_shady hh k F (i + 1) w2 (lSt_fr f hL) (PC_fr f hP) (by omega) (by omega)
    unfold f_X7_shadyCells_B26
    rw [z_bn, z_bn, z_bn, nI_1, nI_1]
    have es : wkN (vAll tx mn N h) (i + 1) = wkN (vAll tx mn N h) i + (if 0 < vAll tx mn N h i then 1 else 0) := rfl
    have ev : vAll tx mn N h i = min (sm (gv tx mn N i h) mn) 12 := rfl
    by_cases hz : 0 < sm (gv tx mn N i h) mn
    · rw [if_neg (by rw [z_le, c0, nI_toInt (by omega)]; omega)]
      rw [es, if_pos (by rw [ev]; omega)] at e3
      exact ⟨w3, e3, fr0_tr f f3⟩
    · rw [if_pos (by rw [z_le, c0, nI_toInt (by omega)]; omega)]
      rw [es, if_neg (by rw [ev]; omega)] at e3
      exact ⟨w3, e3, fr0_tr f f3⟩
theorem s_dark {tx : Option (List lw_Ln)} {mn st : Nat} {N : Nat → Nat} {h : Nat} (hh : h < 12) : ∀ (k F i : Nat) (w : qW), lSt tx w → PC mn st N w → i + k = 144 → k < F → rto (f_X7_darkest_R7 F w (nI h) (nI (wkB (vAll tx mn N h) i).1) (nI (wkB (vAll tx mn N h) i).2) (nI i)) (nI (wkB (vAll tx mn N h) 144).1) w
  | 0, F + 1, i, w, hL, hP, h1, _ => by
    show rto (f_X7_darkest_B7 (f_X7_darkest_R7 F) w (nI h) (nI (wkB (vAll tx mn N h) i).1) (nI (wkB (vAll tx mn N h) i).2) (nI i)) _ w
    have hi : i = 144 := by omega
    subst hi
    unfold f_X7_darkest_B7
    rw [if_pos (by decide)]
    exact ⟨w, rfl, fr0_rf w⟩
  | k + 1, F + 1, i, w, hL, hP, h1, h2 => by
    show rto (f_X7_darkest_B7 (f_X7_darkest_R7 F) w (nI h) (nI (wkB (vAll tx mn N h) i).1) (nI (wkB (vAll tx mn N h) i).2) (nI i)) _ w
    obtain ⟨w2, e, f⟩ := s_byAll hL hP (cell := i) hh
    have hb := sm_le (g := gv tx mn N i h) (fun m => gv_le ..) mn
    have h7 := hP.2.2.1
    have h12 := wkB_le (V := vAll tx mn N h) (fun c => vAll_le ..) i
    unfold f_X7_darkest_B7
    rw [if_neg (by rw [z_le, c144, nI_toInt (by omega)]; omega), e, z_cl, z_bn, n_min (by omega)]
    obtain ⟨w3, e3, f3⟩ := s_dark hh k F (i + 1) w2 (lSt_fr f hL) (PC_fr f hP) (by omega) (by omega)
    unfold f_X7_darkest_B44
    rw [z_bn, z_bn, nI_1]
    have es : wkB (vAll tx mn N h) (i + 1) = if vAll tx mn N h i ≤ (wkB (vAll tx mn N h) i).2 then wkB (vAll tx mn N h) i else (i, vAll tx mn N h i) := rfl
    have ev : vAll tx mn N h i = min (sm (gv tx mn N i h) mn) 12 := rfl
    by_cases hz : vAll tx mn N h i ≤ (wkB (vAll tx mn N h) i).2
    · rw [es, if_pos hz] at e3
      rw [if_pos (by rw [z_le, nI_toInt (by omega), nI_toInt (by omega)]; omega)]
      exact ⟨w3, e3, fr0_tr f f3⟩
    · rw [es, if_neg hz] at e3
      rw [if_neg (by rw [z_le, nI_toInt (by omega), nI_toInt (by omega)]; omega)]
      exact ⟨w3, e3, fr0_tr f f3⟩
theorem m_walk {tx : Option (List lw_Ln)} {mn st : Nat} {N : Nat → Nat} {h : Nat} (hh : h < 12) (what : Int32) : ∀ (k F i : Nat) (w : qW) (most : Int32), lSt tx w → PM mn mn st N w → i + k = 144 → k < F → ((i = 0 ∧ most = -1) ∨ (0 < i ∧ most = nI (wkB (vAll tx mn N h) i).2)) → rto (f_X11_walk_R31 F w (nI h) what (nI (wkN (vAll tx mn N h) i)) (nI (wkB (vAll tx mn N h) i).1) most (nI i)) (if what = 0 then nI (wkN (vAll tx mn N h) 144) else nI (wkB (vAll tx mn N h) 144).1) w
  | 0, F + 1, i, w, most, hL, hP, h1, _, _ => by
    show rto (f_X11_walk_B31 (f_X11_walk_R31 F) w (nI h) what (nI (wkN (vAll tx mn N h) i)) (nI (wkB (vAll tx mn N h) i).1) most (nI i)) _ w
    have hi : i = 144 := by omega
    subst hi
    unfold f_X11_walk_B31
    rw [if_pos (by decide)]
    refine ⟨w, ?_, fr0_rf w⟩
    by_cases hw : what = 0
    · rw [if_pos hw, if_pos hw]
    · rw [if_neg hw, if_neg hw]
  | k + 1, F + 1, i, w, most, hL, hP, h1, h2, hmo => by
    show rto (f_X11_walk_B31 (f_X11_walk_R31 F) w (nI h) what (nI (wkN (vAll tx mn N h) i)) (nI (wkB (vAll tx mn N h) i).1) most (nI i)) _ w
    have h7 := hP.2.2.1
    obtain ⟨w2, e, f⟩ := m_shadeOf (s := evb mn) (cell := i) hL hP (evb_lt mn (by omega)) (evb_ok h7 (Nat.le_refl mn)) hh
    have h12 := wkB_le (V := vAll tx mn N h) (fun c => vAll_le ..) i
    have ev : vAll tx mn N h i = min (sm (gv tx mn N i h) mn) 12 := rfl
    have hv := vAll_le tx mn N h i
    rw [evb_sm h7, ← ev] at e
    unfold f_X11_walk_B31
    rw [if_neg (by rw [z_le, c144, nI_toInt (by omega)]; omega), m_evb hP, z_cl, e, z_cl]
    have tv : (nI (vAll tx mn N h i)).toInt = (vAll tx mn N h i : Int) := nI_toInt (by omega)
    have en : (if nI (vAll tx mn N h i) ≤ 0 then f_X11_walk_B63 (f_X11_walk_R31 F) w2 (nI h) what (nI (wkB (vAll tx mn N h) i).1) most (nI i) (nI (vAll tx mn N h i)) 0 (nI (wkN (vAll tx mn N h) i)) else f_X11_walk_B63 (f_X11_walk_R31 F) w2 (nI h) what (nI (wkB (vAll tx mn N h) i).1) most (nI i) (nI (vAll tx mn N h i)) 1 (nI (wkN (vAll tx mn N h) i))) = f_X11_walk_B63 (f_X11_walk_R31 F) w2 (nI h) what (nI (wkB (vAll tx mn N h) i).1) most (nI i) (nI (vAll tx mn N h i)) (nI (if 0 < vAll tx mn N h i then 1 else 0)) (nI (wkN (vAll tx mn N h) i)) := by
      by_cases hz : 0 < vAll tx mn N h i
      · rw [if_neg (by rw [z_le, c0, tv]; omega), if_pos hz]; rfl
      · rw [if_pos (by rw [z_le, c0, tv]; omega), if_neg hz]; rfl
    rw [en]
    unfold f_X11_walk_B63 f_X11_walk_B79 f_X11_walk_B95
    simp only [z_bn]
    rw [nI_add, nI_1]
    have es1 : wkN (vAll tx mn N h) (i + 1) = wkN (vAll tx mn N h) i + (if 0 < vAll tx mn N h i then 1 else 0) := rfl
    have es : wkB (vAll tx mn N h) (i + 1) = if vAll tx mn N h i ≤ (wkB (vAll tx mn N h) i).2 then wkB (vAll tx mn N h) i else (i, vAll tx mn N h i) := rfl
    rw [← es1]
    rcases hmo with ⟨q1, q2⟩ | ⟨q1, q2⟩
    · subst q1; subst q2
      rw [if_neg (by rw [z_le, cm1, tv]; omega), if_neg (by rw [z_le, cm1, tv]; omega)]
      have q3 : (wkB (vAll tx mn N h) (0 + 1)).1 = 0 ∧ (wkB (vAll tx mn N h) (0 + 1)).2 = vAll tx mn N h 0 := by
        rw [es]
        by_cases hz : vAll tx mn N h 0 ≤ (wkB (vAll tx mn N h) 0).2
        · rw [if_pos hz]
          have hz : vAll tx mn N h 0 ≤ 0 := hz
          exact ⟨rfl, by show 0 = _; omega⟩
        · rw [if_neg hz]; exact ⟨rfl, rfl⟩
      obtain ⟨w3, e3, f3⟩ := m_walk hh what k F (0 + 1) w2 (nI (vAll tx mn N h 0)) (lSt_fr f hL) (PM_fr f hP) (by omega) (by omega) (Or.inr ⟨by omega, by rw [q3.2]⟩)
      rw [q3.1] at e3
      exact ⟨w3, e3, fr0_tr f f3⟩
    · subst q2
      by_cases hz : vAll tx mn N h i ≤ (wkB (vAll tx mn N h) i).2
      · have hz2 : nI (vAll tx mn N h i) ≤ nI (wkB (vAll tx mn N h) i).2 := by rw [z_le, tv, nI_toInt (by omega)]; omega
        rw [if_pos hz2, if_pos hz2]
        obtain ⟨w3, e3, f3⟩ := m_walk hh what k F (i + 1) w2 (nI (wkB (vAll tx mn N h) i).2) (lSt_fr f hL) (PM_fr f hP) (by omega) (by omega) (Or.inr ⟨by omega, by rw [es, if_pos hz]⟩)
        rw [es, if_pos hz] at e3
        exact ⟨w3, e3, fr0_tr f f3⟩
      · have hz2 : ¬ nI (vAll tx mn N h i) ≤ nI (wkB (vAll tx mn N h) i).2 := by rw [z_le, tv, nI_toInt (by omega)]; omega
        rw [if_neg hz2, if_neg hz2]
        obtain ⟨w3, e3, f3⟩ := m_walk hh what k F (i + 1) w2 (nI (vAll tx mn N h i)) (lSt_fr f hL) (PM_fr f hP) (by omega) (by omega) (Or.inr ⟨by omega, by rw [es, if_neg hz]⟩)
        rw [es, if_neg hz] at e3
        exact ⟨w3, e3, fr0_tr f f3⟩
theorem p_walk : j_walk := by
  intro a b w hJ
  show ∃ r w1 w2, f_X10_walk w a b = some (r, w1) ∧ f_X11_walk w1 a b = some (r, w2) ∧ Jn w2
  obtain ⟨tx, hL⟩ := lSt_of hJ
  obtain ⟨mn, st, N, hC, hM, -⟩ := PN_of hJ
  by_cases ha : 0 ≤ a.toInt ∧ a.toInt < 12
  · by_cases hb : 0 ≤ b.toInt ∧ b.toInt < 2
    · obtain ⟨h, hh⟩ : ∃ h, h = a.toInt.toNat := ⟨_, rfl⟩
      have ea : a = nI h := by rw [hh]; exact z_nI _ ha.1
      have h12 : h < 12 := by omega
      subst ea
      have eC : ∀ (o : Option (Int32 × qW)), f_X10_walk w (nI h) b = (if b = 0 then (q_cl (f_X7_shadyCells w (nI h)) (fun r7 w8 => some (r7, w8))) else (q_cl (f_X7_darkest w (nI h)) (fun r5 w6 => some (r5, w6)))) := by
        intro _
        unfold f_X10_walk
        rw [p_isHour, z_cl, bd_t ha.1 ha.2, if_neg n10, p_choice, z_cl, c2, bd_t hb.1 hb.2, if_neg n10]
      have eM : ∀ w1, f_X11_walk w1 (nI h) b = f_X11_walk_R31 q_fuel w1 (nI h) b (nI 0) (nI 0) (-1) (nI 0) := by
        intro w1
        unfold f_X11_walk
        rw [m_isHour, z_cl, bd_t ha.1 ha.2, if_neg n10, m_w01, z_cl, bd_t hb.1 hb.2, if_neg n10]
        rfl
      rw [eC none]
      by_cases h0 : b = 0
      · rw [if_pos h0]
        obtain ⟨w1, e1, f1⟩ := s_shady h12 144 q_fuel 0 w hL hC (by omega) (by rw [q_fuel_eq]; omega)
        obtain ⟨w2, e2, f2⟩ := m_walk h12 b 144 q_fuel 0 w1 (-1) (lSt_fr f1 hL) (PM_fr f1 hM) (by omega) (by rw [q_fuel_eq]; omega) (Or.inl ⟨rfl, rfl⟩)
        rw [if_pos h0] at e2
        refine ⟨nI (wkN (vAll tx mn N h) 144), w1, w2, ?_, ?_, Jn_fr0 (Jn_fr0 hJ f1) f2⟩
        · rw [show f_X7_shadyCells w (nI h) = _ from e1, z_cl]
        · rw [eM]; exact e2
      · rw [if_neg h0]
        obtain ⟨w1, e1, f1⟩ := s_dark h12 144 q_fuel 0 w hL hC (by omega) (by rw [q_fuel_eq]; omega)
        obtain ⟨w2, e2, f2⟩ := m_walk h12 b 144 q_fuel 0 w1 (-1) (lSt_fr f1 hL) (PM_fr f1 hM) (by omega) (by rw [q_fuel_eq]; omega) (Or.inl ⟨rfl, rfl⟩)
        rw [if_neg h0] at e2
        refine ⟨nI (wkB (vAll tx mn N h) 144).1, w1, w2, ?_, ?_, Jn_fr0 (Jn_fr0 hJ f1) f2⟩
        · rw [show f_X7_darkest w (nI h) = _ from e1, z_cl]
        · rw [eM]; exact e2
    · refine ⟨-1, w, w, ?_, ?_, hJ⟩
      · unfold f_X10_walk
        rw [p_isHour, z_cl, bd_t ha.1 ha.2, if_neg n10, p_choice, z_cl, c2, bd_f hb, if_pos rfl]
      · unfold f_X11_walk
        rw [m_isHour, z_cl, bd_t ha.1 ha.2, if_neg n10, m_w01, z_cl, bd_f hb, if_pos rfl]
  · refine ⟨-1, w, w, ?_, ?_, hJ⟩
    · unfold f_X10_walk
      rw [p_isHour, z_cl, bd_f ha, if_pos rfl]
    · unfold f_X11_walk
      rw [m_isHour, z_cl, bd_f ha, if_pos rfl]
