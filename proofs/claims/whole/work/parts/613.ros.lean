/-! roster -/
def rsV (tx : Option (List lw_Ln)) (mn st : Nat) (N : Nat → Nat) (h : Nat) : Nat := amU (kPay N mn 0) (enH tx mn st N h) (evb mn) (evb mn)
theorem rsV_lt {tx : Option (List lw_Ln)} {mn st : Nat} {N : Nat → Nat} (h7 : mn ≤ 7) (h : Nat) : rsV tx mn st N h < 128 := by
  have h128 := p2_128 h7
  have hev := evb_1 mn
  have := amU_le (kPay N mn 0) (enH tx mn st N h) (M := evb mn) (k := evb mn) (Nat.le_refl _)
  unfold rsV
  omega
theorem m_ros_R {tx : Option (List lw_Ln)} {mn st : Nat} {N : Nat → Nat} {h : Nat} (hh : h < 12) : ∀ (k F b : Nat) (w : qW), lSt tx w → PM mn mn st N w → b < 2 ^ mn → k ≤ b → k < F → rto (f_X11_rosterAt_R12 F w (nI h) (nI b) (nI k + (-1))) (nI (amD (kPay N mn 0) (enH tx mn st N h) k b)) w
  | 0, F + 1, b, w, hL, hP, hb, _, _ => by
    show rto (f_X11_rosterAt_B12 (f_X11_rosterAt_R12 F) w (nI h) (nI b) (nI 0 + (-1))) (nI b) w
    unfold f_X11_rosterAt_B12
    rw [if_pos (by decide)]
    exact ⟨w, rfl, fr0_rf w⟩
  | k + 1, F + 1, b, w, hL, hP, hb, hkb, h2 => by
    have h7 := hP.2.2.1
    have h128 := p2_128 h7
    have y1 := payM_le hP k mn (Nat.le_refl mn)
    have y2 := payM_le hP b mn (Nat.le_refl mn)
    have ek : ∀ x, kPay N mn 0 x = 2048 * payS N x mn + x := fun x => by show 2048 * payS N x mn + 128 * (if (0 : Int32) = 0 then 0 else pc x 12) + x = _; rw [if_pos rfl]; omega
    show rto (f_X11_rosterAt_B12 (f_X11_rosterAt_R12 F) w (nI h) (nI b) (nI (k + 1) + (-1))) (nI (amD (kPay N mn 0) (enH tx mn st N h) k (if (enH tx mn st N h k && decide (kPay N mn 0 k < kPay N mn 0 b)) = true then k else b))) w
    unfold f_X11_rosterAt_B12 f_X11_rosterAt_B40
    rw [nI_m1 k (by omega), if_neg (nI_pos (by omega)), m_pay hP (Nat.le_refl mn) (by omega), z_cl, m_pay hP (Nat.le_refl mn) (by omega), z_cl]
    simp only [z_bn]
    by_cases hc : payS N b mn < payS N k mn
    · rw [if_pos (by rw [z_lt, nI_toInt (by omega), nI_toInt (by omega)]; omega), decide_eq_false (by rw [ek, ek]; omega), Bool.and_false, if_neg (show ¬ false = true by decide)]
      exact m_ros_R hh k F b w hL hP hb (by omega) (by omega)
    · obtain ⟨w6, e6, f6⟩ := m_isEnoughAt hL hP (set := k) (by omega) hh
      rw [if_neg (by rw [z_lt, nI_toInt (by omega), nI_toInt (by omega)]; omega), decide_eq_true (by rw [ek, ek]; omega), Bool.and_true, e6, z_cl]
      cases hv : enH tx mn st N h k with
      | true =>
        obtain ⟨w3, e3, f3⟩ := m_ros_R (tx := tx) (N := N) hh k F k w6 (lSt_fr f6 hL) (PM_fr f6 hP) (by omega) (Nat.le_refl k) (by omega)
        rw [if_neg bnz, if_pos rfl]
        exact ⟨w3, e3, fr0_tr f6 f3⟩
      | false =>
        obtain ⟨w3, e3, f3⟩ := m_ros_R (tx := tx) (N := N) hh k F b w6 (lSt_fr f6 hL) (PM_fr f6 hP) hb (by omega) (by omega)
        rw [if_pos bz, if_neg (show ¬ false = true by decide)]
        exact ⟨w3, e3, fr0_tr f6 f3⟩
theorem m_rosterAt {tx : Option (List lw_Ln)} {w : qW} {mn st : Nat} {N : Nat → Nat} {h : Nat} (hL : lSt tx w) (hP : PM mn mn st N w) (hh : h < 12) : rto (f_X11_rosterAt w (nI h)) (nI (rsV tx mn st N h)) w := by
  have h128 := p2_128 hP.2.2.1
  have hev := evb_1 mn
  have e := m_ros_R (tx := tx) (N := N) hh (evb mn) q_fuel (evb mn) w hL hP (by omega) (Nat.le_refl _) (by rw [q_fuel_eq]; omega)
  rw [am_eq (key := kPay N mn 0) (en := enH tx mn st N h) (M := evb mn) (kap_inj (by omega))] at e
  unfold f_X11_rosterAt
  rw [m_evb hP, z_cl, m_evb hP, z_cl, z_bn, show nI (evb mn) - 1 = nI (evb mn) + (-1) from Int32.sub_eq_add_neg _ _]
  exact e
theorem m_roster_R {tx : Option (List lw_Ln)} {mn st : Nat} {N : Nat → Nat} : ∀ (k F i : Nat) (w : qW), lSt tx w → PM mn mn st N w → i + k = 12 → k < F → rto (f_X11_roster_R30 F w (nI (sm (fun h => payS N (rsV tx mn st N h) mn) i)) (nI i)) (nI (sm (fun h => payS N (rsV tx mn st N h) mn) 12)) w
  | 0, F + 1, i, w, hL, hP, h1, _ => by
    have hi : i = 12 := by omega
    subst hi
    show rto (f_X11_roster_B30 (f_X11_roster_R30 F) w _ (nI 12)) _ w
    unfold f_X11_roster_B30
    rw [if_pos (by decide)]
    exact ⟨w, rfl, fr0_rf w⟩
  | k + 1, F + 1, i, w, hL, hP, h1, h2 => by
    have h7 := hP.2.2.1
    have hr := rsV_lt (tx := tx) (st := st) (N := N) h7 i
    obtain ⟨w2, e2, f2⟩ := m_rosterAt hL hP (h := i) (by omega)
    obtain ⟨w3, e3, f3⟩ := m_roster_R (tx := tx) (N := N) k F (i + 1) w2 (lSt_fr f2 hL) (PM_fr f2 hP) (by omega) (by omega)
    refine ⟨w3, ?_, fr0_tr f2 f3⟩
    show f_X11_roster_B30 (f_X11_roster_R30 F) w _ (nI i) = _
    unfold f_X11_roster_B30
    rw [if_neg (by rw [z_le, c12, nI_toInt (by omega)]; omega), e2, z_cl, m_pay (PM_fr f2 hP) (Nat.le_refl mn) (by omega), z_cl, z_bn, z_bn, nI_add, nI_1]
    exact e3
theorem s_rosters_R {tx : Option (List lw_Ln)} {w : qW} {mn st : Nat} {N : Nat → Nat} (hP : PC mn st N w) (h14 : ∀ set, set < 2 ^ mn → q_A w 14 set = nI (fld tx mn st N set)) : ∀ (k F i : Nat), i + k = 12 → k < F → f_X7_payOfRosters_R8 F w (nI (sm (fun h => payS N (rsV tx mn st N h) mn) i)) (nI i) = some (nI (sm (fun h => payS N (rsV tx mn st N h) mn) 12), w)
  | 0, F + 1, i, h1, _ => by
    have hi : i = 12 := by omega
    subst hi
    show f_X7_payOfRosters_B8 (f_X7_payOfRosters_R8 F) w _ (nI 12) = _
    unfold f_X7_payOfRosters_B8
    rw [if_pos (by decide)]
  | k + 1, F + 1, i, h1, h2 => by
    have h7 := hP.2.2.1
    have hr := rsV_lt (tx := tx) (st := st) (N := N) h7 i
    have ih := s_rosters_R hP h14 k F (i + 1) (by omega) (by omega)
    have e2 : f_X7_cheapestSet w ((1 : Int32) <<< (nI i &&& 31)) 0 = some (nI (rsV tx mn st N i), w) := s_cheapSet hP _ 0 (en_at h14 (by omega))
    show f_X7_payOfRosters_B8 (f_X7_payOfRosters_R8 F) w _ (nI i) = _
    unfold f_X7_payOfRosters_B8
    rw [if_neg (by rw [z_le, c12, nI_toInt (by omega)]; omega), e2, z_cl, s_pay hP (by omega), z_cl, z_bn, z_bn, nI_add, nI_1]
    exact ih
theorem m_w012 (w : qW) (a : Int32) : f_X11_within w (Int32.toInt64 a) 0 12 = some (b2i (decide (0 ≤ a.toInt) && decide (a.toInt < 13)), w) := by
  rw [p_within32, d0, d12]
  by_cases h : 0 ≤ a.toInt ∧ a.toInt < 13
  · rw [bd_t h.1 (show a.toInt ≤ 12 by omega), bd_t h.1 h.2]
  · rw [bd_f (show ¬ (0 ≤ a.toInt ∧ a.toInt ≤ 12) by omega), bd_f h]
theorem p_roster : j_roster := by
  intro a w hJ
  show ∃ r w1 w2, f_X10_roster w a = some (r, w1) ∧ f_X11_roster w1 a = some (r, w2) ∧ Jn w2
  obtain ⟨tx, hL⟩ := lSt_of hJ
  obtain ⟨mn, st, N, hC, hM, -⟩ := PN_of hJ
  by_cases h12 : a = 12
  · obtain ⟨w1, e1, f1, h14⟩ := s_weighSets hL hC
    have hM1 := PM_fr1 f1 hM
    have e2 := s_rosters_R (PC_fr1 f1 hC) h14 12 q_fuel 0 (by omega) (by rw [q_fuel_eq]; omega)
    obtain ⟨w2, e3, f2⟩ := m_roster_R (tx := tx) (N := N) 12 q_fuel 0 w1 (lSt_fr1 f1 hL) hM1 (by omega) (by rw [q_fuel_eq]; omega)
    refine ⟨nI (sm (fun h => payS N (rsV tx mn st N h) mn) 12), w1, w2, ?_, ?_, Jn_fr0 (Jn_fr1 hJ f1) f2⟩
    · unfold f_X10_roster f_X7_payOfRosters
      rw [if_pos h12, e1, z_cl, show f_X7_payOfRosters_R8 q_fuel w1 0 0 = _ from e2, z_cl]
    · unfold f_X11_roster
      rw [m_w012, z_cl, bd_t (by rw [h12, c12]; omega) (by rw [h12, c12]; omega), if_neg n10, if_pos (by rw [h12]; decide)]
      exact e3
  · have h12' : ¬ a.toInt = 12 := by rw [z_eq, c12] at h12; exact h12
    by_cases ha : 0 ≤ a.toInt ∧ a.toInt < 12
    · obtain ⟨h, hq⟩ : ∃ s, s = a.toInt.toNat := ⟨_, rfl⟩
      have ea : a = nI h := by rw [hq]; exact z_nI _ ha.1
      have hh : h < 12 := by omega
      obtain ⟨w1, e1, f1, h14⟩ := s_weighSets hL hC
      have hM1 := PM_fr1 f1 hM
      have e2 : f_X7_cheapestSet w1 ((1 : Int32) <<< (nI h &&& 31)) 0 = some (nI (rsV tx mn st N h), w1) := s_cheapSet (PC_fr1 f1 hC) _ 0 (en_at h14 hh)
      obtain ⟨w2, e3, f2⟩ := m_rosterAt (lSt_fr1 f1 hL) hM1 hh
      refine ⟨nI (rsV tx mn st N h), w1, w2, ?_, ?_, Jn_fr0 (Jn_fr1 hJ f1) f2⟩
      · unfold f_X10_roster f_X7_rosterAt
        rw [if_neg h12, p_isHour, z_cl, bd_t ha.1 ha.2, if_neg n10, e1, z_cl, ea, e2, z_cl, z_cl]
      · unfold f_X11_roster
        rw [m_w012, z_cl, bd_t ha.1 (by omega), if_neg n10, if_neg (by rw [z_le, c12]; omega), ea, e3, z_cl]
    · refine ⟨-1, w, w, ?_, ?_, hJ⟩
      · unfold f_X10_roster
        rw [if_neg h12, p_isHour, z_cl, bd_f ha, if_pos rfl]
      · unfold f_X11_roster
        rw [m_w012, z_cl, bd_f (by omega), if_pos rfl]
