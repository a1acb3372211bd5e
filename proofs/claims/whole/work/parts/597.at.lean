/-! at, late -/
def fAt (tx : Option (List lw_Ln)) (mn : Nat) (N : Nat → Nat) (h : Nat) (b : Int32) (s : Nat) : Bool := if b = 0 then svd tx mn N s h else (wnt N s h && !svd tx mn N s h)
theorem m_at_R {tx : Option (List lw_Ln)} {mn st : Nat} {N : Nat → Nat} {h : Nat} (hh : h < 12) (b : Int32) : ∀ (k F i : Nat) (w : qW), lSt tx w → PM mn mn st N w → i + k = st → k < F → rto (f_X11_at_R44 F w (nI h) b (nI (mkb (fAt tx mn N h b) i)) (nI i)) (nI (mkb (fAt tx mn N h b) st)) w
  | 0, F + 1, i, w, hL, hP, h1, _ => by
    have h8 := hP.2.2.2.1
    show rto (f_X11_at_B44 (f_X11_at_R44 F) w (nI h) b (nI (mkb (fAt tx mn N h b) i)) (nI i)) _ w
    unfold f_X11_at_B44
    rw [hP.2.1, if_pos (nI_le (by omega) (by omega)), show i = st by omega]
    exact ⟨w, rfl, fr0_rf w⟩
  | k + 1, F + 1, i, w, hL, hP, h1, h2 => by
    have h7 := hP.2.2.1
    have h8 := hP.2.2.2.1
    show rto (f_X11_at_B44 (f_X11_at_R44 F) w (nI h) b (nI (mkb (fAt tx mn N h b) i)) (nI i)) _ w
    obtain ⟨w2, e, f⟩ := m_served (s := i) hL hP (evb_lt mn (by omega)) (evb_ok h7 (Nat.le_refl mn)) (by omega) hh
    rw [svS_evb h7] at e
    unfold f_X11_at_B44 f_X11_at_B101 f_X11_at_B94 f_X11_at_B102
    rw [hP.2.1, if_neg (nI_ge (by omega) (by omega)), m_evb hP, z_cl, e, z_cl, m_wants (PM_fr f hP) (by omega) hh]
    simp only [z_bn, z_cl, nI_1, Int32.or_zero]
    obtain ⟨w3, e3, f3⟩ := m_at_R hh b k F (i + 1) w2 (lSt_fr f hL) (PM_fr f hP) (by omega) (by omega)
    refine ⟨w3, ?_, fr0_tr f f3⟩
    have ef : fAt tx mn N h b i = if b = 0 then svd tx mn N i h else (wnt N i h && !svd tx mn N i h) := rfl
    by_cases hb : b = 0
    · rw [if_pos hb]
      rw [if_pos hb] at ef
      cases hv : svd tx mn N i h with
      | true => rw [if_neg bnz, mkb_or _ (by omega) (ef.trans hv)]; exact e3
      | false => rw [if_pos bz]; rw [mkb_no _ (ef.trans hv)] at e3; exact e3
    · rw [if_neg hb]
      rw [if_neg hb] at ef
      cases hv : svd tx mn N i h with
      | true =>
        rw [if_neg bnz]
        rw [hv] at ef
        rw [mkb_no _ (ef.trans (by cases wnt N i h <;> rfl))] at e3
        exact e3
      | false =>
        rw [if_pos bz]
        rw [hv] at ef
        cases hw : wnt N i h with
        | true => rw [hw] at ef; rw [if_neg bnz, mkb_or _ (by omega) ef]; exact e3
        | false => rw [hw] at ef; rw [if_pos bz]; rw [mkb_no _ ef] at e3; exact e3
theorem m_at {tx : Option (List lw_Ln)} {w : qW} {mn st : Nat} {N : Nat → Nat} {h : Nat} (hL : lSt tx w) (hM : PM mn mn st N w) (hh : h < 12) (b : Int32) (hb : 0 ≤ b.toInt ∧ b.toInt < 2) : rto (f_X11_at w (nI h) b) (nI (mkb (fAt tx mn N h b) st)) w := by
  have h8 := hM.2.2.2.1
  have th : (nI h).toInt = (h : Int) := nI_toInt (by omega)
  unfold f_X11_at f_X11_at_B19
  rw [if_neg (by rw [z_eq, c12, th]; omega), m_isHour, z_cl, bd_t (by rw [th]; omega) (by rw [th]; omega), if_neg n10, m_w01, z_cl, bd_t hb.1 hb.2, if_neg n10]
  exact m_at_R hh b st q_fuel 0 w hL hM (by omega) (by rw [q_fuel_eq]; omega)
theorem p_at : j_at := by
  intro a b w hJ
  show ∃ r w1 w2, f_X10_at w a b = some (r, w1) ∧ f_X11_at w1 a b = some (r, w2) ∧ Jn w2
  obtain ⟨tx, hL⟩ := lSt_of hJ
  obtain ⟨mn, st, N, hC, hM, -⟩ := PN_of hJ
  have h7 := hC.2.2.1
  have h8 := hC.2.2.2.1
  by_cases h120 : a = 12 ∧ b = 0
  · obtain ⟨e1, e2⟩ := h120
    subst e1; subst e2
    obtain ⟨w1, e1, f1, hd⟩ := s_weigh hL hC (a := 0) (b := 11) (by omega) (by omega)
    have hC1 := PC_fr1 f1 hC
    have hM1 := PM_fr1 f1 hM
    have e3 := s_missAll_R hC1 (fun s h hs hh => hd s h hs (by omega) (by omega)) (12 * st) q_fuel 0 (by omega) (by rw [q_fuel_eq]; omega)
    obtain ⟨w2, e2, f2⟩ := m_missesAll (lSt_fr1 f1 hL) hM1 (evb_lt mn (by omega)) (evb_ok h7 (Nat.le_refl mn))
    have eg : sm (fun s => sm (msN tx N (evb mn) s) 12) st = sm (fun q => if wnt N (q / 12) (q % 12) && !svd tx mn N (q / 12) (q % 12) then 1 else 0) (12 * st) := by
      rw [sm_pairs (fun s h => if wnt N s h && !svd tx mn N s h then 1 else 0) st]
      apply sm_congr
      intro s _
      apply sm_congr
      intro h _
      exact msN_evb h7
    rw [eg] at e2
    refine ⟨nI (sm (fun q => if wnt N (q / 12) (q % 12) && !svd tx mn N (q / 12) (q % 12) then 1 else 0) (12 * st)), w1, w2, ?_, ?_, Jn_fr0 (Jn_fr1 hJ f1) f2⟩
    · unfold f_X10_at f_X7_missesOfAll
      rw [if_pos rfl, if_pos rfl, show f_X7_weigh w 0 11 = _ from e1, z_cl, show f_X7_missesOfAll_R11 q_fuel w1 0 0 = _ from e3, z_cl]
    · unfold f_X11_at
      rw [if_pos rfl, if_pos rfl, m_evb hM1, z_cl, e2, z_cl]
  · have eC : f_X10_at w a b = f_X10_at_B18 w a b := by
      unfold f_X10_at
      by_cases h1 : a = 12
      · rw [if_pos h1, if_neg (fun h2 => h120 ⟨h1, h2⟩)]
      · rw [if_neg h1]
    have eM : ∀ w1, f_X11_at w1 a b = f_X11_at_B19 w1 a b := by
      intro w1
      unfold f_X11_at
      by_cases h1 : a = 12
      · rw [if_pos h1, if_neg (fun h2 => h120 ⟨h1, h2⟩)]
      · rw [if_neg h1]
    by_cases ha : 0 ≤ a.toInt ∧ a.toInt < 12
    · by_cases hb : 0 ≤ b.toInt ∧ b.toInt < 2
      · obtain ⟨h, hq⟩ : ∃ s, s = a.toInt.toNat := ⟨_, rfl⟩
        have ea : a = nI h := by rw [hq]; exact z_nI _ ha.1
        have hh : h < 12 := by omega
        subst ea
        have cls : ∃ w1, f_X10_at w (nI h) b = some (nI (mkb (fAt tx mn N h b) st), w1) ∧ fr1 w w1 := by
          rw [eC]
          unfold f_X10_at_B18
          rw [p_isHour, z_cl, bd_t ha.1 ha.2, if_neg n10, p_choice, z_cl, c2, bd_t hb.1 hb.2, if_neg n10]
          by_cases h0 : b = 0
          · obtain ⟨w1, e1, f1, hd⟩ := s_weigh hL hC (a := h) (b := h) (Nat.le_refl h) hh
            have e2 := s_servedAt (PC_fr1 f1 hC) hh (fun s hs => hd s h hs (Nat.le_refl h) (Nat.le_refl h)) st q_fuel 0 (by omega) (by rw [q_fuel_eq]; omega)
            have ef : fAt tx mn N h b = fun s => svd tx mn N s h := by
              funext s
              unfold fAt
              rw [if_pos h0]
            refine ⟨w1, ?_, f1⟩
            rw [if_pos h0, ef]
            unfold f_X7_servedAt
            rw [e1, z_cl, show f_X7_servedAt_R10 q_fuel w1 (nI h) 0 0 = _ from e2, z_cl]
          · obtain ⟨w1, e1, f1⟩ := s_missingAt hL hC hh
            have ef : fAt tx mn N h b = fun s => wnt N s h && !svd tx mn N s h := by
              funext s
              unfold fAt
              rw [if_neg h0]
            refine ⟨w1, ?_, f1⟩
            rw [if_neg h0, ef, e1, z_cl]
        obtain ⟨w1, e1, f1⟩ := cls
        obtain ⟨w2, e2, f2⟩ := m_at (lSt_fr1 f1 hL) (PM_fr1 f1 hM) hh b hb
        exact ⟨_, w1, w2, e1, e2, Jn_fr0 (Jn_fr1 hJ f1) f2⟩
      · refine ⟨-1, w, w, ?_, ?_, hJ⟩
        · rw [eC]
          unfold f_X10_at_B18
          rw [p_isHour, z_cl, bd_t ha.1 ha.2, if_neg n10, p_choice, z_cl, c2, bd_f hb, if_pos rfl]
        · rw [eM]
          unfold f_X11_at_B19
          rw [m_isHour, z_cl, bd_t ha.1 ha.2, if_neg n10, m_w01, z_cl, bd_f hb, if_pos rfl]
    · refine ⟨-1, w, w, ?_, ?_, hJ⟩
      · rw [eC]
        unfold f_X10_at_B18
        rw [p_isHour, z_cl, bd_f ha, if_pos rfl]
      · rw [eM]
        unfold f_X11_at_B19
        rw [m_isHour, z_cl, bd_f ha, if_pos rfl]
def lastS (f : Nat → Bool) : Nat → Int32
  | 0 => -2
  | k + 1 => if f k then nI k else lastS f k
theorem s_last {tx : Option (List lw_Ln)} {w : qW} {mn st : Nat} {N : Nat → Nat} (hP : PC mn st N w) {s H : Nat} (hs : s < st) (hH : H < 12) (hd : ∀ h, h ≤ H → dn tx mn N w s h) : ∀ (k F : Nat), k ≤ H + 1 → k < F → f_X7_lastServed_R8 F w (nI s) (nI k + (-1)) = some (lastS (svd tx mn N s) k, w)
  | 0, F + 1, _, _ => by
    show f_X7_lastServed_B8 (f_X7_lastServed_R8 F) w (nI s) (nI 0 + (-1)) = _
    unfold f_X7_lastServed_B8
    rw [if_pos (by decide)]
    rfl
  | k + 1, F + 1, h1, h2 => by
    have h8 := hP.2.2.2.1
    show f_X7_lastServed_B8 (f_X7_lastServed_R8 F) w (nI s) (nI (k + 1) + (-1)) = _
    unfold f_X7_lastServed_B8
    rw [nI_m1 k (by omega), if_neg (nI_pos (by omega)), n12 _ _ (by omega) (by omega), s_served hP hs (by omega) (hd k (by omega)), z_cl]
    have ih := s_last hP hs hH hd k F (by omega) (by omega)
    have es : lastS (svd tx mn N s) (k + 1) = if svd tx mn N s k then nI k else lastS (svd tx mn N s) k := rfl
    rw [es]
    cases hv : svd tx mn N s k with
    | true => rw [if_neg bnz, if_pos rfl]
    | false => rw [if_pos bz, z_bn, if_neg (show ¬ false = true by decide)]; exact ih
theorem m_late_R {tx : Option (List lw_Ln)} {mn st : Nat} {N : Nat → Nat} {s H : Nat} (hs : s < st) (hH : H < 12) : ∀ (k F i : Nat) (w : qW), lSt tx w → PM mn mn st N w → i + k = H + 1 → k < F → rto (f_X11_late_R25 F w (nI s) (nI H) (lastS (svd tx mn N s) i) (nI i)) (lastS (svd tx mn N s) (H + 1)) w
  | 0, F + 1, i, w, hL, hP, h1, _ => by
    show rto (f_X11_late_B25 (f_X11_late_R25 F) w (nI s) (nI H) (lastS (svd tx mn N s) i) (nI i)) _ w
    unfold f_X11_late_B25
    rw [if_pos (by rw [z_lt, nI_toInt (by omega), nI_toInt (by omega)]; omega), show i = H + 1 by omega]
    exact ⟨w, rfl, fr0_rf w⟩
  | k + 1, F + 1, i, w, hL, hP, h1, h2 => by
    have h7 := hP.2.2.1
    show rto (f_X11_late_B25 (f_X11_late_R25 F) w (nI s) (nI H) (lastS (svd tx mn N s) i) (nI i)) _ w
    obtain ⟨w2, e, f⟩ := m_served (h := i) hL hP (evb_lt mn (by omega)) (evb_ok h7 (Nat.le_refl mn)) hs (by omega)
    rw [svS_evb h7] at e
    unfold f_X11_late_B25 f_X11_late_B51
    rw [if_neg (by rw [z_lt, nI_toInt (by omega), nI_toInt (by omega)]; omega), m_evb hP, z_cl, e, z_cl]
    simp only [z_bn, nI_1]
    obtain ⟨w3, e3, f3⟩ := m_late_R hs hH k F (i + 1) w2 (lSt_fr f hL) (PM_fr f hP) (by omega) (by omega)
    have es : lastS (svd tx mn N s) (i + 1) = if svd tx mn N s i then nI i else lastS (svd tx mn N s) i := rfl
    rw [es] at e3
    refine ⟨w3, ?_, fr0_tr f f3⟩
    cases hv : svd tx mn N s i with
    | true => rw [hv] at e3; rw [if_neg bnz]; exact e3
    | false => rw [hv] at e3; rw [if_pos bz]; exact e3
theorem p_late : j_late := by
  intro a b w hJ
  show ∃ r w1 w2, f_X10_late w a b = some (r, w1) ∧ f_X11_late w1 a b = some (r, w2) ∧ Jn w2
  obtain ⟨tx, hL⟩ := lSt_of hJ
  obtain ⟨mn, st, N, hC, hM, -⟩ := PN_of hJ
  have h7 := hC.2.2.1
  have h8 := hC.2.2.2.1
  by_cases ha : 0 ≤ a.toInt ∧ a.toInt < (st : Int)
  · by_cases hb : 0 ≤ b.toInt ∧ b.toInt < 12
    · obtain ⟨s, hq⟩ : ∃ s, s = a.toInt.toNat := ⟨_, rfl⟩
      have ea : a = nI s := by rw [hq]; exact z_nI _ ha.1
      have hs : s < st := by omega
      obtain ⟨H, hq2⟩ : ∃ H, H = b.toInt.toNat := ⟨_, rfl⟩
      have eb : b = nI H := by rw [hq2]; exact z_nI _ hb.1
      have hH : H < 12 := by omega
      subst ea; subst eb
      obtain ⟨w1, e1, f1, hd⟩ := s_weigh hL hC (a := 0) (b := H) (by omega) hH
      have hC1 := PC_fr1 f1 hC
      have hM1 := PM_fr1 f1 hM
      have e3 := s_last hC1 hs hH (fun h hh => hd s h hs (by omega) hh) (H + 1) q_fuel (Nat.le_refl _) (by rw [q_fuel_eq]; omega)
      rw [nI_m1 H (by omega)] at e3
      obtain ⟨w2, e2, f2⟩ := m_late_R (tx := tx) hs hH (H + 1) q_fuel 0 w1 (lSt_fr1 f1 hL) hM1 (by omega) (by rw [q_fuel_eq]; omega)
      refine ⟨lastS (svd tx mn N s) (H + 1), w1, w2, ?_, ?_, Jn_fr0 (Jn_fr1 hJ f1) f2⟩
      · unfold f_X10_late f_X7_lastServed
        rw [s_has4 hC, z_cl, bd_t ha.1 ha.2, if_neg n10, p_isHour, z_cl, bd_t hb.1 hb.2, if_neg n10, show f_X7_weigh w 0 (nI H) = _ from e1, z_cl, e3, z_cl]
      · unfold f_X11_late
        rw [m_isSit hM1, z_cl, bd_t ha.1 ha.2, if_neg n10, m_isHour, z_cl, bd_t hb.1 hb.2, if_neg n10]
        exact e2
    · refine ⟨-1, w, w, ?_, ?_, hJ⟩
      · unfold f_X10_late
        rw [s_has4 hC, z_cl, bd_t ha.1 ha.2, if_neg n10, p_isHour, z_cl, bd_f hb, if_pos rfl]
      · unfold f_X11_late
        rw [m_isSit hM, z_cl, bd_t ha.1 ha.2, if_neg n10, m_isHour, z_cl, bd_f hb, if_pos rfl]
  · refine ⟨-1, w, w, ?_, ?_, hJ⟩
    · unfold f_X10_late
      rw [s_has4 hC, z_cl, bd_f ha, if_pos rfl]
    · unfold f_X11_late
      rw [m_isSit hM, z_cl, bd_f ha, if_pos rfl]
