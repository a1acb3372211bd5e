/-! served, at, late, share -/
theorem s_has4 {w : qW} {mn st : Nat} {N : Nat → Nat} (hP : PC mn st N w) (a : Int32) : f_X4_has w a 4 = some (b2i (decide (0 ≤ a.toInt) && decide (a.toInt < (st : Int))), w) := by
  have h8 := hP.2.2.2.1
  have hs := has_sit (w := w) (n := a) 4 (by omega)
  have t : (q_I w 1 2).toInt = (st : Int) := by rw [hP.2.1, nI_toInt (by omega)]
  rw [t] at hs
  by_cases h : 0 ≤ a.toInt ∧ a.toInt < (st : Int)
  · rw [bd_t h.1 h.2]; exact p_has_t (hs.mpr h)
  · rw [bd_f h]; exact p_has_f (fun q => h (hs.mp q))
theorem s_has0 {w : qW} {mn st : Nat} {N : Nat → Nat} (hP : PC mn st N w) (a : Int32) : f_X4_has w a 0 = some (b2i (decide (0 ≤ a.toInt) && decide (a.toInt < (mn : Int))), w) := by
  have h8 := hP.2.2.1
  have hs := has_men (w := w) (n := a) 0 (by omega)
  have t : (q_I w 1 1).toInt = (mn : Int) := by rw [hP.1, nI_toInt (by omega)]
  rw [t] at hs
  by_cases h : 0 ≤ a.toInt ∧ a.toInt < (mn : Int)
  · rw [bd_t h.1 h.2]; exact p_has_t (hs.mpr h)
  · rw [bd_f h]; exact p_has_f (fun q => h (hs.mp q))
def msN (tx : Option (List lw_Ln)) (N : Nat → Nat) (set s h : Nat) : Nat := if wnt N s h && !svS tx N set s h then 1 else 0
theorem m_missesOf_R {tx : Option (List lw_Ln)} {mn mk st : Nat} {N : Nat → Nat} {set s : Nat} (hset : set < 256) (hsm : ∀ m, m < 8 → set.testBit m = true → m < mk) (hs : s < st) : ∀ (k F i : Nat) (w : qW), lSt tx w → PM mn mk st N w → i + k = 12 → k < F → rto (f_X11_missesOf_R5 F w (nI s) (nI set) (nI (sm (msN tx N set s) i)) (nI i)) (nI (sm (msN tx N set s) 12)) w
  | 0, F + 1, i, w, hL, hP, h1, _ => by
    have hi : i = 12 := by omega
    subst hi
    show rto (f_X11_missesOf_B5 (f_X11_missesOf_R5 F) w (nI s) (nI set) (nI (sm (msN tx N set s) 12)) (nI 12)) _ w
    unfold f_X11_missesOf_B5
    rw [if_pos (by decide)]
    exact ⟨w, rfl, fr0_rf w⟩
  | k + 1, F + 1, i, w, hL, hP, h1, h2 => by
    show rto (f_X11_missesOf_B5 (f_X11_missesOf_R5 F) w (nI s) (nI set) (nI (sm (msN tx N set s) i)) (nI i)) _ w
    unfold f_X11_missesOf_B5
    rw [if_neg (by rw [z_le, c12, nI_toInt (by omega)]; omega), m_wants hP hs (by omega), z_cl]
    have es : sm (msN tx N set s) (i + 1) = sm (msN tx N set s) i + msN tx N set s i := rfl
    have em : msN tx N set s i = if wnt N s i && !svS tx N set s i then 1 else 0 := rfl
    cases hw : wnt N s i with
    | false =>
      rw [if_pos bz]
      unfold f_X11_missesOf_B38 f_X11_missesOf_B39
      rw [z_bn, z_bn, Int32.add_zero, nI_1]
      have := m_missesOf_R (tx := tx) (N := N) (mn := mn) hset hsm hs k F (i + 1) w hL hP (by omega) (by omega)
      rw [es, em, hw] at this
      exact this
    | true =>
      obtain ⟨w2, e, f⟩ := m_served (h := i) hL hP hset hsm hs (by omega)
      rw [if_neg bnz, e, z_cl]
      obtain ⟨w3, e3, f3⟩ := m_missesOf_R (tx := tx) (N := N) (mn := mn) hset hsm hs k F (i + 1) w2 (lSt_fr f hL) (PM_fr f hP) (by omega) (by omega)
      unfold f_X11_missesOf_B38 f_X11_missesOf_B39
      simp only [z_bn, Int32.add_zero, nI_1]
      rw [es, em, hw] at e3
      refine ⟨w3, ?_, fr0_tr f f3⟩
      cases hv : svS tx N set s i with
      | true => rw [hv] at e3; rw [if_neg bnz]; exact e3
      | false => rw [hv] at e3; rw [if_pos bz]; exact e3
theorem m_missesOf {tx : Option (List lw_Ln)} {w : qW} {mn mk st : Nat} {N : Nat → Nat} {set s : Nat} (hL : lSt tx w) (hP : PM mn mk st N w) (hset : set < 256) (hsm : ∀ m, m < 8 → set.testBit m = true → m < mk) (hs : s < st) : rto (f_X11_missesOf w (nI s) (nI set)) (nI (sm (msN tx N set s) 12)) w := m_missesOf_R hset hsm hs 12 q_fuel 0 w hL hP (by omega) (by rw [q_fuel_eq]; omega)
theorem m_missesAll_R {tx : Option (List lw_Ln)} {mn mk st : Nat} {N : Nat → Nat} {set : Nat} (hset : set < 256) (hsm : ∀ m, m < 8 → set.testBit m = true → m < mk) : ∀ (k F i : Nat) (w : qW), lSt tx w → PM mn mk st N w → i + k = st → k < F → rto (f_X11_missesAll_R4 F w (nI set) (nI (sm (fun s => sm (msN tx N set s) 12) i)) (nI i)) (nI (sm (fun s => sm (msN tx N set s) 12) st)) w
  | 0, F + 1, i, w, hL, hP, h1, _ => by
    have h8 := hP.2.2.2.1
    show rto (f_X11_missesAll_B4 (f_X11_missesAll_R4 F) w (nI set) (nI (sm (fun s => sm (msN tx N set s) 12) i)) (nI i)) _ w
    unfold f_X11_missesAll_B4
    rw [hP.2.1, if_pos (nI_le (by omega) (by omega)), show i = st by omega]
    exact ⟨w, rfl, fr0_rf w⟩
  | k + 1, F + 1, i, w, hL, hP, h1, h2 => by
    have h8 := hP.2.2.2.1
    show rto (f_X11_missesAll_B4 (f_X11_missesAll_R4 F) w (nI set) (nI (sm (fun s => sm (msN tx N set s) 12) i)) (nI i)) _ w
    obtain ⟨w2, e, f⟩ := m_missesOf (s := i) hL hP hset hsm (by omega)
    unfold f_X11_missesAll_B4
    rw [hP.2.1, if_neg (nI_ge (by omega) (by omega)), e, z_cl, z_bn, z_bn, nI_add, nI_1]
    obtain ⟨w3, e3, f3⟩ := m_missesAll_R (tx := tx) (N := N) (mn := mn) hset hsm k F (i + 1) w2 (lSt_fr f hL) (PM_fr f hP) (by omega) (by omega)
    exact ⟨w3, e3, fr0_tr f f3⟩
theorem m_missesAll {tx : Option (List lw_Ln)} {w : qW} {mn mk st : Nat} {N : Nat → Nat} {set : Nat} (hL : lSt tx w) (hP : PM mn mk st N w) (hset : set < 256) (hsm : ∀ m, m < 8 → set.testBit m = true → m < mk) : rto (f_X11_missesAll w (nI set)) (nI (sm (fun s => sm (msN tx N set s) 12) st)) w := by
  have h8 := hP.2.2.2.1
  exact m_missesAll_R hset hsm st q_fuel 0 w hL hP (by omega) (by rw [q_fuel_eq]; omega)
theorem msN_evb {tx : Option (List lw_Ln)} {mn : Nat} {N : Nat → Nat} {s h : Nat} (hm : mn ≤ 7) : msN tx N (evb mn) s h = if wnt N s h && !svd tx mn N s h then 1 else 0 := by
  unfold msN
  rw [svS_evb hm]
/-! the class's loops over what was weighed -/
theorem s_hours {tx : Option (List lw_Ln)} {w : qW} {mn st : Nat} {N : Nat → Nat} (hP : PC mn st N w) {s : Nat} (hs : s < st) (hd : ∀ h, h < 12 → dn tx mn N w s h) : ∀ (k F i : Nat), i + k = 12 → k < F → f_X7_hoursOf_R11 F w (nI s) (nI (mkb (svd tx mn N s) i)) (nI i) = some (nI (mkb (svd tx mn N s) 12), w)
  | 0, F + 1, i, h1, _ => by
    have hi : i = 12 := by omega
    subst hi
    show f_X7_hoursOf_B11 (f_X7_hoursOf_R11 F) w (nI s) (nI (mkb (svd tx mn N s) 12)) (nI 12) = _
    unfold f_X7_hoursOf_B11
    rw [if_pos (by decide)]
  | k + 1, F + 1, i, h1, h2 => by
    have h8 := hP.2.2.2.1
    show f_X7_hoursOf_B11 (f_X7_hoursOf_R11 F) w (nI s) (nI (mkb (svd tx mn N s) i)) (nI i) = _
    unfold f_X7_hoursOf_B11 f_X7_hoursOf_B36
    rw [if_neg (by rw [z_le, c12, nI_toInt (by omega)]; omega), n12 _ _ (by omega) (by omega), s_served hP hs (by omega) (hd i (by omega)), z_cl, z_bn, z_bn, nI_1]
    have ih := s_hours hP hs hd k F (i + 1) (by omega) (by omega)
    cases hv : svd tx mn N s i with
    | true => rw [if_neg bnz, z_bn, mkb_or _ (by omega) hv]; exact ih
    | false => rw [if_pos bz]; rw [mkb_no _ hv] at ih; exact ih
theorem s_servedAt {tx : Option (List lw_Ln)} {w : qW} {mn st : Nat} {N : Nat → Nat} (hP : PC mn st N w) {h : Nat} (hh : h < 12) (hd : ∀ s, s < st → dn tx mn N w s h) : ∀ (k F i : Nat), i + k = st → k < F → f_X7_servedAt_R10 F w (nI h) (nI (mkb (fun s => svd tx mn N s h) i)) (nI i) = some (nI (mkb (fun s => svd tx mn N s h) st), w)
  | 0, F + 1, i, h1, _ => by
    have h8 := hP.2.2.2.1
    show f_X7_servedAt_B10 (f_X7_servedAt_R10 F) w (nI h) (nI (mkb (fun s => svd tx mn N s h) i)) (nI i) = _
    unfold f_X7_servedAt_B10
    rw [hP.2.1, if_pos (nI_le (by omega) (by omega)), show i = st by omega]
  | k + 1, F + 1, i, h1, h2 => by
    have h8 := hP.2.2.2.1
    show f_X7_servedAt_B10 (f_X7_servedAt_R10 F) w (nI h) (nI (mkb (fun s => svd tx mn N s h) i)) (nI i) = _
    unfold f_X7_servedAt_B10 f_X7_servedAt_B40
    rw [hP.2.1, if_neg (nI_ge (by omega) (by omega)), n12 _ _ (by omega) (by omega), s_served hP (by omega) hh (hd i (by omega)), z_cl, z_bn, z_bn, nI_1]
    have ih := s_servedAt hP hh hd k F (i + 1) (by omega) (by omega)
    cases hv : svd tx mn N i h with
    | true => rw [if_neg bnz, z_bn, mkb_or (fun s => svd tx mn N s h) (by omega) hv]; exact ih
    | false => rw [if_pos bz]; rw [mkb_no (fun s => svd tx mn N s h) hv] at ih; exact ih
theorem s_missAt {w : qW} {mn st : Nat} {N : Nat → Nat} (hP : PC mn st N w) {h : Nat} (hh : h < 12) (V : Int32) : ∀ (k F i : Nat), i + k = st → k < F → f_X7_missingAt_R11 F w (nI h) V (nI (mkb (fun s => wnt N s h) i)) (nI i) = some (nI (mkb (fun s => wnt N s h) st) &&& (V ^^^ (-1)), w)
  | 0, F + 1, i, h1, _ => by
    have h8 := hP.2.2.2.1
    show f_X7_missingAt_B11 (f_X7_missingAt_R11 F) w (nI h) V (nI (mkb (fun s => wnt N s h) i)) (nI i) = _
    unfold f_X7_missingAt_B11
    rw [hP.2.1, if_pos (nI_le (by omega) (by omega)), show i = st by omega]
  | k + 1, F + 1, i, h1, h2 => by
    have h8 := hP.2.2.2.1
    show f_X7_missingAt_B11 (f_X7_missingAt_R11 F) w (nI h) V (nI (mkb (fun s => wnt N s h) i)) (nI i) = _
    unfold f_X7_missingAt_B11 f_X7_missingAt_B44
    rw [hP.2.1, if_neg (nI_ge (by omega) (by omega)), n12 _ _ (by omega) (by omega), s_wanted hP (by omega) hh, z_cl, z_bn, z_bn, nI_1]
    have ih := s_missAt hP hh V k F (i + 1) (by omega) (by omega)
    cases hv : wnt N i h with
    | true => rw [if_neg bnz, z_bn, mkb_or (fun s => wnt N s h) (by omega) hv]; exact ih
    | false => rw [if_pos bz]; rw [mkb_no (fun s => wnt N s h) hv] at ih; exact ih
theorem s_missingAt {tx : Option (List lw_Ln)} {w : qW} {mn st : Nat} {N : Nat → Nat} (hL : lSt tx w) (hP : PC mn st N w) {h : Nat} (hh : h < 12) : ∃ w2, f_X7_missingAt w (nI h) = some (nI (mkb (fun s => wnt N s h && !svd tx mn N s h) st), w2) ∧ fr1 w w2 := by
  have h8 := hP.2.2.2.1
  obtain ⟨w2, e, f, hd⟩ := s_weigh hL hP (a := h) (b := h) (Nat.le_refl h) hh
  have hP2 := PC_fr1 f hP
  refine ⟨w2, ?_, f⟩
  have e1 := s_servedAt hP2 hh (fun s hs => hd s h hs (Nat.le_refl h) (Nat.le_refl h)) st q_fuel 0 (by omega) (by rw [q_fuel_eq]; omega)
  have l1 : 2 ^ st ≤ 2 ^ 8 := Nat.pow_le_pow_right (by omega) h8
  have l1 : 2 ^ st ≤ 256 := l1
  have l2 := mkb_lt (fun s => wnt N s h) st
  have l3 := mkb_lt (fun s => svd tx mn N s h) st
  have e2 := s_missAt hP2 hh (nI (mkb (fun s => svd tx mn N s h) st)) st q_fuel 0 (by omega) (by rw [q_fuel_eq]; omega)
  rw [i_andn (by omega) (by omega), andn_mkb _ _ (by omega)] at e2
  unfold f_X7_missingAt f_X7_servedAt
  rw [e, z_cl, show f_X7_servedAt_R10 q_fuel w2 (nI h) 0 0 = _ from e1, z_cl]
  exact e2
theorem sm_pairs (g : Nat → Nat → Nat) : ∀ n, sm (fun q => g (q / 12) (q % 12)) (12 * n) = sm (fun s => sm (g s) 12) n
  | 0 => rfl
  | n + 1 => by
    show _ = sm (fun s => sm (g s) 12) n + sm (g n) 12
    rw [← sm_pairs g n]
    have a : ∀ k, k ≤ 12 → sm (fun q => g (q / 12) (q % 12)) (12 * n + k) = sm (fun q => g (q / 12) (q % 12)) (12 * n) + sm (g n) k := by
      intro k
      induction k with
      | zero => intro _; rfl
      | succ k ih =>
        intro hk
        show sm (fun q => g (q / 12) (q % 12)) (12 * n + k) + g ((12 * n + k) / 12) ((12 * n + k) % 12) = sm (fun q => g (q / 12) (q % 12)) (12 * n) + (sm (g n) k + g n k)
        rw [ih (by omega), show (12 * n + k) / 12 = n by omega, show (12 * n + k) % 12 = k by omega, Nat.add_assoc]
    exact a 12 (by omega)
theorem s_missAll_R {tx : Option (List lw_Ln)} {w : qW} {mn st : Nat} {N : Nat → Nat} (hP : PC mn st N w) (hd : ∀ s h, s < st → h < 12 → dn tx mn N w s h) : ∀ (k F i : Nat), i + k = 12 * st → k < F → f_X7_missesOfAll_R11 F w (nI (sm (fun q => if wnt N (q / 12) (q % 12) && !svd tx mn N (q / 12) (q % 12) then 1 else 0) i)) (nI i) = some (nI (sm (fun q => if wnt N (q / 12) (q % 12) && !svd tx mn N (q / 12) (q % 12) then 1 else 0) (12 * st)), w)
  | 0, F + 1, i, h1, _ => by
    have h8 := hP.2.2.2.1
    show f_X7_missesOfAll_B11 (f_X7_missesOfAll_R11 F) w _ (nI i) = _
    unfold f_X7_missesOfAll_B11
    rw [hP.2.1, show (12 : Int32) * nI st = nI (12 * st) from i_mul (a := 12) (by omega) (by omega) (by omega), if_pos (nI_le (by omega) (by omega)), show i = 12 * st by omega]
  | k + 1, F + 1, i, h1, h2 => by
    have h8 := hP.2.2.2.1
    obtain ⟨s, h, hi, hs, hh⟩ : ∃ s h, i = 12 * s + h ∧ s < st ∧ h < 12 := ⟨i / 12, i % 12, by omega, by omega, by omega⟩
    have ih := s_missAll_R hP hd k F (i + 1) (by omega) (by omega)
    show f_X7_missesOfAll_B11 (f_X7_missesOfAll_R11 F) w _ (nI i) = _
    unfold f_X7_missesOfAll_B11 f_X7_missesOfAll_B44
    have es : sm (fun q => if wnt N (q / 12) (q % 12) && !svd tx mn N (q / 12) (q % 12) then 1 else 0) (i + 1) = sm (fun q => if wnt N (q / 12) (q % 12) && !svd tx mn N (q / 12) (q % 12) then 1 else 0) i + (if wnt N (i / 12) (i % 12) && !svd tx mn N (i / 12) (i % 12) then 1 else 0) := rfl
    rw [es, show i / 12 = s by omega, show i % 12 = h by omega] at ih
    rw [hP.2.1, show (12 : Int32) * nI st = nI (12 * st) from i_mul (a := 12) (by omega) (by omega) (by omega), if_neg (nI_ge (by omega) (by omega))]
    rw [show f_X7_isWanted w (nI i) = some (b2i (wnt N s h), w) from by rw [hi]; exact s_wanted hP hs hh, z_cl]
    rw [show f_X7_isServed w (nI i) = some (b2i (svd tx mn N s h), w) from by rw [hi]; exact s_served hP hs hh (hd s h hs hh)]
    simp only [z_bn, z_cl, nI_1]
    cases hw : wnt N s h with
    | false => rw [hw] at ih; rw [if_pos bz]; exact ih
    | true =>
      rw [hw] at ih
      rw [if_neg bnz]
      cases hv : svd tx mn N s h with
      | true => rw [hv] at ih; rw [if_neg bnz]; exact ih
      | false => rw [hv] at ih; rw [if_pos bz]; exact ih
theorem m_servedH {tx : Option (List lw_Ln)} {mn st : Nat} {N : Nat → Nat} {s : Nat} (hs : s < st) : ∀ (k F i : Nat) (w : qW), lSt tx w → PM mn mn st N w → i + k = 12 → k < F → rto (f_X11_served_R41 F w (nI s) (nI (mkb (svd tx mn N s) i)) (nI i)) (nI (mkb (svd tx mn N s) 12)) w
  | 0, F + 1, i, w, hL, hP, h1, _ => by
    have hi : i = 12 := by omega
    subst hi
    show rto (f_X11_served_B41 (f_X11_served_R41 F) w (nI s) (nI (mkb (svd tx mn N s) 12)) (nI 12)) _ w
    unfold f_X11_served_B41
    rw [if_pos (by decide)]
    exact ⟨w, rfl, fr0_rf w⟩
  | k + 1, F + 1, i, w, hL, hP, h1, h2 => by
    have h7 := hP.2.2.1
    show rto (f_X11_served_B41 (f_X11_served_R41 F) w (nI s) (nI (mkb (svd tx mn N s) i)) (nI i)) _ w
    obtain ⟨w2, e, f⟩ := m_served (h := i) hL hP (evb_lt mn (by omega)) (evb_ok h7 (Nat.le_refl mn)) hs (by omega)
    rw [svS_evb h7] at e
    unfold f_X11_served_B41 f_X11_served_B71
    rw [if_neg (by rw [z_le, c12, nI_toInt (by omega)]; omega), m_evb hP, z_cl, e, z_cl]
    simp only [z_bn, nI_1, Int32.or_zero]
    obtain ⟨w3, e3, f3⟩ := m_servedH hs k F (i + 1) w2 (lSt_fr f hL) (PM_fr f hP) (by omega) (by omega)
    refine ⟨w3, ?_, fr0_tr f f3⟩
    cases hv : svd tx mn N s i with
    | true => rw [if_neg bnz, mkb_or _ (by omega) hv]; exact e3
    | false => rw [if_pos bz]; rw [mkb_no _ hv] at e3; exact e3
theorem p_served : j_served := by
  intro a b w hJ
  show ∃ r w1 w2, f_X10_served w a b = some (r, w1) ∧ f_X11_served w1 a b = some (r, w2) ∧ Jn w2
  obtain ⟨tx, hL⟩ := lSt_of hJ
  obtain ⟨mn, st, N, hC, hM, -⟩ := PN_of hJ
  have h7 := hC.2.2.1
  by_cases ha : 0 ≤ a.toInt ∧ a.toInt < (st : Int)
  · by_cases hb : 0 ≤ b.toInt ∧ b.toInt < 2
    · obtain ⟨s, hh⟩ : ∃ s, s = a.toInt.toNat := ⟨_, rfl⟩
      have ea : a = nI s := by rw [hh]; exact z_nI _ ha.1
      have hs : s < st := by omega
      subst ea
      obtain ⟨w1, e1, f1, hd⟩ := s_weigh hL hC (a := 0) (b := 11) (by omega) (by omega)
      have hC1 := PC_fr1 f1 hC
      have hM1 := PM_fr1 f1 hM
      have eH : f_X7_hoursOf w (nI s) = some (nI (mkb (svd tx mn N s) 12), w1) := by
        unfold f_X7_hoursOf
        rw [show f_X7_weigh w 0 11 = _ from e1, z_cl]
        exact s_hours hC1 hs (fun h hh => hd s h hs (by omega) (by omega)) 12 q_fuel 0 (by omega) (by rw [q_fuel_eq]; omega)
      unfold f_X10_served
      rw [s_has4 hC, z_cl, bd_t ha.1 ha.2, if_neg n10, p_choice, z_cl, c2, bd_t hb.1 hb.2, if_neg n10]
      by_cases h0 : b = 0
      · rw [if_pos h0, eH, z_cl]
        obtain ⟨w2, e2, f2⟩ := m_servedH (tx := tx) hs 12 q_fuel 0 w1 (lSt_fr1 f1 hL) hM1 (by omega) (by rw [q_fuel_eq]; omega)
        refine ⟨_, w1, w2, rfl, ?_, Jn_fr0 (Jn_fr1 hJ f1) f2⟩
        unfold f_X11_served
        rw [m_isSit hM1, z_cl, bd_t ha.1 ha.2, if_neg n10, m_w01, z_cl, bd_t hb.1 hb.2, if_neg n10, if_neg (by rw [h0]; decide)]
        exact e2
      · have hb1 : b = 1 := by rw [z_eq, c1]; rw [z_eq, c0] at h0; omega
        obtain ⟨w2, e2, f2⟩ := m_missesOf (s := s) (lSt_fr1 f1 hL) hM1 (evb_lt mn (by omega)) (evb_ok h7 (Nat.le_refl mn)) hs
        have hl := (hiN_le hC hs).2.1
        have l3 := mkb_lt (svd tx mn N s) 12
        have l3 : mkb (svd tx mn N s) 12 < 4096 := l3
        have l4 : andn (N (40 + s)) (mkb (svd tx mn N s) 12) ≤ N (40 + s) := Nat.and_le_left
        have ew : andn (N (40 + s)) (mkb (svd tx mn N s) 12) = mkb (fun h => wnt N s h && !svd tx mn N s h) 12 := by
          apply mkb_ext
          · show _ < 4096; omega
          · intro i hi
            rw [andn_bt _ _ (by omega), mkb_bt, decide_eq_true hi]
            rfl
        have ec : sm (msN tx N (evb mn) s) 12 = pc (mkb (fun h => wnt N s h && !svd tx mn N s h) 12) 12 := by
          rw [pc_mkb _ (Nat.le_refl 12)]
          apply sm_congr
          intro m _
          exact msN_evb h7
        rw [if_neg h0]
        unfold f_X7_missesOf
        rw [show f_X4_get w (nI s) 5 = _ from s_get hC 5 (by omega) hs, z_cl, eH, z_cl, show 8 * 5 + s = 40 + s by omega, i_andn (by omega) (by omega), s_bc _ (by omega), z_cl, z_cl, ew, ← ec]
        refine ⟨_, w1, w2, rfl, ?_, Jn_fr0 (Jn_fr1 hJ f1) f2⟩
        unfold f_X11_served
        rw [m_isSit hM1, z_cl, bd_t ha.1 ha.2, if_neg n10, m_w01, z_cl, bd_t hb.1 hb.2, if_neg n10, if_pos hb1, m_evb hM1, z_cl, e2, z_cl]
    · refine ⟨-1, w, w, ?_, ?_, hJ⟩
      · unfold f_X10_served
        rw [s_has4 hC, z_cl, bd_t ha.1 ha.2, if_neg n10, p_choice, z_cl, c2, bd_f hb, if_pos rfl]
      · unfold f_X11_served
        rw [m_isSit hM, z_cl, bd_t ha.1 ha.2, if_neg n10, m_w01, z_cl, bd_f hb, if_pos rfl]
  · refine ⟨-1, w, w, ?_, ?_, hJ⟩
    · unfold f_X10_served
      rw [s_has4 hC, z_cl, bd_f ha, if_pos rfl]
    · unfold f_X11_served
      rw [m_isSit hM, z_cl, bd_f ha, if_pos rfl]
