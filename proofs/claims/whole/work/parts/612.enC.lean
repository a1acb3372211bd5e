/-! enough, roster: the model's side -/
def alR (f : Nat → Bool) : Nat → Nat → Bool
  | 0, _ => true
  | k + 1, i => f i && alR f k (i + 1)
theorem alR_iff (f : Nat → Bool) : ∀ k i, (alR f k i = true) ↔ ∀ j, i ≤ j → j < i + k → f j = true
  | 0, i => ⟨fun _ j _ _ => by omega, fun _ => rfl⟩
  | k + 1, i => by
    have ih := alR_iff f k (i + 1)
    show ((f i && alR f k (i + 1)) = true) ↔ _
    rw [Bool.and_eq_true, ih]
    constructor
    · intro q j h1 h2
      by_cases hj : j = i
      · rw [hj]; exact q.1
      · exact q.2 j (by omega) (by omega)
    · intro q
      exact ⟨q i (by omega) (by omega), fun j h1 h2 => q j (by omega) (by omega)⟩
theorem smS_mono {g : Nat → Nat} {a b : Nat} : ∀ k, (∀ m, m < k → a.testBit m = true → b.testBit m = true) → smS g a k ≤ smS g b k
  | 0, _ => Nat.le_refl 0
  | k + 1, h => by
    have ih := smS_mono (g := g) k (fun m hm => h m (by omega))
    show smS g a k + (if a.testBit k then g k else 0) ≤ smS g b k + (if b.testBit k then g k else 0)
    by_cases ha : a.testBit k
    · rw [if_pos ha, if_pos (h k (by omega) ha)]; omega
    · rw [if_neg ha]; omega
theorem svS_mono {tx : Option (List lw_Ln)} {mn : Nat} {N : Nat → Nat} {set s h : Nat} (h7 : mn ≤ 7) (hs : set < 2 ^ mn) (hv : svS tx N set s h = true) : svd tx mn N s h = true := by
  rw [← svS_evb h7]
  unfold svS at hv ⊢
  have hv := of_decide_eq_true hv
  have := smS_mono (g := sN tx N (N (32 + s)) h) (a := set) (b := evb mn) 8 (fun m hm hb => by rw [evb_bt mn (by omega) m (by omega)]; exact decide_eq_true (set_ok hs m hm hb))
  exact decide_eq_true (by omega)
theorem sm_cmp {f g : Nat → Nat} : ∀ n, (∀ h, h < n → g h ≤ f h) → ((sm f n ≤ sm g n) ↔ ∀ h, h < n → f h ≤ g h)
  | 0, _ => ⟨fun _ h hh => by omega, fun _ => Nat.le_refl 0⟩
  | n + 1, hp => by
    have ih := sm_cmp (f := f) (g := g) n (fun h hh => hp h (by omega))
    have hge : ∀ k, k ≤ n → sm g k ≤ sm f k := by
      intro k
      induction k with
      | zero => intro _; exact Nat.le_refl 0
      | succ k ihk =>
        intro hk
        have a := ihk (by omega)
        have b := hp k (by omega)
        show sm g k + g k ≤ sm f k + f k
        omega
    have h1 := hge n (Nat.le_refl n)
    have h2 := hp n (by omega)
    show (sm f n + f n ≤ sm g n + g n) ↔ _
    constructor
    · intro q h hh
      by_cases hn : h = n
      · rw [hn]; omega
      · exact ih.mp (by omega) h (by omega)
    · intro q
      have a := ih.mpr (fun h hh => q h (by omega))
      have b := q n (by omega)
      omega
theorem ms_le {tx : Option (List lw_Ln)} {mn : Nat} {N : Nat → Nat} {set s h : Nat} (h7 : mn ≤ 7) (hs : set < 2 ^ mn) : msN tx N (evb mn) s h ≤ msN tx N set s h ∧ ((msN tx N set s h ≤ msN tx N (evb mn) s h) ↔ (wnt N s h && (svd tx mn N s h && !svS tx N set s h)) = false) := by
  rw [msN_evb h7]
  unfold msN
  have hm := svS_mono (tx := tx) (N := N) (s := s) (h := h) h7 hs
  cases hw : wnt N s h with
  | false => exact ⟨Nat.le_refl _, ⟨fun _ => rfl, fun _ => Nat.le_refl _⟩⟩
  | true =>
    cases hv : svd tx mn N s h with
    | false =>
      cases hx : svS tx N set s h with
      | false => exact ⟨Nat.le_refl _, ⟨fun _ => rfl, fun _ => Nat.le_refl _⟩⟩
      | true => rw [hm hx] at hv; exact no_ft hv.symm
    | true =>
      cases hx : svS tx N set s h with
      | false => exact ⟨by decide, ⟨fun q => absurd q (by decide), fun q => no_ft q.symm⟩⟩
      | true => exact ⟨Nat.le_refl _, ⟨fun _ => rfl, fun _ => Nat.le_refl _⟩⟩
theorem m_isEn_R {tx : Option (List lw_Ln)} {mn st : Nat} {N : Nat → Nat} {set : Nat} (hs : set < 2 ^ mn) : ∀ (k F i : Nat) (w : qW), lSt tx w → PM mn mn st N w → i + k = st → k < F → rto (f_X11_isEnough_R2 F w (nI set) (nI i)) (b2i (alR (fun s => decide (sm (msN tx N set s) 12 ≤ sm (msN tx N (evb mn) s) 12)) k i)) w
  | 0, F + 1, i, w, hL, hP, h1, _ => by
    have h8 := hP.2.2.2.1
    show rto (f_X11_isEnough_B2 (f_X11_isEnough_R2 F) w (nI set) (nI i)) _ w
    unfold f_X11_isEnough_B2
    rw [hP.2.1, if_pos (nI_le (by omega) (by omega))]
    exact ⟨w, rfl, fr0_rf w⟩
  | k + 1, F + 1, i, w, hL, hP, h1, h2 => by
    have h7 := hP.2.2.1
    have h8 := hP.2.2.2.1
    have h128 := p2_128 h7
    show rto (f_X11_isEnough_B2 (f_X11_isEnough_R2 F) w (nI set) (nI i)) (b2i (decide (sm (msN tx N set i) 12 ≤ sm (msN tx N (evb mn) i) 12) && alR _ k (i + 1))) w
    obtain ⟨w2, e2, f2⟩ := m_missesOf (s := i) hL hP (set := set) (by omega) (set_ok hs) (by omega)
    have hP2 := PM_fr f2 hP
    obtain ⟨w6, e6, f6⟩ := m_missesOf (s := i) (lSt_fr f2 hL) hP2 (evb_lt mn (by omega)) (evb_ok h7 (Nat.le_refl mn)) (by omega)
    have f26 := fr0_tr f2 f6
    have l1 : sm (msN tx N set i) 12 ≤ 12 := sm_le1 (fun _ => if1 _) 12
    have l2 : sm (msN tx N (evb mn) i) 12 ≤ 12 := sm_le1 (fun _ => if1 _) 12
    unfold f_X11_isEnough_B2
    rw [hP.2.1, if_neg (nI_ge (by omega) (by omega)), e2, z_cl, m_evb hP2, z_cl, e6, z_cl, z_bn, nI_1]
    by_cases hc : sm (msN tx N set i) 12 ≤ sm (msN tx N (evb mn) i) 12
    · obtain ⟨w3, e3, f3⟩ := m_isEn_R hs k F (i + 1) w6 (lSt_fr f26 hL) (PM_fr f26 hP) (by omega) (by omega)
      rw [if_pos (by rw [z_le, nI_toInt (by omega), nI_toInt (by omega)]; omega), decide_eq_true hc]
      exact ⟨w3, e3, fr0_tr f26 f3⟩
    · rw [if_neg (by rw [z_le, nI_toInt (by omega), nI_toInt (by omega)]; omega), decide_eq_false hc]
      exact ⟨w6, rfl, f26⟩
theorem bd_at (tx : Option (List lw_Ln)) (mn : Nat) (N : Nat → Nat) (set s h : Nat) (hh : h < 12) : bdP tx mn N set (12 * s + h) = (wnt N s h && (svd tx mn N s h && !svS tx N set s h)) := by
  unfold bdP
  rw [show (12 * s + h) / 12 = s by omega, show (12 * s + h) % 12 = h by omega]
theorem en_link {tx : Option (List lw_Ln)} {mn st : Nat} {N : Nat → Nat} {set : Nat} (h7 : mn ≤ 7) (hs : set < 2 ^ mn) : alR (fun s => decide (sm (msN tx N set s) 12 ≤ sm (msN tx N (evb mn) s) 12)) st 0 = enS tx mn st N set := by
  apply Bool.eq_iff_iff.mpr
  rw [alR_iff]
  have hfl := flr_0 (bdP tx mn N set) (12 * st)
  have he : (enS tx mn st N set = true) ↔ flr (bdP tx mn N set) (12 * st) = 0 := ⟨fun q => of_decide_eq_true q, fun q => decide_eq_true q⟩
  rw [he, hfl]
  constructor
  · intro q p hp
    have q1 := of_decide_eq_true (q (p / 12) (by omega) (by omega))
    have q2 := (sm_cmp 12 (fun h _ => (ms_le (tx := tx) (N := N) (s := p / 12) (h := h) h7 hs).1)).mp q1 (p % 12) (by omega)
    exact (ms_le h7 hs).2.mp q2
  · intro q s h1 h2
    apply decide_eq_true
    apply (sm_cmp 12 (fun h _ => (ms_le (tx := tx) (N := N) (s := s) (h := h) h7 hs).1)).mpr
    intro h hh
    apply (ms_le h7 hs).2.mpr
    have := q (12 * s + h) (by omega)
    rw [bd_at tx mn N set s h hh] at this
    exact this
theorem m_isEnough {tx : Option (List lw_Ln)} {w : qW} {mn st : Nat} {N : Nat → Nat} {set : Nat} (hL : lSt tx w) (hP : PM mn mn st N w) (hs : set < 2 ^ mn) : rto (f_X11_isEnough w (nI set)) (b2i (enS tx mn st N set)) w := by
  have h8 := hP.2.2.2.1
  rw [← en_link hP.2.2.1 hs]
  exact m_isEn_R hs st q_fuel 0 w hL hP (by omega) (by rw [q_fuel_eq]; omega)
theorem m_isEA_R {tx : Option (List lw_Ln)} {mn st : Nat} {N : Nat → Nat} {set h : Nat} (hs : set < 2 ^ mn) (hh : h < 12) : ∀ (k F i : Nat) (w : qW), lSt tx w → PM mn mn st N w → i + k = st → k < F → rto (f_X11_isEnoughAt_R2 F w (nI h) (nI set) (nI i)) (b2i (alR (fun s => !(wnt N s h && (svd tx mn N s h && !svS tx N set s h))) k i)) w
  | 0, F + 1, i, w, hL, hP, h1, _ => by
    have h8 := hP.2.2.2.1
    show rto (f_X11_isEnoughAt_B2 (f_X11_isEnoughAt_R2 F) w (nI h) (nI set) (nI i)) _ w
    unfold f_X11_isEnoughAt_B2
    rw [hP.2.1, if_pos (nI_le (by omega) (by omega))]
    exact ⟨w, rfl, fr0_rf w⟩
  | k + 1, F + 1, i, w, hL, hP, h1, h2 => by
    have h7 := hP.2.2.1
    have h8 := hP.2.2.2.1
    have h128 := p2_128 h7
    show rto (f_X11_isEnoughAt_B2 (f_X11_isEnoughAt_R2 F) w (nI h) (nI set) (nI i)) (b2i (!(wnt N i h && (svd tx mn N i h && !svS tx N set i h)) && alR _ k (i + 1))) w
    obtain ⟨w6, e6, f6⟩ := m_served (s := i) hL hP (evb_lt mn (by omega)) (evb_ok h7 (Nat.le_refl mn)) (by omega) hh
    rw [svS_evb h7] at e6
    obtain ⟨w8, e8, f8⟩ := m_served (s := i) (set := set) (lSt_fr f6 hL) (PM_fr f6 hP) (by omega) (set_ok hs) (by omega) hh
    have f68 := fr0_tr f6 f8
    unfold f_X11_isEnoughAt_B2 f_X11_isEnoughAt_B44
    rw [hP.2.1, if_neg (nI_ge (by omega) (by omega)), m_wants hP (by omega) hh, z_cl]
    cases hw : wnt N i h with
    | false =>
      rw [if_pos bz, z_bn, nI_1]
      exact m_isEA_R hs hh k F (i + 1) w hL hP (by omega) (by omega)
    | true =>
      rw [if_neg bnz, m_evb hP, z_cl, e6, z_cl]
      cases hv : svd tx mn N i h with
      | false =>
        obtain ⟨w3, e3, f3⟩ := m_isEA_R hs hh k F (i + 1) w6 (lSt_fr f6 hL) (PM_fr f6 hP) (by omega) (by omega)
        rw [if_pos bz, z_bn, nI_1]
        exact ⟨w3, e3, fr0_tr f6 f3⟩
      | true =>
        rw [if_neg bnz, e8, z_cl]
        cases hx : svS tx N set i h with
        | false =>
          rw [if_pos bz]
          exact ⟨w8, rfl, f68⟩
        | true =>
          obtain ⟨w3, e3, f3⟩ := m_isEA_R hs hh k F (i + 1) w8 (lSt_fr f68 hL) (PM_fr f68 hP) (by omega) (by omega)
          rw [if_neg bnz, z_bn, nI_1]
          exact ⟨w3, e3, fr0_tr f68 f3⟩
theorem ea_link {tx : Option (List lw_Ln)} {mn st : Nat} {N : Nat → Nat} {set h : Nat} (hh : h < 12) : alR (fun s => !(wnt N s h && (svd tx mn N s h && !svS tx N set s h))) st 0 = enH tx mn st N h set := by
  apply Bool.eq_iff_iff.mpr
  rw [alR_iff]
  have hfl := flr_bt (bdP tx mn N set) h (12 * st)
  have he : (enH tx mn st N h set = true) ↔ (flr (bdP tx mn N set) (12 * st)).testBit h = false := by
    show ((!(flr (bdP tx mn N set) (12 * st)).testBit h) = true) ↔ _
    cases (flr (bdP tx mn N set) (12 * st)).testBit h with
    | true => exact ⟨fun q => no_ft q, fun q => no_ft q.symm⟩
    | false => exact ⟨fun _ => rfl, fun _ => rfl⟩
  rw [he, hfl]
  constructor
  · intro q p hp hph
    have q1 := q (p / 12) (by omega) (by omega)
    unfold bdP
    rw [hph]
    cases hx : (wnt N (p / 12) h && (svd tx mn N (p / 12) h && !svS tx N set (p / 12) h)) with
    | true => rw [hx] at q1; exact no_ft q1
    | false => rfl
  · intro q s h1 h2
    have := q (12 * s + h) (by omega) (by omega)
    rw [bd_at tx mn N set s h hh] at this
    rw [this]
    rfl
theorem m_isEnoughAt {tx : Option (List lw_Ln)} {w : qW} {mn st : Nat} {N : Nat → Nat} {set h : Nat} (hL : lSt tx w) (hP : PM mn mn st N w) (hs : set < 2 ^ mn) (hh : h < 12) : rto (f_X11_isEnoughAt w (nI h) (nI set)) (b2i (enH tx mn st N h set)) w := by
  have h8 := hP.2.2.2.1
  rw [← ea_link hh]
  exact m_isEA_R hs hh st q_fuel 0 w hL hP (by omega) (by rw [q_fuel_eq]; omega)
theorem payM_le {mn st : Nat} {N : Nat → Nat} {w : qW} (hP : PM mn mn st N w) (set : Nat) : ∀ k, k ≤ mn → payS N set k ≤ 99 * k
  | 0, _ => Nat.le_refl 0
  | k + 1, h => by
    have h7 := hP.2.2.1
    have ih := payM_le hP set k (by omega)
    have h3 := (hP.2.2.2.2.2 (24 + k) (Or.inr (Or.inr (Or.inr ⟨by omega, by omega, by omega⟩)))).2
    rw [show (24 + k) / 8 = 3 by omega] at h3
    have h3 : N (24 + k) ≤ 99 := h3
    show payS N set k + (if set.testBit k then N (24 + k) else 0) ≤ 99 * (k + 1)
    by_cases hb : set.testBit k
    · rw [if_pos hb]; omega
    · rw [if_neg hb]; omega
def pWt (N : Nat → Nat) (mn : Nat) (what : Int32) (s : Nat) : Nat := if 2 ≤ what then payS N s mn else 0
def kEn (N : Nat → Nat) (mn : Nat) (what : Int32) : Nat → Nat := kap (pWt N mn what) (fun s => pc s 12)
theorem m_en_B102 {tx : Option (List lw_Ln)} {w : qW} {mn st : Nat} {N : Nat → Nat} (hL : lSt tx w) (hP : PM mn mn st N w) (what s0 : Int32) {b k : Nat} (hb : b < 2 ^ mn) (hk : k < b) (h0 : (s0 < 0) ↔ pWt N mn what k < pWt N mn what b) (h1 : (s0 = 0) ↔ pWt N mn what k = pWt N mn what b) (k78 : qW → Int32 → Int32 → Int32 → Option (Int32 × qW)) : ∃ w2, f_X11_enough_B102 k78 w what (nI b) (nI k) s0 = k78 w2 what (nI (if (enS tx mn st N k && decide (kEn N mn what k < kEn N mn what b)) = true then k else b)) (nI k + (-1)) ∧ fr0 w w2 := by
  have h7 := hP.2.2.1
  have h128 := p2_128 h7
  have p1 := pc_le k
  have p2 := pc_le b
  have ek : ∀ x, kEn N mn what x = 2048 * pWt N mn what x + 128 * pc x 12 + x := fun x => rfl
  obtain ⟨w2, e2, f2⟩ := m_isEnough hL hP (set := k) (by omega)
  have e125 : kEn N mn what k < kEn N mn what b → ∃ w2, f_X11_enough_B125 k78 w what (nI b) (nI k) = k78 w2 what (nI (if (enS tx mn st N k && decide (kEn N mn what k < kEn N mn what b)) = true then k else b)) (nI k + (-1)) ∧ fr0 w w2 := by
    intro hlt
    refine ⟨w2, ?_, f2⟩
    unfold f_X11_enough_B125 f_X11_enough_B135
    rw [e2, z_cl, decide_eq_true hlt]
    simp only [z_bn]
    cases enS tx mn st N k with
    | true => rw [if_neg bnz]; rfl
    | false => rw [if_pos bz]; rfl
  have e135 : ¬ kEn N mn what k < kEn N mn what b → f_X11_enough_B135 k78 w what (nI b) (nI k) = k78 w what (nI (if (enS tx mn st N k && decide (kEn N mn what k < kEn N mn what b)) = true then k else b)) (nI k + (-1)) := by
    intro hlt
    unfold f_X11_enough_B135
    rw [decide_eq_false hlt, Bool.and_false, z_bn]
    rfl
  unfold f_X11_enough_B102
  by_cases c1 : s0 < 0
  · rw [if_pos c1]
    exact e125 (by rw [ek, ek]; have := h0.mp c1; omega)
  · rw [if_neg c1]
    have n1 : ¬ pWt N mn what k < pWt N mn what b := fun q => c1 (h0.mpr q)
    by_cases c2 : s0 = 0
    · have n2 := h1.mp c2
      rw [if_pos c2, m_bits w (by omega), z_cl, m_bits w (by omega), z_cl]
      by_cases c3 : pc b 12 < pc k 12
      · rw [if_pos (by rw [z_lt, nI_toInt (by omega), nI_toInt (by omega)]; omega)]
        exact ⟨w, e135 (by rw [ek, ek]; omega), fr0_rf w⟩
      · rw [if_neg (by rw [z_lt, nI_toInt (by omega), nI_toInt (by omega)]; omega)]
        exact e125 (by rw [ek, ek]; omega)
    · have n2 : ¬ pWt N mn what k = pWt N mn what b := fun q => c2 (h1.mpr q)
      rw [if_neg c2]
      exact ⟨w, e135 (by rw [ek, ek]; omega), fr0_rf w⟩
def enA (N : Nat → Nat) (mn : Nat) (what : Int32) (x : Nat) : Int32 := if what = 0 then nI (pc x 12) else if what = 3 then nI (payS N x mn) else nI x
theorem m_en_R {tx : Option (List lw_Ln)} {mn st : Nat} {N : Nat → Nat} (what : Int32) : ∀ (k F b : Nat) (w : qW), lSt tx w → PM mn mn st N w → b < 2 ^ mn → k ≤ b → k < F → rto (f_X11_enough_R78 F w what (nI b) (nI k + (-1))) (enA N mn what (amD (kEn N mn what) (enS tx mn st N) k b)) w
  | 0, F + 1, b, w, hL, hP, hb, _, _ => by
    have h7 := hP.2.2.1
    have h128 := p2_128 h7
    show rto (f_X11_enough_B78 (f_X11_enough_R78 F) w what (nI b) (nI 0 + (-1))) (enA N mn what b) w
    unfold f_X11_enough_B78 enA
    rw [if_pos (by decide), m_bits w (by omega), z_cl, m_pay hP (Nat.le_refl mn) (by omega), z_cl]
    refine ⟨w, ?_, fr0_rf w⟩
    by_cases c1 : what = 0
    · rw [if_pos c1, if_pos c1]
    · rw [if_neg c1, if_neg c1]
      by_cases c2 : what = 3
      · rw [if_pos c2, if_pos c2]
      · rw [if_neg c2, if_neg c2]
  | k + 1, F + 1, b, w, hL, hP, hb, hkb, h2 => by
    have h7 := hP.2.2.1
    have h128 := p2_128 h7
    have y1 := payM_le hP k mn (Nat.le_refl mn)
    have y2 := payM_le hP b mn (Nat.le_refl mn)
    show rto (f_X11_enough_B78 (f_X11_enough_R78 F) w what (nI b) (nI (k + 1) + (-1))) (enA N mn what (amD (kEn N mn what) (enS tx mn st N) k (if (enS tx mn st N k && decide (kEn N mn what k < kEn N mn what b)) = true then k else b))) w
    have key : ∃ w2, f_X11_enough_B78 (f_X11_enough_R78 F) w what (nI b) (nI (k + 1) + (-1)) = f_X11_enough_R78 F w2 what (nI (if (enS tx mn st N k && decide (kEn N mn what k < kEn N mn what b)) = true then k else b)) (nI k + (-1)) ∧ fr0 w w2 := by
      unfold f_X11_enough_B78
      rw [nI_m1 k (by omega), if_neg (nI_pos (by omega)), m_pay hP (Nat.le_refl mn) (by omega), z_cl, m_pay hP (Nat.le_refl mn) (by omega), z_cl]
      by_cases c1 : 2 ≤ what
      · rw [if_pos c1]
        have t1 : (nI (payS N k mn) - nI (payS N b mn)).toInt = (payS N k mn : Int) - (payS N b mn : Int) := by
          rw [t_sub _ _ (by rw [nI_toInt (by omega), nI_toInt (by omega)]; omega) (by rw [nI_toInt (by omega), nI_toInt (by omega)]; omega), nI_toInt (by omega), nI_toInt (by omega)]
        have ep : ∀ x, pWt N mn what x = payS N x mn := fun x => by unfold pWt; rw [if_pos c1]
        exact m_en_B102 hL hP what _ hb (by omega) (by rw [z_lt, t1, c0, ep, ep]; omega) (by rw [z_eq, t1, c0, ep, ep]; omega) _
      · rw [if_neg c1]
        have ep : ∀ x, pWt N mn what x = 0 := fun x => by unfold pWt; rw [if_neg c1]
        exact m_en_B102 hL hP what 0 hb (by omega) (by rw [ep, ep]; exact ⟨fun q => absurd q (by decide), fun q => by omega⟩) (by rw [ep, ep]; exact ⟨fun _ => rfl, fun _ => rfl⟩) _
    obtain ⟨w2, e2, f2⟩ := key
    rw [e2]
    by_cases hc : (enS tx mn st N k && decide (kEn N mn what k < kEn N mn what b)) = true
    · rw [if_pos hc]
      obtain ⟨w3, e3, f3⟩ := m_en_R (tx := tx) what k F k w2 (lSt_fr f2 hL) (PM_fr f2 hP) (by omega) (Nat.le_refl k) (by omega)
      exact ⟨w3, e3, fr0_tr f2 f3⟩
    · rw [if_neg hc]
      obtain ⟨w3, e3, f3⟩ := m_en_R (tx := tx) what k F b w2 (lSt_fr f2 hL) (PM_fr f2 hP) hb (by omega) (by omega)
      exact ⟨w3, e3, fr0_tr f2 f3⟩
theorem m_need_R {tx : Option (List lw_Ln)} {mn st : Nat} {N : Nat → Nat} : ∀ (k F i : Nat) (w : qW), lSt tx w → PM mn mn st N w → i + k = mn → k < F → rto (f_X11_enough_R23 F w (nI (mkb (fun m => !enS tx mn st N (andn (evb mn) (2 ^ m))) i)) (nI i)) (nI (mkb (fun m => !enS tx mn st N (andn (evb mn) (2 ^ m))) mn)) w
  | 0, F + 1, i, w, hL, hP, h1, _ => by
    have h7 := hP.2.2.1
    show rto (f_X11_enough_B23 (f_X11_enough_R23 F) w _ (nI i)) _ w
    unfold f_X11_enough_B23
    rw [hP.1, if_pos (nI_le (by omega) (by omega)), show i = mn by omega]
    exact ⟨w, rfl, fr0_rf w⟩
  | k + 1, F + 1, i, w, hL, hP, h1, h2 => by
    have h7 := hP.2.2.1
    have h128 := p2_128 h7
    have hev := evb_1 mn
    have hi2 : 2 ^ i ≤ 128 := p2_128 (by omega)
    have hle : andn (evb mn) (2 ^ i) ≤ evb mn := Nat.and_le_left
    show rto (f_X11_enough_B23 (f_X11_enough_R23 F) w _ (nI i)) _ w
    obtain ⟨w4, e4, f4⟩ := m_isEnough hL hP (set := andn (evb mn) (2 ^ i)) (by omega)
    obtain ⟨w3, e3, f3⟩ := m_need_R (tx := tx) k F (i + 1) w4 (lSt_fr f4 hL) (PM_fr f4 hP) (by omega) (by omega)
    refine ⟨w3, ?_, fr0_tr f4 f3⟩
    unfold f_X11_enough_B23 f_X11_enough_B56
    rw [hP.1, if_neg (nI_ge (by omega) (by omega)), m_evb hP, z_cl, show nI (evb mn) &&& (((1 : Int32) <<< (nI i &&& 31)) ^^^ (-1)) = nI (andn (evb mn) (2 ^ i)) from by rw [sh1p i (by omega), i_andn (by omega) (by omega)], e4, z_cl]
    simp only [z_bn, nI_1, Int32.or_zero]
    cases hv : enS tx mn st N (andn (evb mn) (2 ^ i)) with
    | true =>
      rw [mkb_no (fun m => !enS tx mn st N (andn (evb mn) (2 ^ m))) (by show (!enS tx mn st N (andn (evb mn) (2 ^ i))) = false; rw [hv]; rfl)] at e3
      rw [if_neg bnz]
      exact e3
    | false =>
      rw [if_pos bz, mkb_or (fun m => !enS tx mn st N (andn (evb mn) (2 ^ m))) (by omega) (by show (!enS tx mn st N (andn (evb mn) (2 ^ i))) = true; rw [hv]; rfl)]
      exact e3
theorem s_need_R {tx : Option (List lw_Ln)} {w : qW} {mn st : Nat} {N : Nat → Nat} (hP : PC mn st N w) (h14 : ∀ set, set < 2 ^ mn → q_A w 14 set = nI (fld tx mn st N set)) : ∀ (k F i : Nat), i + k = mn → k < F → f_X7_needed_R8 F w (nI (mkb (fun m => !enS tx mn st N (andn (evb mn) (2 ^ m))) i)) (nI i) = some (nI (mkb (fun m => !enS tx mn st N (andn (evb mn) (2 ^ m))) mn), w)
  | 0, F + 1, i, h1, _ => by
    have h7 := hP.2.2.1
    show f_X7_needed_B8 (f_X7_needed_R8 F) w _ (nI i) = _
    unfold f_X7_needed_B8
    rw [hP.1, if_pos (nI_le (by omega) (by omega)), show i = mn by omega]
  | k + 1, F + 1, i, h1, h2 => by
    have h7 := hP.2.2.1
    have h128 := p2_128 h7
    have hev := evb_1 mn
    have hi2 : 2 ^ i ≤ 128 := p2_128 (by omega)
    have hle : andn (evb mn) (2 ^ i) ≤ evb mn := Nat.and_le_left
    have hfl := fld_lt tx mn st N (andn (evb mn) (2 ^ i))
    have ih := s_need_R hP h14 k F (i + 1) (by omega) (by omega)
    show f_X7_needed_B8 (f_X7_needed_R8 F) w _ (nI i) = _
    unfold f_X7_needed_B8 f_X7_needed_B46
    rw [hP.1, if_neg (nI_ge (by omega) (by omega)), s_evb hP, z_cl, show nI (evb mn) &&& (((1 : Int32) <<< (nI i &&& 31)) ^^^ (-1)) = nI (andn (evb mn) (2 ^ i)) from by rw [sh1p i (by omega), i_andn (by omega) (by omega)], ld_lit _ _ _ _ (by omega) (by omega), h14 _ (by omega)]
    simp only [z_bn, nI_1]
    by_cases hz : fld tx mn st N (andn (evb mn) (2 ^ i)) = 0
    · have hv : enS tx mn st N (andn (evb mn) (2 ^ i)) = true := decide_eq_true hz
      rw [mkb_no (fun m => !enS tx mn st N (andn (evb mn) (2 ^ m))) (by show (!enS tx mn st N (andn (evb mn) (2 ^ i))) = false; rw [hv]; rfl)] at ih
      rw [if_pos ((nI_z (by omega)).mpr hz)]
      exact ih
    · have hv : enS tx mn st N (andn (evb mn) (2 ^ i)) = false := decide_eq_false hz
      rw [if_neg (fun q => hz ((nI_z (by omega)).mp q)), mkb_or (fun m => !enS tx mn st N (andn (evb mn) (2 ^ m))) (by omega) (by show (!enS tx mn st N (andn (evb mn) (2 ^ i))) = true; rw [hv]; rfl)]
      exact ih
theorem m_w04 (w : qW) (a : Int32) : f_X11_within w (Int32.toInt64 a) 0 4 = some (b2i (decide (0 ≤ a.toInt) && decide (a.toInt < 5)), w) := by
  rw [p_within32, d0, d4]
  by_cases h : 0 ≤ a.toInt ∧ a.toInt < 5
  · rw [bd_t h.1 (show a.toInt ≤ 4 by omega), bd_t h.1 h.2]
  · rw [bd_f (show ¬ (0 ≤ a.toInt ∧ a.toInt ≤ 4) by omega), bd_f h]
theorem ch5 {c : Int32} (h : 0 ≤ c.toInt ∧ c.toInt < 5) : c = 0 ∨ c = 1 ∨ c = 2 ∨ c = 3 ∨ c = 4 := by
  rcases Int.lt_or_le c.toInt 3 with q | q
  · rcases ch3 ⟨h.1, q⟩ with r | r | r
    · exact Or.inl r
    · exact Or.inr (Or.inl r)
    · exact Or.inr (Or.inr (Or.inl r))
  · rcases Int.lt_or_le c.toInt 4 with q2 | q2
    · exact Or.inr (Or.inr (Or.inr (Or.inl (by rw [z_eq, c3]; omega))))
    · exact Or.inr (Or.inr (Or.inr (Or.inr (by rw [z_eq, c4]; omega))))
theorem s_fewest {tx : Option (List lw_Ln)} {w : qW} {mn st : Nat} {N : Nat → Nat} (hL : lSt tx w) (hP : PC mn st N w) : ∃ w2, f_X7_fewest w = some (nI (amU kFew (enS tx mn st N) (evb mn) (evb mn)), w2) ∧ fr1 w w2 := by
  have h128 := p2_128 hP.2.2.1
  have hev := evb_1 mn
  obtain ⟨w2, e1, f1, h14⟩ := s_weighSets hL hP
  have hP2 := PC_fr1 f1 hP
  have e2 := s_few_R hP2 h14 (evb mn) q_fuel 0 (by omega) (by rw [q_fuel_eq]; omega)
  refine ⟨w2, ?_, f1⟩
  unfold f_X7_fewest
  rw [e1, z_cl, s_evb hP2, z_cl]
  exact e2
theorem s_cheapest {tx : Option (List lw_Ln)} {w : qW} {mn st : Nat} {N : Nat → Nat} (hL : lSt tx w) (hP : PC mn st N w) : ∃ w2, f_X7_cheapest w = some (nI (amU (kPay N mn 1) (enS tx mn st N) (evb mn) (evb mn)), w2) ∧ fr1 w w2 := by
  obtain ⟨w2, e1, f1, h14⟩ := s_weighSets hL hP
  have hP2 := PC_fr1 f1 hP
  refine ⟨w2, ?_, f1⟩
  unfold f_X7_cheapest
  rw [e1, z_cl, s_cheapSet hP2 4095 1 (en_all h14), z_cl]
theorem s_needed {tx : Option (List lw_Ln)} {w : qW} {mn st : Nat} {N : Nat → Nat} (hL : lSt tx w) (hP : PC mn st N w) : ∃ w2, f_X7_needed w = some (nI (mkb (fun m => !enS tx mn st N (andn (evb mn) (2 ^ m))) mn), w2) ∧ fr1 w w2 := by
  have h7 := hP.2.2.1
  obtain ⟨w2, e1, f1, h14⟩ := s_weighSets hL hP
  have e2 := s_need_R (PC_fr1 f1 hP) h14 mn q_fuel 0 (by omega) (by rw [q_fuel_eq]; omega)
  refine ⟨w2, ?_, f1⟩
  unfold f_X7_needed
  rw [e1, z_cl]
  exact e2
theorem m_enough {tx : Option (List lw_Ln)} {w : qW} {mn st : Nat} {N : Nat → Nat} (hL : lSt tx w) (hP : PM mn mn st N w) {a : Int32} (ha : 0 ≤ a.toInt ∧ a.toInt < 5) (h4 : ¬ a = 4) : rto (f_X11_enough w a) (enA N mn a (amU (kEn N mn a) (enS tx mn st N) (evb mn) (evb mn))) w := by
  have h128 := p2_128 hP.2.2.1
  have hev := evb_1 mn
  have e := m_en_R (tx := tx) a (evb mn) q_fuel (evb mn) w hL hP (by omega) (Nat.le_refl _) (by rw [q_fuel_eq]; omega)
  rw [am_eq (key := kEn N mn a) (en := enS tx mn st N) (M := evb mn) (kap_inj (by omega))] at e
  unfold f_X11_enough
  rw [m_w04, z_cl, bd_t ha.1 ha.2, if_neg n10, if_neg h4, m_evb hP, z_cl, m_evb hP, z_cl, z_bn, show nI (evb mn) - 1 = nI (evb mn) + (-1) from Int32.sub_eq_add_neg _ _]
  exact e
theorem kFew_eq (N : Nat → Nat) (mn : Nat) {a : Int32} (ha : ¬ 2 ≤ a) : kEn N mn a = kFew := by
  have : pWt N mn a = fun _ => 0 := by
    funext s
    unfold pWt
    rw [if_neg ha]
  unfold kEn kFew
  rw [this]
theorem kPay_eq (N : Nat → Nat) (mn : Nat) {a : Int32} (ha : 2 ≤ a) : kEn N mn a = kPay N mn 1 := by
  have : pWt N mn a = fun s => payS N s mn := by
    funext s
    unfold pWt
    rw [if_pos ha]
  have h2 : pcx 1 = fun s => pc s 12 := by
    funext s
    unfold pcx
    rw [if_neg (by decide)]
  unfold kEn kPay
  rw [this, h2]
theorem p_enough : j_enough := by
  intro a w hJ
  show ∃ r w1 w2, f_X10_enough w a = some (r, w1) ∧ f_X11_enough w1 a = some (r, w2) ∧ Jn w2
  obtain ⟨tx, hL⟩ := lSt_of hJ
  obtain ⟨mn, st, N, hC, hM, -⟩ := PN_of hJ
  have h7 := hC.2.2.1
  have h128 := p2_128 h7
  have hev := evb_1 mn
  by_cases ha : 0 ≤ a.toInt ∧ a.toInt < 5
  · by_cases h4 : a = 4
    · obtain ⟨w1, e1, f1⟩ := s_needed hL hC
      have hM1 := PM_fr1 f1 hM
      obtain ⟨w2, e2, f2⟩ := m_need_R (tx := tx) mn q_fuel 0 w1 (lSt_fr1 f1 hL) hM1 (by omega) (by rw [q_fuel_eq]; omega)
      refine ⟨nI (mkb (fun m => !enS tx mn st N (andn (evb mn) (2 ^ m))) mn), w1, w2, ?_, ?_, Jn_fr0 (Jn_fr1 hJ f1) f2⟩
      · unfold f_X10_enough
        rw [if_neg (by rw [h4]; decide), if_neg (by rw [h4]; decide), if_neg (by rw [h4]; decide), if_neg (by rw [h4]; decide), if_pos h4, e1, z_cl]
      · unfold f_X11_enough
        rw [m_w04, z_cl, bd_t ha.1 ha.2, if_neg n10, if_pos h4]
        exact e2
    · by_cases hlo : 2 ≤ a
      · obtain ⟨w1, e1, f1⟩ := s_cheapest hL hC
        have hM1 := PM_fr1 f1 hM
        have hC1 := PC_fr1 f1 hC
        have hb := amU_le (kPay N mn 1) (enS tx mn st N) (M := evb mn) (k := evb mn) (Nat.le_refl _)
        obtain ⟨w2, e2, f2⟩ := m_enough (lSt_fr1 f1 hL) hM1 ha h4
        rw [kPay_eq N mn hlo] at e2
        refine ⟨_, w1, w2, ?_, e2, Jn_fr0 (Jn_fr1 hJ f1) f2⟩
        unfold f_X10_enough enA
        rw [z_le, c2] at hlo
        have n0 : ¬ a = 0 := by rw [z_eq, c0]; omega
        have n1 : ¬ a = 1 := by rw [z_eq, c1]; omega
        rw [if_neg n0, if_neg n0, if_neg n1, e1, z_cl, z_cl, s_pay hC1 (by omega), z_cl]
        by_cases h2 : a = 2
        · rw [if_pos h2, if_neg (by rw [h2]; decide)]
        · have h3 : a = 3 := by
            rw [z_eq, c3]
            rw [z_eq, c2] at h2
            rw [z_eq, c4] at h4
            omega
          rw [if_neg h2, if_pos h3, if_pos h3]
      · obtain ⟨w1, e1, f1⟩ := s_fewest hL hC
        have hM1 := PM_fr1 f1 hM
        have hb := amU_le kFew (enS tx mn st N) (M := evb mn) (k := evb mn) (Nat.le_refl _)
        obtain ⟨w2, e2, f2⟩ := m_enough (lSt_fr1 f1 hL) hM1 ha h4
        rw [kFew_eq N mn hlo] at e2
        refine ⟨_, w1, w2, ?_, e2, Jn_fr0 (Jn_fr1 hJ f1) f2⟩
        unfold f_X10_enough enA
        rw [z_le, c2] at hlo
        rw [e1, z_cl, z_cl, s_bc w1 (by omega), z_cl]
        by_cases h0 : a = 0
        · rw [if_pos h0, if_pos h0]
        · have h1 : a = 1 := by
            rw [z_eq, c1]
            rw [z_eq, c0] at h0
            omega
          rw [if_neg h0, if_neg h0, if_pos h1, if_neg (by rw [h1]; decide)]
  · have n0 : ¬ a = 0 := by rw [z_eq, c0]; omega
    have n1 : ¬ a = 1 := by rw [z_eq, c1]; omega
    have n2 : ¬ a = 2 := by rw [z_eq, c2]; omega
    have n3 : ¬ a = 3 := by rw [z_eq, c3]; omega
    have n4 : ¬ a = 4 := by rw [z_eq, c4]; omega
    refine ⟨-1, w, w, ?_, ?_, hJ⟩
    · unfold f_X10_enough
      rw [if_neg n0, if_neg n1, if_neg n2, if_neg n3, if_neg n4]
    · unfold f_X11_enough
      rw [m_w04, z_cl, bd_f ha, if_pos rfl]
