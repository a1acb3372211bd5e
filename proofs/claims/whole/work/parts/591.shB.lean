/-! shade: as numbers; all men, sets of men; shade and walk -/
def s5 (tx : Option (List lw_Ln)) (br src kind arms m cell h : Nat) : Nat := (sv32 tx (nI br) (nI src) (nI kind) (nI arms) (nI m) (nI cell) (nI h)).toInt.toNat
theorem s5_eq (tx : Option (List lw_Ln)) (br src kind arms m cell h : Nat) : sv32 tx (nI br) (nI src) (nI kind) (nI arms) (nI m) (nI cell) (nI h) = nI (s5 tx br src kind arms m cell h) := z_nI _ (sv_le ..).1
theorem s5_le (tx : Option (List lw_Ln)) (br src kind arms m cell h : Nat) : s5 tx br src kind arms m cell h ≤ 12 := by
  have := sv_le tx (nI br) (nI src) (nI kind) (nI arms) (nI m) (nI cell) (nI h)
  unfold s5
  omega
def sN (tx : Option (List lw_Ln)) (N : Nat → Nat) (cell h m : Nat) : Nat := s5 tx (N 56) (N m) (N (8 + m)) (N (16 + m)) m cell h
theorem sN_le (tx : Option (List lw_Ln)) (N : Nat → Nat) (cell h m : Nat) : sN tx N cell h m ≤ 12 := s5_le ..
def gv (tx : Option (List lw_Ln)) (mn : Nat) (N : Nat → Nat) (cell h m : Nat) : Nat := if m < mn then sN tx N cell h m else 0
theorem gv_le (tx : Option (List lw_Ln)) (mn : Nat) (N : Nat → Nat) (cell h m : Nat) : gv tx mn N cell h m ≤ 12 := by
  unfold gv
  by_cases hm : m < mn
  · rw [if_pos hm]; exact sN_le ..
  · rw [if_neg hm]; omega
def sm (g : Nat → Nat) : Nat → Nat
  | 0 => 0
  | k + 1 => sm g k + g k
theorem sm_le {g : Nat → Nat} (hg : ∀ m, g m ≤ 12) : ∀ k, sm g k ≤ 12 * k
  | 0 => Nat.le_refl 0
  | k + 1 => by
    have := sm_le hg k
    have := hg k
    show sm g k + g k ≤ 12 * (k + 1)
    omega
theorem sm_congr {g g2 : Nat → Nat} : ∀ k, (∀ m, m < k → g m = g2 m) → sm g k = sm g2 k
  | 0, _ => rfl
  | k + 1, h => by
    show sm g k + g k = sm g2 k + g2 k
    rw [sm_congr k (fun m hm => h m (by omega)), h k (by omega)]
theorem s_byMan {tx : Option (List lw_Ln)} {w : qW} {mn st : Nat} {N : Nat → Nat} (hL : lSt tx w) (hP : PC mn st N w) {m cell h : Nat} (hm : m < 8) (hh : h < 12) : rto (f_X5_byMan w (nI m) (nI cell) (nI h)) (nI (gv tx mn N cell h m)) w := by
  obtain ⟨h1, h2, h3, h4, h5⟩ := id hP
  unfold f_X5_byMan gv
  rw [h1]
  by_cases hmn : m < mn
  · have a0 : q_A w 2 (8 * 0 + m) = nI (N m) := by rw [show 8 * 0 + m = m by omega]; exact (h5 m (Or.inl ⟨by omega, by omega⟩)).1
    have a8 : q_A w 2 (8 * 1 + m) = nI (N (8 + m)) := by rw [show 8 * 1 + m = 8 + m by omega]; exact (h5 (8 + m) (Or.inl ⟨by omega, by omega⟩)).1
    have a16 : q_A w 2 (8 * 2 + m) = nI (N (16 + m)) := by rw [show 8 * 2 + m = 16 + m by omega]; exact (h5 (16 + m) (Or.inl ⟨by omega, by omega⟩)).1
    have g0 : f_X4_get w (nI m) 0 = some (nI (N m), w) := by rw [show f_X4_get w (nI m) 0 = _ from p_getm 0 (by omega) h1 h2 h3 h4 hmn, a0]
    have g1 : f_X4_get w (nI m) 1 = some (nI (N (8 + m)), w) := by rw [show f_X4_get w (nI m) 1 = _ from p_getm 1 (by omega) h1 h2 h3 h4 hmn, a8]
    have g2 : f_X4_get w (nI m) 2 = some (nI (N (16 + m)), w) := by rw [show f_X4_get w (nI m) 2 = _ from p_getm 2 (by omega) h1 h2 h3 h4 hmn, a16]
    rw [if_pos (by rw [z_lt, nI_toInt (by omega), nI_toInt (by omega)]; omega), g0, z_cl, g1, z_cl, g2, z_cl, if_pos hmn]
    obtain ⟨w2, e, f⟩ := s_cast hL hP (nI (N m)) (nI (N (8 + m))) (nI (N (16 + m))) (nI m) (nI cell) hh
    rw [e, z_cl, s5_eq]
    exact ⟨w2, rfl, f⟩
  · rw [if_neg (by rw [z_lt, nI_toInt (by omega), nI_toInt (by omega)]; omega), if_neg hmn]
    exact ⟨w, rfl, fr0_rf w⟩
theorem s_byAll_R {tx : Option (List lw_Ln)} {mn st : Nat} {N : Nat → Nat} {cell h : Nat} (hh : h < 12) : ∀ (k F i : Nat) (w : qW), lSt tx w → PC mn st N w → i + k = mn → k < F → rto (f_X5_byAll_R5 F w (nI cell) (nI h) (nI (sm (gv tx mn N cell h) i)) (nI i)) (nI (sm (gv tx mn N cell h) mn)) w
  | 0, F + 1, i, w, hL, hP, h1, _ => by
    obtain ⟨p1, p2, p3, p4, p5⟩ := id hP
    show rto (f_X5_byAll_B5 (f_X5_byAll_R5 F) w (nI cell) (nI h) (nI (sm (gv tx mn N cell h) i)) (nI i)) _ w
    unfold f_X5_byAll_B5
    rw [p1, if_pos (nI_le (by omega) (by omega)), show i = mn by omega]
    exact ⟨w, rfl, fr0_rf w⟩
  | k + 1, F + 1, i, w, hL, hP, h1, h2 => by
    obtain ⟨p1, p2, p3, p4, p5⟩ := id hP
    show rto (f_X5_byAll_B5 (f_X5_byAll_R5 F) w (nI cell) (nI h) (nI (sm (gv tx mn N cell h) i)) (nI i)) _ w
    unfold f_X5_byAll_B5
    obtain ⟨w2, e, f⟩ := s_byMan hL hP (m := i) (cell := cell) (by omega) hh
    rw [p1, if_neg (nI_ge (by omega) (by omega)), e, z_cl, z_bn, z_bn, nI_add, nI_1]
    obtain ⟨w3, e3, f3⟩ := s_byAll_R hh k F (i + 1) w2 (lSt_fr f hL) (PC_fr f hP) (by omega) (by omega)
    exact ⟨w3, e3, fr0_tr f f3⟩
theorem s_byAll {tx : Option (List lw_Ln)} {w : qW} {mn st : Nat} {N : Nat → Nat} (hL : lSt tx w) (hP : PC mn st N w) {cell h : Nat} (hh : h < 12) : rto (f_X5_byAll w (nI cell) (nI h)) (nI (sm (gv tx mn N cell h) mn)) w := by
  obtain ⟨p1, p2, p3, p4, p5⟩ := id hP
  exact s_byAll_R hh mn q_fuel 0 w hL hP (by omega) (by rw [q_fuel_eq]; omega)
theorem n_min {a : Nat} (h : a < 2000) : (if nI a < 12 then nI a else 12) = nI (min a 12) := by
  by_cases ha : a < 12
  · rw [if_pos (by rw [z_lt, c12, nI_toInt (by omega)]; omega), Nat.min_eq_left (by omega)]
  · rw [if_neg (by rw [z_lt, c12, nI_toInt (by omega)]; omega), Nat.min_eq_right (by omega)]; rfl
/-! sets of men as numbers below 256 -/
theorem bt_8 : ∀ s : Nat, s < 256 → ∀ m : Nat, m < 8 → (nI s >>> (nI m &&& 31)) &&& 1 = nI (if s.testBit m then 1 else 0) := by decide +kernel
theorem m_isIn8 (w : qW) {s m : Nat} (hs : s < 256) (hm : m < 8) : f_X11_isIn w (nI s) (nI m) = some (b2i (s.testBit m), w) := by
  unfold f_X11_isIn
  rw [bt_8 s hs m hm]
  cases s.testBit m with
  | true => rw [if_pos rfl, if_pos (by decide)]; rfl
  | false => rw [if_neg (show ¬ false = true by decide), if_neg (by decide)]; rfl
def smS (g : Nat → Nat) (s : Nat) : Nat → Nat
  | 0 => 0
  | k + 1 => smS g s k + (if s.testBit k then g k else 0)
theorem smS_le {g : Nat → Nat} (hg : ∀ m, g m ≤ 12) (s : Nat) : ∀ k, smS g s k ≤ 12 * k
  | 0 => Nat.le_refl 0
  | k + 1 => by
    have := smS_le hg s k
    have := hg k
    show smS g s k + _ ≤ 12 * (k + 1)
    by_cases hb : s.testBit k
    · rw [if_pos hb]; omega
    · rw [if_neg hb]; omega
theorem smS_congr {g g2 : Nat → Nat} {s s2 : Nat} : ∀ k, (∀ m, m < k → (if s.testBit m then g m else 0) = (if s2.testBit m then g2 m else 0)) → smS g s k = smS g2 s2 k
  | 0, _ => rfl
  | k + 1, h => by
    show smS g s k + _ = smS g2 s2 k + _
    rw [smS_congr k (fun m hm => h m (by omega)), h k (by omega)]
theorem m_shadeOf_R {tx : Option (List lw_Ln)} {mn mk st : Nat} {N : Nat → Nat} {s cell h : Nat} (hs : s < 256) (hsm : ∀ m, m < 8 → s.testBit m = true → m < mk) (hh : h < 12) : ∀ (k F i : Nat) (w : qW), lSt tx w → PM mn mk st N w → i + k = 8 → k < F → rto (f_X11_shadeOf_R6 F w (nI s) (nI cell) (nI h) (nI (smS (sN tx N cell h) s i)) (nI i)) (nI (min (smS (sN tx N cell h) s 8) 12)) w
  | 0, F + 1, i, w, hL, hP, h1, _ => by
    show rto (f_X11_shadeOf_B6 (f_X11_shadeOf_R6 F) w (nI s) (nI cell) (nI h) (nI (smS (sN tx N cell h) s i)) (nI i)) _ w
    have hi : i = 8 := by omega
    subst hi
    have hle := smS_le (g := sN tx N cell h) (fun m => sN_le ..) s 8
    unfold f_X11_shadeOf_B6
    rw [if_pos (by decide)]
    refine ⟨w, ?_, fr0_rf w⟩
    by_cases hc : smS (sN tx N cell h) s 8 ≤ 12
    · rw [if_pos (by rw [z_le, c12, nI_toInt (by omega)]; omega), Nat.min_eq_left hc]
    · rw [if_neg (by rw [z_le, c12, nI_toInt (by omega)]; omega), Nat.min_eq_right (by omega)]; rfl
  | k + 1, F + 1, i, w, hL, hP, h1, h2 => by
    show rto (f_X11_shadeOf_B6 (f_X11_shadeOf_R6 F) w (nI s) (nI cell) (nI h) (nI (smS (sN tx N cell h) s i)) (nI i)) _ w
    unfold f_X11_shadeOf_B6
    rw [if_neg (by rw [z_le, c8, nI_toInt (by omega)]; omega), m_isIn8 w hs (by omega), z_cl]
    cases hb : s.testBit i with
    | true =>
      obtain ⟨w2, e, f⟩ := m_shadeBy hL hP (hsm i (by omega) hb) hh (nI cell)
      rw [if_neg bnz, e, z_cl]
      unfold f_X11_shadeOf_B36
      rw [z_bn, z_bn, s5_eq, nI_add, nI_1]
      have es : smS (sN tx N cell h) s i + s5 tx (N 56) (N i) (N (8 + i)) (N (16 + i)) i cell h = smS (sN tx N cell h) s (i + 1) := by
        show _ = smS (sN tx N cell h) s i + (if s.testBit i then sN tx N cell h i else 0)
        rw [if_pos hb]
        rfl
      rw [es]
      obtain ⟨w3, e3, f3⟩ := m_shadeOf_R hs hsm hh k F (i + 1) w2 (lSt_fr f hL) (PM_fr f hP) (by omega) (by omega)
      exact ⟨w3, e3, fr0_tr f f3⟩
    | false =>
      rw [if_pos bz]
      unfold f_X11_shadeOf_B36
      rw [z_bn, z_bn, Int32.add_zero, nI_1]
      have es : smS (sN tx N cell h) s i = smS (sN tx N cell h) s (i + 1) := by
        show _ = smS (sN tx N cell h) s i + (if s.testBit i then sN tx N cell h i else 0)
        rw [hb]
        rfl
      rw [es]
      exact m_shadeOf_R hs hsm hh k F (i + 1) w hL hP (by omega) (by omega)
theorem m_shadeOf {tx : Option (List lw_Ln)} {w : qW} {mn mk st : Nat} {N : Nat → Nat} {s cell h : Nat} (hL : lSt tx w) (hP : PM mn mk st N w) (hs : s < 256) (hsm : ∀ m, m < 8 → s.testBit m = true → m < mk) (hh : h < 12) : rto (f_X11_shadeOf w (nI s) (nI cell) (nI h)) (nI (min (smS (sN tx N cell h) s 8) 12)) w := m_shadeOf_R hs hsm hh 8 q_fuel 0 w hL hP (by omega) (by rw [q_fuel_eq]; omega)
def evb (mn : Nat) : Nat := 2 ^ mn - 1
theorem evb_eq : ∀ mn : Nat, mn < 9 → ((1 : Int32) <<< (nI mn &&& 31)) - 1 = nI (evb mn) := by decide +kernel
theorem evb_bt : ∀ mn : Nat, mn < 9 → ∀ m : Nat, m < 9 → (evb mn).testBit m = decide (m < mn) := by decide +kernel
theorem evb_lt : ∀ mn : Nat, mn < 9 → evb mn < 256 := by decide +kernel
theorem m_evb {w : qW} {mn mk st : Nat} {N : Nat → Nat} (hP : PM mn mk st N w) : f_X11_everybody w = some (nI (evb mn), w) := by
  unfold f_X11_everybody
  rw [hP.1, evb_eq mn (by have := hP.2.2.1; omega)]
theorem s_evb {w : qW} {mn st : Nat} {N : Nat → Nat} (hP : PC mn st N w) : f_X4_everyone w = some (nI (evb mn), w) := by
  unfold f_X4_everyone
  rw [hP.1, evb_eq mn (by have := hP.2.2.1; omega)]
theorem evb_sm {tx : Option (List lw_Ln)} {mn : Nat} {N : Nat → Nat} {cell h : Nat} (hm : mn ≤ 7) : smS (sN tx N cell h) (evb mn) 8 = sm (gv tx mn N cell h) mn := by
  have a : ∀ k, k ≤ 8 → smS (sN tx N cell h) (evb mn) k = sm (gv tx mn N cell h) k := by
    intro k
    induction k with
    | zero => intro _; rfl
    | succ k ih =>
      intro hk
      show smS (sN tx N cell h) (evb mn) k + (if (evb mn).testBit k then sN tx N cell h k else 0) = sm (gv tx mn N cell h) k + gv tx mn N cell h k
      rw [ih (by omega), evb_bt mn (by omega) k (by omega)]
      unfold gv
      by_cases hh : k < mn
      · rw [if_pos hh, decide_eq_true hh, if_pos rfl]
      · rw [if_neg hh, decide_eq_false hh, if_neg (by decide)]
  have b : ∀ j k, k = mn + j → sm (gv tx mn N cell h) k = sm (gv tx mn N cell h) mn := by
    intro j
    induction j with
    | zero => intro k hk; rw [hk, Nat.add_zero]
    | succ j ih =>
      intro k hk
      subst hk
      show sm (gv tx mn N cell h) (mn + j) + gv tx mn N cell h (mn + j) = _
      rw [ih _ rfl]
      unfold gv
      rw [if_neg (by omega)]
      rfl
  rw [a 8 (by omega), b (8 - mn) 8 (by omega)]
theorem evb_ok {mn mk : Nat} (hm : mn ≤ 7) (hk : mn ≤ mk) : ∀ m, m < 8 → (evb mn).testBit m = true → m < mk := by
  intro m h1 h2
  rw [evb_bt mn (by omega) m (by omega)] at h2
  have := of_decide_eq_true h2
  omega
/-! the frame and the joint state -/
def scrB (o : Nat) : Prop := o = 7 ∨ o = 8 ∨ o = 55 ∨ (11 ≤ o ∧ o ≤ 15) ∨ (17 ≤ o ∧ o ≤ 20) ∨ (22 ≤ o ∧ o ≤ 23)
def frB (w w2 : qW) : Prop := (∀ k, q_R w2 3 k = q_R w 3 k) ∧ q_G w2 = q_G w ∧ (∀ o k, o ≠ 16 → ¬ (o = 48 ∧ 12 ≤ k ∧ k ≤ 16) → q_I w2 o k = q_I w o k) ∧ ∀ o, ¬ scrB o → q_A w2 o = q_A w o
theorem Jn_frB {w w2 : qW} (hJ : Jn w) (hf : frB w w2) (hR : jR w2) : Jn w2 := by
  obtain ⟨f1, f2, f3, f4⟩ := hf
  have A : ∀ o, ¬ (o = 7 ∨ o = 8 ∨ o = 55 ∨ (11 ≤ o ∧ o ≤ 15) ∨ (17 ≤ o ∧ o ≤ 20) ∨ (22 ≤ o ∧ o ≤ 23)) → q_A w2 o = q_A w o := f4
  refine Jn_fr hJ (fun o k h3 h16 h48 => f3 o k h16 (by omega)) (fun o ho _ _ => f4 o ?_) f2 ?_ hR
  · unfold scr at ho
    unfold scrB
    omega
  · have hL := hJ.2.2.2.2.2.1
    unfold jL
    rw [f3 3 1 (by omega) (by omega), f3 3 4 (by omega) (by omega), f3 3 7 (by omega) (by omega), f3 48 9 (by omega) (by omega), f3 48 11 (by omega) (by omega), f1 3, f1 5, A 4 (by omega), A 5 (by omega), A 6 (by omega), A 53 (by omega), A 54 (by omega)]
    exact hL
theorem frB_0 {w w2 : qW} (hf : fr0 w w2) : frB w w2 := by
  obtain ⟨f1, f2, f3, f4⟩ := hf
  refine ⟨fun k => by rw [f1], f2, fun o k _ h => f3 o k h, fun o ho => f4 o ?_ ?_ ?_⟩
  all_goals (unfold scrB at ho; omega)
theorem Jn_fr0 {w w2 : qW} (hJ : Jn w) (hf : fr0 w w2) : Jn w2 := Jn_frB hJ (frB_0 hf) (by unfold jR; rw [hf.1]; exact hJ.2.2.2.2.2.2)
theorem i_div {a b : Nat} (ha : a < 2 ^ 31) (hb : 0 < b ∧ b < 2 ^ 31) : nI a / nI b = nI (a / b) := by
  apply Int32.toInt_inj.mp
  have h1 : (nI a).toInt = (a : Int) := nI_toInt (by omega)
  have h2 : (nI b).toInt = (b : Int) := nI_toInt (by omega)
  have h3 : a / b ≤ a := Nat.div_le_self a b
  have := Int32.toInt_div_of_ne_left (nI a) (nI b) (by intro h; rw [z_eq] at h; rw [h1] at h; have : (Int32.minValue).toInt = -2147483648 := by decide
                                                       omega)
  rw [this, h1, h2, nI_toInt (by omega)]
  rw [Int.tdiv_eq_ediv_of_nonneg (by omega)]
  omega
theorem i_mul {a b : Nat} (h : a * b < 2 ^ 31) (ha : a < 2 ^ 31) (hb : b < 2 ^ 31) : nI a * nI b = nI (a * b) := by
  apply Int32.toInt_inj.mp
  have h1 : (nI a).toInt = (a : Int) := nI_toInt (by omega)
  have h2 : (nI b).toInt = (b : Int) := nI_toInt (by omega)
  have h3 : ((a * b : Nat) : Int) = (a : Int) * (b : Int) := Int.natCast_mul a b
  rw [t_mul _ _ (by rw [h1, h2]; omega) (by rw [h1, h2]; omega), h1, h2, nI_toInt (by omega), h3]
theorem i_sub {a b : Nat} (h : b ≤ a) (ha : a < 2 ^ 31) : nI a - nI b = nI (a - b) := by
  apply Int32.toInt_inj.mp
  have h1 : (nI a).toInt = (a : Int) := nI_toInt (by omega)
  have h2 : (nI b).toInt = (b : Int) := nI_toInt (by omega)
  rw [t_sub _ _ (by rw [h1, h2]; omega) (by rw [h1, h2]; omega), h1, h2, nI_toInt (by omega)]
  omega
theorem i_rem {a b : Nat} (ha : a < 2 ^ 31) (hb : 0 < b ∧ b < 2 ^ 31) : q_rem (nI a) (nI b) = nI (a % b) := by
  unfold q_rem
  have h1 : a / b * b ≤ a := Nat.div_mul_le_self a b
  have h2 : a / b ≤ a := Nat.div_le_self a b
  rw [i_div ha hb, i_mul (by omega) (by omega) hb.2, i_sub h1 ha]
  have := Nat.div_add_mod a b
  rw [Nat.mul_comm] at this
  rw [show a - a / b * b = a % b by omega]
