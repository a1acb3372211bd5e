/-! share, passes -/
theorem sm_add (f g : Nat → Nat) : ∀ n, sm (fun i => f i + g i) n = sm f n + sm g n
  | 0 => rfl
  | n + 1 => by
    show sm (fun i => f i + g i) n + (f n + g n) = (sm f n + f n) + (sm g n + g n)
    rw [sm_add f g n]
    omega
theorem sm_zero : ∀ n, sm (fun _ => 0) n = 0
  | 0 => rfl
  | n + 1 => by show sm (fun _ => 0) n + 0 = 0; rw [sm_zero n]
theorem sm_swap (G : Nat → Nat → Nat) (n : Nat) : ∀ k, sm (fun s => sm (G s) k) n = sm (fun m => sm (fun s => G s m) n) k
  | 0 => sm_zero n
  | k + 1 => by
    show sm (fun s => sm (G s) k + G s k) n = sm (fun m => sm (fun s => G s m) n) k + sm (fun s => G s k) n
    rw [sm_add, sm_swap G n k]
theorem s_share_R {tx : Option (List lw_Ln)} {w : qW} {mn st : Nat} {N : Nat → Nat} (hP : PC mn st N w) {m h : Nat} (hm : m < 7) (hh : h < 12) (v : Int32) (hd : ∀ s, s < st → dn tx mn N w s h) : ∀ (k F i : Nat), i + k = st → k < F → f_X7_shareOf_R15 F w (nI m) (nI h) v (nI (sm (fun s => gv tx mn N (N (32 + s)) h m) i)) (nI (sm (fun s => sm (gv tx mn N (N (32 + s)) h) 7) i)) (nI i) = some (if nI (sm (fun s => sm (gv tx mn N (N (32 + s)) h) 7) st) = 0 then 0 else (v * nI (sm (fun s => gv tx mn N (N (32 + s)) h m) st)) / nI (sm (fun s => sm (gv tx mn N (N (32 + s)) h) 7) st), w)
  | 0, F + 1, i, h1, _ => by
    have h8 := hP.2.2.2.1
    have hi : i = st := by omega
    subst hi
    show f_X7_shareOf_B15 (f_X7_shareOf_R15 F) w (nI m) (nI h) v _ _ (nI i) = _
    unfold f_X7_shareOf_B15
    rw [hP.2.1, if_pos (nI_le (by omega) (by omega))]
    by_cases hz : nI (sm (fun s => sm (gv tx mn N (N (32 + s)) h) 7) i) = 0
    · rw [if_pos hz, if_pos hz]
    · rw [if_neg hz, if_neg hz, z_nz hz]
  | k + 1, F + 1, i, h1, h2 => by
    have h8 := hP.2.2.2.1
    have hdi := hd i (by omega)
    show f_X7_shareOf_B15 (f_X7_shareOf_R15 F) w (nI m) (nI h) v _ _ (nI i) = _
    unfold f_X7_shareOf_B15
    rw [hP.2.1, if_neg (nI_ge (by omega) (by omega)), z_bn, n12 _ _ (by omega) hh, n7 _ _ (by omega) hm, ld_lit _ _ _ _ (by omega) (by omega), hdi.2 m hm, z_bn, ld_lit _ _ _ _ (by omega) (by omega), hdi.1, z_bn, z_bn, nI_add, nI_add, nI_1]
    exact s_share_R hP hm hh v hd k F (i + 1) (by omega) (by omega)
theorem m_gives_R {tx : Option (List lw_Ln)} {mn mk st : Nat} {N : Nat → Nat} {m h : Nat} (hm : m < mk) (hh : h < 12) : ∀ (k F i : Nat) (w : qW), lSt tx w → PM mn mk st N w → i + k = st → k < F → rto (f_X11_givesAll_R5 F w (nI m) (nI h) (nI (sm (fun s => sN tx N (N (32 + s)) h m) i)) (nI i)) (nI (sm (fun s => sN tx N (N (32 + s)) h m) st)) w
  | 0, F + 1, i, w, hL, hP, h1, _ => by
    have h8 := hP.2.2.2.1
    show rto (f_X11_givesAll_B5 (f_X11_givesAll_R5 F) w (nI m) (nI h) _ (nI i)) _ w
    unfold f_X11_givesAll_B5
    rw [hP.2.1, if_pos (nI_le (by omega) (by omega)), show i = st by omega]
    exact ⟨w, rfl, fr0_rf w⟩
  | k + 1, F + 1, i, w, hL, hP, h1, h2 => by
    have h8 := hP.2.2.2.1
    obtain ⟨⟨a1, a2⟩, -⟩ := hiM_le hP (s := i) (by omega)
    show rto (f_X11_givesAll_B5 (f_X11_givesAll_R5 F) w (nI m) (nI h) _ (nI i)) _ w
    obtain ⟨w2, e, f⟩ := m_shadeBy hL hP hm hh (nI (N (32 + i)))
    unfold f_X11_givesAll_B5
    rw [hP.2.1, if_neg (nI_ge (by omega) (by omega)), show (32 : Int32) + nI i = nI (32 + i) from nI_add 32 i, ld_lit _ _ _ _ (by omega) (by omega), a1, e, z_cl, z_bn, z_bn, s5_eq, nI_add, nI_1]
    obtain ⟨w3, e3, f3⟩ := m_gives_R hm hh k F (i + 1) w2 (lSt_fr f hL) (PM_fr f hP) (by omega) (by omega)
    exact ⟨w3, e3, fr0_tr f f3⟩
theorem m_gives {tx : Option (List lw_Ln)} {w : qW} {mn mk st : Nat} {N : Nat → Nat} {m h : Nat} (hL : lSt tx w) (hP : PM mn mk st N w) (hm : m < mk) (hh : h < 12) : rto (f_X11_givesAll w (nI m) (nI h)) (nI (sm (fun s => sN tx N (N (32 + s)) h m) st)) w := by
  have h8 := hP.2.2.2.1
  exact m_gives_R hm hh st q_fuel 0 w hL hP (by omega) (by rw [q_fuel_eq]; omega)
theorem m_share_R {tx : Option (List lw_Ln)} {mn st : Nat} {N : Nat → Nat} {c : Nat} (v : Int32) (hc : c < 2 ^ 31) (hm : c / 100 < mn) (hh : c % 100 < 12) : ∀ (k F i : Nat) (w : qW), lSt tx w → PM mn mn st N w → i + k = mn → k < F → rto (f_X11_share_R46 F w (nI c) v (nI (sm (fun m => sm (fun s => sN tx N (N (32 + s)) (c % 100) m) st) i)) (nI i)) (if nI (sm (fun m => sm (fun s => sN tx N (N (32 + s)) (c % 100) m) st) mn) = 0 then 0 else (v * nI (sm (fun s => sN tx N (N (32 + s)) (c % 100) (c / 100)) st)) / nI (sm (fun m => sm (fun s => sN tx N (N (32 + s)) (c % 100) m) st) mn)) w
  | 0, F + 1, i, w, hL, hP, h1, _ => by
    have h7 := hP.2.2.1
    have hi : i = mn := by omega
    subst hi
    show rto (f_X11_share_B46 (f_X11_share_R46 F) w (nI c) v _ (nI i)) _ w
    unfold f_X11_share_B46
    rw [hP.1, if_pos (nI_le (by omega) (by omega))]
    by_cases hz : nI (sm (fun m => sm (fun s => sN tx N (N (32 + s)) (c % 100) m) st) i) = 0
    · rw [if_pos hz, if_pos hz]; exact ⟨w, rfl, fr0_rf w⟩
    · rw [if_neg hz, if_neg hz]
      obtain ⟨w2, e, f⟩ := m_gives hL hP (m := c / 100) (h := c % 100) hm hh
      rw [show nI c / 100 = nI (c / 100) from i_div (b := 100) hc (by omega), show q_rem (nI c) 100 = nI (c % 100) from i_rem (b := 100) hc (by omega), e, z_cl, z_nz hz]
      exact ⟨w2, rfl, f⟩
  | k + 1, F + 1, i, w, hL, hP, h1, h2 => by
    have h7 := hP.2.2.1
    show rto (f_X11_share_B46 (f_X11_share_R46 F) w (nI c) v _ (nI i)) _ w
    obtain ⟨w2, e, f⟩ := m_gives hL hP (m := i) (h := c % 100) (by omega) hh
    unfold f_X11_share_B46
    rw [hP.1, if_neg (nI_ge (by omega) (by omega)), show q_rem (nI c) 100 = nI (c % 100) from i_rem (b := 100) hc (by omega), e, z_cl, z_bn, z_bn, nI_add, nI_1]
    obtain ⟨w3, e3, f3⟩ := m_share_R v hc hm hh k F (i + 1) w2 (lSt_fr f hL) (PM_fr f hP) (by omega) (by omega)
    exact ⟨w3, e3, fr0_tr f f3⟩
theorem p_share : j_share := by
  intro a b w hJ
  show ∃ r w1 w2, f_X10_share w a b = some (r, w1) ∧ f_X11_share w1 a b = some (r, w2) ∧ Jn w2
  obtain ⟨tx, hL⟩ := lSt_of hJ
  obtain ⟨mn, st, N, hC, hM, -⟩ := PN_of hJ
  have h7 := hC.2.2.1
  have h8 := hC.2.2.2.1
  have c9 : (9999 : Int32).toInt = 9999 := by decide
  have d9 : (9999 : Int64).toInt = 9999 := by decide
  by_cases h0 : a.toInt < 0
  · refine ⟨-1, w, w, ?_, ?_, hJ⟩
    · unfold f_X10_share
      rw [z_bn, z_bn, if_pos (by rw [z_lt, c0]; exact h0)]
    · unfold f_X11_share
      rw [if_pos (by rw [z_lt, c0]; exact h0)]
  · obtain ⟨c, hc⟩ : ∃ c, c = a.toInt.toNat := ⟨_, rfl⟩
    have ea : a = nI c := by rw [hc]; exact z_nI _ (by omega)
    have hc2 : c < 2 ^ 31 := by have := t_hi a; omega
    subst ea
    have h0' : ¬ nI c < 0 := by rw [z_lt, c0, nI_toInt (by omega)]; omega
    have d1 : nI c / 100 = nI (c / 100) := i_div (b := 100) hc2 (by omega)
    have d2 : q_rem (nI c) 100 = nI (c % 100) := i_rem (b := 100) hc2 (by omega)
    have t2 : (nI (c / 100)).toInt = ((c / 100 : Nat) : Int) := nI_toInt (by omega)
    have t3 : (nI (c % 100)).toInt = ((c % 100 : Nat) : Int) := nI_toInt (by omega)
    have t1 : (nI mn).toInt = (mn : Int) := nI_toInt (by omega)
    unfold f_X10_share f_X11_share
    rw [z_bn, z_bn, d1, d2, if_neg h0']
    simp only [if_neg h0']
    rw [hC.1]
    by_cases g1 : c / 100 < mn
    · rw [if_neg (by rw [z_le, t1, t2]; omega), p_isHour, z_cl]
      by_cases g2 : c % 100 < 12
      · rw [bd_t (by rw [t3]; omega) (by rw [t3]; omega), if_neg n10]
        by_cases g3 : 0 ≤ b.toInt ∧ b.toInt ≤ 9999
        · rw [if_neg (by rw [z_lt, c0]; omega), if_pos (by rw [z_le, c9]; omega)]
          obtain ⟨w1, e1, f1, hd⟩ := s_weigh hL hC (a := c % 100) (b := c % 100) (Nat.le_refl _) g2
          have hC1 := PC_fr1 f1 hC
          have hM1 := PM_fr1 f1 hM
          have e3 := s_share_R hC1 (m := c / 100) (by omega) g2 b (fun s hs => hd s _ hs (Nat.le_refl _) (Nat.le_refl _)) st q_fuel 0 (by omega) (by rw [q_fuel_eq]; omega)
          obtain ⟨w2, e2, f2⟩ := m_share_R (tx := tx) b hc2 g1 g2 mn q_fuel 0 w1 (lSt_fr1 f1 hL) hM1 (by omega) (by rw [q_fuel_eq]; omega)
          have q1 : sm (fun s => sm (gv tx mn N (N (32 + s)) (c % 100)) 7) st = sm (fun m => sm (fun s => sN tx N (N (32 + s)) (c % 100) m) st) mn := by
            rw [← sm_swap (fun s m => sN tx N (N (32 + s)) (c % 100) m) st mn]
            apply sm_congr
            intro s _
            rw [sm_7 h7]
            apply sm_congr
            intro m hm
            unfold gv
            rw [if_pos hm]
          have q2 : sm (fun s => gv tx mn N (N (32 + s)) (c % 100) (c / 100)) st = sm (fun s => sN tx N (N (32 + s)) (c % 100) (c / 100)) st := by
            apply sm_congr
            intro s _
            unfold gv
            rw [if_pos g1]
          rw [q1, q2] at e3
          unfold f_X7_shareOf
          rw [e1, z_cl, show f_X7_shareOf_R15 q_fuel w1 (nI (c / 100)) (nI (c % 100)) b 0 0 0 = _ from e3, z_cl]
          refine ⟨_, w1, w2, rfl, ?_, Jn_fr0 (Jn_fr1 hJ f1) f2⟩
          rw [m_isMan hM1, z_cl, bd_t (by rw [t2]; omega) (by rw [t2]; omega), if_neg n10, m_isHour, z_cl, bd_t (by rw [t3]; omega) (by rw [t3]; omega), if_neg n10, p_within32, z_cl, d0, d9, bd_t g3.1 g3.2, if_neg n10]
          exact e2
        · refine ⟨-1, w, w, ?_, ?_, hJ⟩
          · by_cases g4 : b.toInt < 0
            · rw [if_pos (by rw [z_lt, c0]; omega)]
            · rw [if_neg (by rw [z_lt, c0]; omega), if_neg (by rw [z_le, c9]; omega)]
          · rw [m_isMan hM, z_cl, bd_t (by rw [t2]; omega) (by rw [t2]; omega), if_neg n10, m_isHour, z_cl, bd_t (by rw [t3]; omega) (by rw [t3]; omega), if_neg n10, p_within32, z_cl, d0, d9, bd_f g3, if_pos rfl]
      · rw [bd_f (by rw [t3]; omega), if_pos rfl]
        refine ⟨-1, w, w, rfl, ?_, hJ⟩
        rw [m_isMan hM, z_cl, bd_t (by rw [t2]; omega) (by rw [t2]; omega), if_neg n10, m_isHour, z_cl, bd_f (by rw [t3]; omega), if_pos rfl]
    · rw [if_pos (by rw [z_le, t1, t2]; omega)]
      refine ⟨-1, w, w, rfl, ?_, hJ⟩
      rw [m_isMan hM, z_cl, bd_f (by rw [t2]; omega), if_pos rfl]
/-! what a set of men is paid -/
def payS (N : Nat → Nat) (set : Nat) (k : Nat) : Nat := sm (fun m => if set.testBit m then N (24 + m) else 0) k
theorem s_pay_R {w : qW} {mn st : Nat} {N : Nat → Nat} (hP : PC mn st N w) {set : Nat} (hset : set < 256) : ∀ (k F i : Nat), i + k = mn → k < F → f_X4_payOf_R4 F w (nI set) (nI (payS N set i)) (nI i) = some (nI (payS N set mn), w)
  | 0, F + 1, i, h1, _ => by
    have h7 := hP.2.2.1
    show f_X4_payOf_B4 (f_X4_payOf_R4 F) w (nI set) (nI (payS N set i)) (nI i) = _
    unfold f_X4_payOf_B4
    rw [hP.1, if_pos (nI_le (by omega) (by omega)), show i = mn by omega]
  | k + 1, F + 1, i, h1, h2 => by
    have h7 := hP.2.2.1
    show f_X4_payOf_B4 (f_X4_payOf_R4 F) w (nI set) (nI (payS N set i)) (nI i) = _
    have es : payS N set (i + 1) = payS N set i + (if set.testBit i then N (24 + i) else 0) := rfl
    have ih := s_pay_R hP hset k F (i + 1) (by omega) (by omega)
    rw [es] at ih
    unfold f_X4_payOf_B4 f_X4_payOf_B29
    rw [hP.1, if_neg (nI_ge (by omega) (by omega)), bt_8 set hset i (by omega)]
    cases hb : set.testBit i with
    | true =>
      rw [hb] at ih
      rw [if_pos rfl, if_neg (by decide), show f_X4_get w (nI i) 3 = _ from s_getm hP 3 (by omega) (by omega), z_cl, z_bn, z_bn, nI_add, nI_1, show 8 * 3 + i = 24 + i by omega]
      exact ih
    | false =>
      rw [hb] at ih
      rw [if_neg (show ¬ false = true by decide), if_pos (by decide), z_bn, nI_1]
      exact ih
theorem s_pay {w : qW} {mn st : Nat} {N : Nat → Nat} (hP : PC mn st N w) {set : Nat} (hset : set < 256) : f_X4_payOf w (nI set) = some (nI (payS N set mn), w) := by
  have h7 := hP.2.2.1
  exact s_pay_R hP hset mn q_fuel 0 (by omega) (by rw [q_fuel_eq]; omega)
theorem m_pay_R {w : qW} {mn mk st : Nat} {N : Nat → Nat} (hP : PM mn mk st N w) (hk : mn ≤ mk) {set : Nat} (hset : set < 256) : ∀ (k F i : Nat), i + k = mn → k < F → f_X11_payOf_R4 F w (nI set) (nI (payS N set i)) (nI i) = some (nI (payS N set mn), w)
  | 0, F + 1, i, h1, _ => by
    have h7 := hP.2.2.1
    show f_X11_payOf_B4 (f_X11_payOf_R4 F) w (nI set) (nI (payS N set i)) (nI i) = _
    unfold f_X11_payOf_B4
    rw [hP.1, if_pos (nI_le (by omega) (by omega)), show i = mn by omega]
  | k + 1, F + 1, i, h1, h2 => by
    have h7 := hP.2.2.1
    show f_X11_payOf_B4 (f_X11_payOf_R4 F) w (nI set) (nI (payS N set i)) (nI i) = _
    have es : payS N set (i + 1) = payS N set i + (if set.testBit i then N (24 + i) else 0) := rfl
    have ih := m_pay_R hP hk hset k F (i + 1) (by omega) (by omega)
    have a24 : q_A w 49 (24 + i) = nI (N (24 + i)) := (hP.2.2.2.2.2 (24 + i) (Or.inr (Or.inr (Or.inr ⟨by omega, by omega, by omega⟩)))).1
    rw [es] at ih
    unfold f_X11_payOf_B4 f_X11_payOf_B34
    rw [hP.1, if_neg (nI_ge (by omega) (by omega)), m_isIn8 w hset (by omega), z_cl]
    cases hb : set.testBit i with
    | true =>
      rw [hb] at ih
      rw [if_neg bnz, show (24 : Int32) + nI i = nI (24 + i) from nI_add 24 i, ld_lit _ _ _ _ (by omega) (by omega), a24, z_bn, z_bn, nI_add, nI_1]
      exact ih
    | false =>
      rw [hb] at ih
      rw [if_pos bz, z_bn, z_bn, Int32.add_zero, nI_1]
      exact ih
theorem m_pay {w : qW} {mn mk st : Nat} {N : Nat → Nat} (hP : PM mn mk st N w) (hk : mn ≤ mk) {set : Nat} (hset : set < 256) : f_X11_payOf w (nI set) = some (nI (payS N set mn), w) := by
  have h7 := hP.2.2.1
  exact m_pay_R hP hk hset mn q_fuel 0 (by omega) (by rw [q_fuel_eq]; omega)
theorem Jn_pass {w : qW} (hJ : Jn w) (n p : Int32) : Jn (q_sA (q_sA (q_sI w 48 18 (q_rem (q_I w 48 18 + 1) 12)) 27 (upd (upd (upd (upd (q_A w 27) 0 (q_A w 27 0 + 1)) 3 (q_A w 27 3 + p)) 4 (q_A w 27 4 + n)) 5 (q_rem (q_A w 27 5 + 1) 12))) 56 (upd (upd (upd (q_A w 56) 0 (q_A w 56 0 + 1)) 3 (q_A w 56 3 + p)) 4 (q_A w 56 4 + n))) := by
  obtain ⟨hP, hC, ⟨h1, h2, h3, h4⟩, hT, hS, hL, hR⟩ := hJ
  refine ⟨hP, hC, ⟨?_, ?_, ?_, h4⟩, hT, hS, hL, hR⟩
  · intro j hj
    show upd (upd (upd (upd (q_A w 27) 0 (q_A w 27 0 + 1)) 3 (q_A w 27 3 + p)) 4 (q_A w 27 4 + n)) 5 (q_rem (q_A w 27 5 + 1) 12) j = upd (upd (upd (q_A w 56) 0 (q_A w 56 0 + 1)) 3 (q_A w 56 3 + p)) 4 (q_A w 56 4 + n) j
    have e0 := h1 0 (by omega)
    have e1 := h1 1 (by omega)
    have e2 := h1 2 (by omega)
    have e3 := h1 3 (by omega)
    have e4 := h1 4 (by omega)
    match j, hj with
    | 0, _ => show q_A w 27 0 + 1 = q_A w 56 0 + 1; rw [e0]
    | 1, _ => exact e1
    | 2, _ => exact e2
    | 3, _ => show q_A w 27 3 + p = q_A w 56 3 + p; rw [e3]
    | 4, _ => show q_A w 27 4 + n = q_A w 56 4 + n; rw [e4]
  · show q_rem (q_A w 27 5 + 1) 12 = q_rem (q_I w 48 18 + 1) 12
    rw [h2]
  · show 0 ≤ (q_rem (q_I w 48 18 + 1) 12).toInt ∧ (q_rem (q_I w 48 18 + 1) 12).toInt < 12
    obtain ⟨x, hx⟩ : ∃ x, x = (q_I w 48 18).toInt.toNat := ⟨_, rfl⟩
    have ex : q_I w 48 18 = nI x := by rw [hx]; exact z_nI _ h3.1
    have hx12 : x < 12 := by omega
    rw [ex, nI_1, show q_rem (nI (x + 1)) 12 = nI ((x + 1) % 12) from i_rem (b := 12) (by omega) (by omega), nI_toInt (by omega)]
    omega
theorem p_passes : j_passes := by
  intro w hJ
  show ∃ r w1 w2, f_X10_passes w = some (r, w1) ∧ f_X11_passes w1 = some (r, w2) ∧ Jn w2
  obtain ⟨tx, hL⟩ := lSt_of hJ
  obtain ⟨mn, st, N, hC, hM, -⟩ := PN_of hJ
  have h7 := hC.2.2.1
  have h8 := hC.2.2.2.1
  obtain ⟨-, -, ⟨-, d2, d3, -⟩, -⟩ := id hJ
  obtain ⟨h, hx⟩ : ∃ x, x = (q_I w 48 18).toInt.toNat := ⟨_, rfl⟩
  have ex : q_I w 48 18 = nI h := by rw [hx]; exact z_nI _ d3.1
  have hh : h < 12 := by omega
  have l1 : 2 ^ st ≤ 2 ^ 8 := Nat.pow_le_pow_right (by omega) h8
  have l1 : 2 ^ st ≤ 256 := l1
  have l2 := mkb_lt (fun s => wnt N s h && !svd tx mn N s h) st
  obtain ⟨X, hX⟩ : ∃ X, X = mkb (fun s => wnt N s h && !svd tx mn N s h) st := ⟨_, rfl⟩
  rw [← hX] at l2
  obtain ⟨w4, e4, f4⟩ := s_missingAt hL hC hh
  rw [← hX] at e4
  have hC4 := PC_fr1 f4 hC
  have a27 := fr1_A f4 27 (by omega)
  obtain ⟨p, hp⟩ : ∃ p, p = nI (payS N (evb mn) mn) := ⟨_, rfl⟩
  obtain ⟨n, hn⟩ : ∃ n, n = nI (pc X 12) := ⟨_, rfl⟩
  obtain ⟨L', hL'⟩ : ∃ L', L' = upd (upd (upd (upd (q_A w 27) 0 (q_A w 27 0 + 1)) 3 (q_A w 27 3 + p)) 4 (q_A w 27 4 + n)) 5 (q_rem (q_A w 27 5 + 1) 12) := ⟨_, rfl⟩
  have ec : f_X10_passes w = some (n, q_sA w4 27 L') := by
    unfold f_X10_passes f_X2_hour
    rw [show (5 : Int32) = nI 5 from rfl, ld_lit _ _ _ _ (by omega) (by omega), z_cl, show q_A w 27 5 = nI h from d2.trans ex, e4, z_cl, s_bc _ (by omega), z_cl, ← hn]
    unfold f_X2_hourPasses
    rw [show (q_ld (q_A w4 27) 6 0) = q_ld (q_A w4 27) 6 (nI 0) (β := Unit × qW) from rfl, ld_lit _ _ _ _ (by omega) (by omega)]
    rw [show (q_st w4 27 6 0 (q_A w4 27 0 + 1)) = q_st w4 27 6 (nI 0) (q_A w4 27 0 + 1) (β := Unit × qW) from rfl, st_lit _ _ _ _ _ _ (by omega) (by omega)]
    have hC5 : PC mn st N (q_sA w4 27 (upd (q_A w4 27) 0 (q_A w4 27 0 + 1))) := hC4
    rw [show (3 : Int32) = nI 3 from rfl, ld_lit _ _ _ _ (by omega) (by omega), s_evb hC5, z_cl, s_pay hC5 (evb_lt mn (by omega)), z_cl, ← hp, st_lit _ _ _ _ _ _ (by omega) (by omega)]
    rw [show (4 : Int32) = nI 4 from rfl, ld_lit _ _ _ _ (by omega) (by omega), st_lit _ _ _ _ _ _ (by omega) (by omega)]
    rw [show (5 : Int32) = nI 5 from rfl, ld_lit _ _ _ _ (by omega) (by omega), st_lit _ _ _ _ _ _ (by omega) (by omega), z_cl]
    simp only [sA_two, g_AA, if_true, a27]
    rw [hL']
    rfl
  have hM4 := PM_fr1 f4 hM
  have hM5 : PM mn mn st N (q_sA w4 27 L') := hM4
  have hL5 : lSt tx (q_sA w4 27 L') := by
    have h0 := lSt_fr1 f4 hL
    rcases h0 with ⟨k1, k2, k3⟩ | ⟨lns, nn, LL, W, k1, k2, ⟨q1, q2, q3, q4⟩, k4⟩
    · exact Or.inl ⟨k1, k2, k3⟩
    · refine Or.inr ⟨lns, nn, LL, W, k1, k2, ⟨q1, q2, q3, ?_⟩, k4⟩
      show q_A (q_sA w4 27 L') (q_R w4 3 3) = W
      rw [g_AA, if_neg (by omega)]
      exact q4
  obtain ⟨w6, e6, f6⟩ := m_at hL5 hM5 hh 1 (by decide)
  have ef : fAt tx mn N h 1 = fun s => wnt N s h && !svd tx mn N s h := by
    funext s
    unfold fAt
    rw [if_neg (by decide)]
  rw [ef, ← hX] at e6
  have i18 : q_I (q_sA w4 27 L') 48 18 = nI h := by show q_I w4 48 18 = nI h; rw [fr1_I f4 48 18 (by omega), ex]
  have i18b : q_I w6 48 18 = q_I w 48 18 := by rw [fr0_I f6 48 18 (by omega), i18, ex]
  have a56 : q_A w6 56 = q_A w 56 := by rw [fr0_A f6 56 (by omega)]; show q_A (q_sA w4 27 L') 56 = _; rw [g_AA, if_neg (by omega)]; exact fr1_A f4 56 (by omega)
  have hM6 := PM_fr f6 hM5
  refine ⟨n, q_sA w4 27 L', q_sA (q_sI w6 48 18 (q_rem (q_I w 48 18 + 1) 12)) 56 (upd (upd (upd (q_A w 56) 0 (q_A w 56 0 + 1)) 3 (q_A w 56 3 + p)) 4 (q_A w 56 4 + n)), ec, ?_, ?_⟩
  · unfold f_X11_passes
    rw [i18, e6, z_cl, m_bits _ (by omega), z_cl, z_bn, i18b, ← hn]
    obtain ⟨w7, hw7⟩ : ∃ w7, w7 = q_sI w6 48 18 (q_rem (q_I w 48 18 + 1) 12) := ⟨_, rfl⟩
    rw [← hw7]
    have b56 : q_A w7 56 = q_A w 56 := by rw [hw7]; exact a56
    rw [show (q_ld (q_A w7 56) 5 0) = q_ld (q_A w7 56) 5 (nI 0) (β := Int32 × qW) from rfl, ld_lit _ _ _ _ (by omega) (by omega)]
    rw [show (q_st w7 56 5 0 (q_A w7 56 0 + 1)) = q_st w7 56 5 (nI 0) (q_A w7 56 0 + 1) (β := Int32 × qW) from rfl, st_lit _ _ _ _ _ _ (by omega) (by omega)]
    have hM8 : PM mn mn st N (q_sA w7 56 (upd (q_A w7 56) 0 (q_A w7 56 0 + 1))) := by rw [hw7]; exact hM6
    rw [show (3 : Int32) = nI 3 from rfl, ld_lit _ _ _ _ (by omega) (by omega), m_evb hM8, z_cl, m_pay hM8 (Nat.le_refl mn) (evb_lt mn (by omega)), z_cl, ← hp, st_lit _ _ _ _ _ _ (by omega) (by omega)]
    rw [show (4 : Int32) = nI 4 from rfl, ld_lit _ _ _ _ (by omega) (by omega), st_lit _ _ _ _ _ _ (by omega) (by omega)]
    simp only [sA_two, g_AA, if_true, b56]
    rfl
  · have hJ0 := Jn_pass hJ n p
    rw [← hL'] at hJ0
    refine Jn_frB hJ0 ⟨?_, ?_, ?_, ?_⟩ ?_
    · intro k
      show q_R w6 3 k = q_R w 3 k
      rw [f6.1]
      show q_R w4 3 k = q_R w 3 k
      rw [f4.1]
    · show q_G w6 = q_G w
      rw [f6.2.1]
      exact f4.2.1
    · intro o k h16 h48
      show q_I (q_sI w6 48 18 (q_rem (q_I w 48 18 + 1) 12)) o k = q_I (q_sI w 48 18 (q_rem (q_I w 48 18 + 1) 12)) o k
      rw [g_II, g_II]
      by_cases hc : o = 48 ∧ k = 18
      · rw [if_pos hc, if_pos hc]
      · rw [if_neg hc, if_neg hc, f6.2.2.1 o k h48]
        exact f4.2.2.1 o k h48
    · intro o ho
      unfold scrB at ho
      show q_A (q_sA (q_sI w6 48 18 _) 56 _) o = q_A (q_sA (q_sA (q_sI w 48 18 _) 27 L') 56 _) o
      rw [g_AA, g_AA, g_AA, g_AI, g_AI]
      by_cases h56 : o = 56
      · rw [if_pos h56, if_pos h56]
      · rw [if_neg h56, if_neg h56, f6.2.2.2 o (by omega) (by omega) (by omega), g_AA]
        by_cases h27 : o = 27
        · rw [if_pos h27, if_pos h27]
        · rw [if_neg h27, if_neg h27]
          exact f4.2.2.2 o (by omega) (by omega) (by omega) (by omega)
    · have hR := hJ.2.2.2.2.2.2
      unfold jR at hR ⊢
      show (q_R w6 21 2 = 22 ∧ q_R w6 21 3 = 23) ∨ (q_R w6 21 2 = 23 ∧ q_R w6 21 3 = 22)
      rw [f6.1]
      show (q_R w4 21 2 = 22 ∧ q_R w4 21 3 = 23) ∨ (q_R w4 21 2 = 23 ∧ q_R w4 21 3 = 22)
      rw [f4.1]
      exact hR
