/-! clouds by draws: the draws -/
theorem nlt_le {a b : Int32} (h : ¬ a < b) : b ≤ a := by
  rw [z_le]
  rw [z_lt] at h
  omega
theorem lt_nle {a b : Int32} (h : a < b) : ¬ b ≤ a := by
  rw [z_le]
  rw [z_lt] at h
  omega
def aw (seed : Int32) (mn d : Nat) : Nat := if mn = 0 then 0 else (q_ush (zz seed (d + 1)) 16).toInt.toNat % mn
def cldy (seed : Int32) (cN d : Nat) : Bool := decide (q_rem (q_ush (zz seed (d + 1)) 8) 12 < nI cN)
def mI (tx : Option (List lw_Ln)) (mn st : Nat) (N : Nat → Nat) (seed : Int32) (cN : Nat) (c : Nat → Bool) : Nat → Nat
  | 0 => 0
  | d + 1 => mI tx mn st N seed cN c d + (if cldy seed cN d then 0 else loS tx mn N c st (d % 12) (aw seed mn d))
theorem aw_y {seed : Int32} {d y : Nat} (mn : Nat) (h1 : y < 65536) (h2 : q_ush (zz seed (d + 1)) 16 = nI y) : aw seed mn d = if mn = 0 then 0 else y % mn := by
  unfold aw
  rw [h2, nI_toInt (by omega), Int.toNat_natCast]
theorem s_draw {tx : Option (List lw_Ln)} {mn st : Nat} {N : Nat → Nat} {w : qW} (hP : PC mn st N w) {days cN : Nat} (hdy : days ≤ 30) (seed : Int32) (c : Nat → Bool) (h15 : ∀ h j, h < 12 → j < 7 → q_A w 15 (7 * h + j) = nI (loS tx mn N c st h j)) : ∀ (k F i : Nat), i + k = 12 * days → k < F → f_X7_missesDrawn_R22 F w (nI days) (nI cN) (zz seed i) (nI (mI tx mn st N seed cN c i)) (nI i) = some (nI (mI tx mn st N seed cN c (12 * days)), w)
  | 0, F + 1, i, h1, _ => by
    show f_X7_missesDrawn_B22 (f_X7_missesDrawn_R22 F) w (nI days) (nI cN) (zz seed i) (nI (mI tx mn st N seed cN c i)) (nI i) = _
    unfold f_X7_missesDrawn_B22
    rw [show nI days * 12 = nI (days * 12) from i_mul (b := 12) (by omega) (by omega) (by omega), if_pos (nI_le (by omega) (by omega)), show i = 12 * days by omega]
  | k + 1, F + 1, i, h1, h2 => by
    have h7 := hP.2.2.1
    show f_X7_missesDrawn_B22 (f_X7_missesDrawn_R22 F) w (nI days) (nI cN) (zz seed i) (nI (mI tx mn st N seed cN c i)) (nI i) = _
    unfold f_X7_missesDrawn_B22 f_X7_missesDrawn_B81 f_X7_missesDrawn_B104
    have ih := s_draw (cN := cN) hP hdy seed c h15 k F (i + 1) (by omega) (by omega)
    have es : mI tx mn st N seed cN c (i + 1) = mI tx mn st N seed cN c i + (if cldy seed cN i then 0 else loS tx mn N c st (i % 12) (aw seed mn i)) := rfl
    have ez : zz seed i * 1103515245 + 12345 = zz seed (i + 1) := rfl
    have ec : cldy seed cN i = decide (q_rem (q_ush (zz seed (i + 1)) 8) 12 < nI cN) := rfl
    have er : q_rem (nI i) 12 = nI (i % 12) := i_rem (b := 12) (by omega) (by omega)
    rw [show nI days * 12 = nI (days * 12) from i_mul (b := 12) (by omega) (by omega) (by omega), if_neg (nI_ge (by omega) (by omega)), z_bn, ez]
    simp only [z_bn, nI_1]
    rw [es] at ih
    by_cases hc : q_rem (q_ush (zz seed (i + 1)) 8) 12 < nI cN
    · rw [decide_eq_true hc] at ec
      rw [ec] at ih
      rw [if_pos hc]
      exact ih
    · rw [decide_eq_false hc] at ec
      rw [ec] at ih
      rw [if_neg hc, hP.1]
      obtain ⟨y, y1, y2⟩ := ush_nn (zz seed (i + 1))
      have ea := aw_y mn y1 y2
      have fin : ∀ a, a < 7 → a = aw seed mn i → q_ld (q_A w 15) 84 (q_rem (nI i) 12 * 7 + nI a) (fun v1 => f_X7_missesDrawn_R22 F w (nI days) (nI cN) (zz seed (i + 1)) (nI (mI tx mn st N seed cN c i) + v1) (nI (i + 1))) = some (nI (mI tx mn st N seed cN c (12 * days)), w) := by
        intro a ha1 ha2
        rw [er, show nI (i % 12) * 7 = nI (i % 12 * 7) from i_mul (b := 7) (by omega) (by omega) (by omega), nI_add, ld_lit _ _ _ _ (by omega) (by omega), show i % 12 * 7 + a = 7 * (i % 12) + a by omega, h15 _ _ (by omega) ha1, nI_add, ha2]
        exact ih
      by_cases hm : mn = 0
      · rw [if_pos (by rw [hm]; rfl)]
        exact fin 0 (by omega) (by rw [ea, if_pos hm])
      · have hm0 : ¬ nI mn = 0 := by rw [z_eq, c0, nI_toInt (by omega)]; omega
        have hlt : y % mn < mn := Nat.mod_lt _ (by omega)
        rw [if_neg hm0, z_nz hm0]
        rw [if_neg hm] at ea
        have := fin (y % mn) (by omega) ea.symm
        rw [← i_rem (b := mn) (by omega) (by omega), ← y2] at this
        exact this
def setD (mn a : Nat) : Nat := if mn = 0 then 0 else andn (evb mn) (2 ^ a)
theorem sh1 : ∀ m : Nat, m < 12 → (1 : Int32) <<< (nI m &&& 31) = nI (2 ^ m) := by decide +kernel
theorem p2_bt (a i : Nat) : (2 ^ a).testBit i = decide (a = i) := Nat.testBit_two_pow
theorem minus_bt {mn a i : Nat} (hm : mn ≤ 7) (hi : i < 9) : (andn (evb mn) (2 ^ a)).testBit i = (decide (i < mn) && !decide (a = i)) := by
  rw [andn_bt _ _ (by omega), evb_bt mn (by omega) i hi, p2_bt]
theorem minus_sm {g : Nat → Nat} {mn a : Nat} (hm : mn ≤ 7) (ha : a < mn) : ∀ k, k ≤ 8 → smS g (andn (evb mn) (2 ^ a)) k + (if a < k then g a else 0) = smS g (evb mn) k
  | 0, _ => by rw [if_neg (by omega)]; rfl
  | k + 1, hk => by
    have ih := minus_sm (g := g) hm ha k (by omega)
    show smS g (andn (evb mn) (2 ^ a)) k + (if (andn (evb mn) (2 ^ a)).testBit k then g k else 0) + (if a < k + 1 then g a else 0) = smS g (evb mn) k + (if (evb mn).testBit k then g k else 0)
    rw [minus_bt hm (by omega), evb_bt mn (by omega) k (by omega), ← ih]
    by_cases h1 : a = k
    · subst h1
      rw [decide_eq_true ha, decide_eq_true (show a = a from rfl), if_neg (by decide), if_pos (show a < a + 1 by omega), if_neg (show ¬ a < a by omega), if_pos rfl]
    · rw [decide_eq_false h1]
      by_cases h2 : a < k
      · rw [if_pos h2, if_pos (show a < k + 1 by omega)]
        cases decide (k < mn) with
        | true => rw [if_pos (by decide), if_pos rfl]; omega
        | false => rw [if_neg (by decide), if_neg (by decide)]; omega
      · rw [if_neg h2, if_neg (show ¬ a < k + 1 by omega)]
        cases decide (k < mn) with
        | true => rw [if_pos (by decide), if_pos rfl]; omega
        | false => rw [if_neg (by decide), if_neg (by decide)]
theorem smS_0 (g : Nat → Nat) : ∀ k, smS g 0 k = 0
  | 0 => rfl
  | k + 1 => by
    show smS g 0 k + (if Nat.testBit 0 k then g k else 0) = 0
    rw [smS_0 g k, Nat.zero_testBit]
    rfl
theorem setD_sv {tx : Option (List lw_Ln)} {mn : Nat} {N : Nat → Nat} {s h a : Nat} (hm : mn ≤ 7) (ha : a < mn ∨ (mn = 0 ∧ a = 0)) : svS tx N (setD mn a) s h = !lck tx mn N s h a := by
  unfold svS lck setD
  rcases ha with ha | ⟨h1, h2⟩
  · have e := minus_sm (g := sN tx N (N (32 + s)) h) hm ha 8 (by omega)
    rw [if_pos (by omega), evb_sm hm, ← sm_7 hm] at e
    have eg : gv tx mn N (N (32 + s)) h a = sN tx N (N (32 + s)) h a := by unfold gv; rw [if_pos ha]
    rw [if_neg (by omega), eg, ← e]
    by_cases hc : N (48 + s) ≤ smS (sN tx N (N (32 + s)) h) (andn (evb mn) (2 ^ a)) 8
    · rw [decide_eq_true hc, decide_eq_false (by omega)]; rfl
    · rw [decide_eq_false hc, decide_eq_true (by omega)]; rfl
  · subst h1; subst h2
    rw [if_pos rfl, smS_0, sm_7 (mn := 0) (by omega)]
    show decide (N (48 + s) ≤ 0) = !decide (0 - _ < N (48 + s))
    rw [Nat.zero_sub]
    by_cases hc : N (48 + s) ≤ 0
    · rw [decide_eq_true hc, decide_eq_false (by omega)]; rfl
    · rw [decide_eq_false hc, decide_eq_true (by omega)]; rfl
theorem setD_ok {mn a : Nat} (hm : mn ≤ 7) : setD mn a < 256 ∧ ∀ m, m < 8 → (setD mn a).testBit m = true → m < mn := by
  unfold setD
  by_cases h : mn = 0
  · rw [if_pos h]
    exact ⟨by omega, fun m _ hb => by rw [Nat.zero_testBit] at hb; exact no_ft hb⟩
  · rw [if_neg h]
    refine ⟨Nat.lt_of_le_of_lt Nat.and_le_left (evb_lt mn (by omega)), fun m h8 hb => ?_⟩
    rw [minus_bt hm (by omega), Bool.and_eq_true] at hb
    exact of_decide_eq_true hb.1
def cOne (l3 : Int32) (s : Nat) : Bool := decide (nI s = l3)
theorem m_drawP {tx : Option (List lw_Ln)} {mn st : Nat} {N : Nat → Nat} {h a A O : Nat} (hh : h < 12) (ha : a < mn ∨ (mn = 0 ∧ a = 0)) (k62 : qW → Int32 → Int32 → Int32 → Int32 → Int32 → Int32 → Option (Int32 × qW)) (k74 : qW → Int32 → Int32 → Int32 → Int32 → Int32 → Int32 → Int32 → Option (Int32 × qW)) (l2 l3 l4 l7 : Int32) : ∀ (k F i : Nat) (w : qW), lSt tx w → PM mn mn st N w → i + k = st → k < F → ∃ w2, f_X11_drawn_R150 k62 k74 F w l2 l3 l4 (nI (A + loS tx mn N (fun _ => true) i h a)) (nI (O + loS tx mn N (cOne l3) i h a)) l7 (nI h) 0 (nI (setD mn a)) (nI i) = k74 w2 l2 l3 l4 (nI (A + loS tx mn N (fun _ => true) st h a)) (nI (O + loS tx mn N (cOne l3) st h a)) l7 (nI (h + 1)) ∧ fr0 w w2
  | 0, F + 1, i, w, hL, hP, h1, _ => by
    have h8 := hP.2.2.2.1
    refine ⟨w, ?_, fr0_rf w⟩
    show f_X11_drawn_B150 k62 k74 (f_X11_drawn_R150 k62 k74 F) w l2 l3 l4 _ _ l7 (nI h) 0 (nI (setD mn a)) (nI i) = _
    unfold f_X11_drawn_B150 f_X11_drawn_B225
    rw [hP.2.1, if_pos (nI_le (by omega) (by omega)), z_bn, nI_1, show i = st by omega]
  | k + 1, F + 1, i, w, hL, hP, h1, h2 => by
    have h7 := hP.2.2.1
    have h8 := hP.2.2.2.1
    show ∃ w2, f_X11_drawn_B150 k62 k74 (f_X11_drawn_R150 k62 k74 F) w l2 l3 l4 _ _ l7 (nI h) 0 (nI (setD mn a)) (nI i) = _ ∧ _
    have ea : loS tx mn N (fun _ => true) (i + 1) h a = loS tx mn N (fun _ => true) i h a + (if (true && (wnt N i h && lck tx mn N i h a)) = true then 1 else 0) := rfl
    have eo : loS tx mn N (cOne l3) (i + 1) h a = loS tx mn N (cOne l3) i h a + (if (cOne l3 i && (wnt N i h && lck tx mn N i h a)) = true then 1 else 0) := rfl
    have eB : ∀ w s0, f_X11_drawn_B193 k62 k74 (f_X11_drawn_R150 k62 k74 F) w l2 l3 l4 (nI (A + loS tx mn N (fun _ => true) i h a)) (nI (O + loS tx mn N (cOne l3) i h a)) l7 (nI h) 0 (nI (setD mn a)) (nI i) (nI s0) = f_X11_drawn_R150 k62 k74 F w l2 l3 l4 (nI (A + loS tx mn N (fun _ => true) i h a + s0)) (nI (O + loS tx mn N (cOne l3) i h a + (if cOne l3 i then s0 else 0))) l7 (nI h) 0 (nI (setD mn a)) (nI (i + 1)) := by
      intro w s0
      unfold f_X11_drawn_B193 f_X11_drawn_B216 cOne
      simp only [z_bn, nI_add, nI_1, Int32.add_zero]
      by_cases hx : nI i = l3
      · rw [if_pos hx, decide_eq_true hx, if_pos rfl]
      · rw [if_neg hx, decide_eq_false hx, if_neg (by decide)]
        rfl
    unfold f_X11_drawn_B150 f_X11_drawn_B192
    rw [hP.2.1, if_neg (nI_ge (by omega) (by omega)), if_pos rfl, m_wants hP (by omega) hh, z_cl]
    have z0 : (0 : Int32) = nI 0 := rfl
    cases hw : wnt N i h with
    | false =>
      rw [if_pos bz]
      obtain ⟨w3, e3, f3⟩ := m_drawP (tx := tx) (N := N) (A := A) (O := O) hh ha k62 k74 l2 l3 l4 l7 k F (i + 1) w hL hP (by omega) (by omega)
      rw [ea, eo, hw] at e3
      refine ⟨w3, ?_, f3⟩
      have := eB w 0
      rw [nI_0] at this
      rw [this, ← e3]
      cases cOne l3 i <;> rfl
    | true =>
      obtain ⟨q1, q2⟩ := setD_ok (a := a) h7
      obtain ⟨w2, e, f⟩ := m_served (s := i) hL hP q1 q2 (by omega) hh
      rw [setD_sv h7 ha] at e
      rw [if_neg bnz, e, z_cl]
      obtain ⟨w3, e3, f3⟩ := m_drawP (tx := tx) (N := N) (A := A) (O := O) hh ha k62 k74 l2 l3 l4 l7 k F (i + 1) w2 (lSt_fr f hL) (PM_fr f hP) (by omega) (by omega)
      rw [ea, eo, hw] at e3
      refine ⟨w3, ?_, fr0_tr f f3⟩
      cases hl : lck tx mn N i h a with
      | true =>
        rw [hl] at e3
        rw [if_pos (show b2i (!true) = 0 from rfl), show (1 : Int32) = nI 1 from rfl, eB w2 1, ← e3]
        cases cOne l3 i <;> rfl
      | false =>
        rw [hl] at e3
        have := eB w2 0
        rw [nI_0] at this
        rw [if_neg (show ¬ b2i (!false) = 0 by decide), this, ← e3]
        cases cOne l3 i <;> rfl
theorem m_drawH {tx : Option (List lw_Ln)} {mn st : Nat} {N : Nat → Nat} {c i : Nat} (hc : c < 2 ^ 31) (hi : i < 100) (seed : Int32) (k62 : qW → Int32 → Int32 → Int32 → Int32 → Int32 → Int32 → Option (Int32 × qW)) (l3 : Int32) : ∀ (k F h : Nat) (w : qW), lSt tx w → PM mn mn st N w → h + k = 12 → k < F → ∃ w2, f_X11_drawn_R74 k62 F w (nI c) l3 (zz seed (12 * i + h)) (nI (mI tx mn st N seed (c % 100) (fun _ => true) (12 * i + h))) (nI (mI tx mn st N seed (c % 100) (cOne l3) (12 * i + h))) (nI i) (nI h) = k62 w2 (nI c) l3 (zz seed (12 * i + 12)) (nI (mI tx mn st N seed (c % 100) (fun _ => true) (12 * i + 12))) (nI (mI tx mn st N seed (c % 100) (cOne l3) (12 * i + 12))) (nI (i + 1)) ∧ fr0 w w2
  | 0, F + 1, h, w, hL, hP, h1, _ => by
    have hh : h = 12 := by omega
    subst hh
    refine ⟨w, ?_, fr0_rf w⟩
    show f_X11_drawn_B74 k62 (f_X11_drawn_R74 k62 F) w (nI c) l3 _ _ _ (nI i) (nI 12) = _
    unfold f_X11_drawn_B74
    rw [if_pos (by decide), z_bn, nI_1]
  | k + 1, F + 1, h, w, hL, hP, h1, h2 => by
    have h7 := hP.2.2.1
    have h8 := hP.2.2.2.1
    show ∃ w2, f_X11_drawn_B74 k62 (f_X11_drawn_R74 k62 F) w (nI c) l3 (zz seed (12 * i + h)) _ _ (nI i) (nI h) = _ ∧ _
    obtain ⟨d, hd⟩ : ∃ d, d = 12 * i + h := ⟨_, rfl⟩
    rw [← hd]
    have ez : zz seed d * 1103515245 + 12345 = zz seed (d + 1) := rfl
    have esa : ∀ cc, mI tx mn st N seed (c % 100) cc (d + 1) = mI tx mn st N seed (c % 100) cc d + (if cldy seed (c % 100) d then 0 else loS tx mn N cc st (d % 12) (aw seed mn d)) := fun _ => rfl
    have ec : cldy seed (c % 100) d = decide (q_rem (q_ush (zz seed (d + 1)) 8) 12 < nI (c % 100)) := rfl
    obtain ⟨y, y1, y2⟩ := ush_nn (zz seed (d + 1))
    have ea := aw_y mn y1 y2
    have hdm : d % 12 = h := by omega
    have haw : aw seed mn d < mn ∨ (mn = 0 ∧ aw seed mn d = 0) := by
      rw [ea]
      by_cases hm : mn = 0
      · rw [if_pos hm]; exact Or.inr ⟨hm, rfl⟩
      · rw [if_neg hm]; exact Or.inl (Nat.mod_lt _ (by omega))
    have next : ∀ w1, lSt tx w1 → PM mn mn st N w1 → ∃ w2, f_X11_drawn_R74 k62 F w1 (nI c) l3 (zz seed (d + 1)) (nI (mI tx mn st N seed (c % 100) (fun _ => true) (d + 1))) (nI (mI tx mn st N seed (c % 100) (cOne l3) (d + 1))) (nI i) (nI (h + 1)) = k62 w2 (nI c) l3 (zz seed (12 * i + 12)) (nI (mI tx mn st N seed (c % 100) (fun _ => true) (12 * i + 12))) (nI (mI tx mn st N seed (c % 100) (cOne l3) (12 * i + 12))) (nI (i + 1)) ∧ fr0 w1 w2 := by
      intro w1 q1 q2
      have := m_drawH (tx := tx) (N := N) (mn := mn) (st := st) hc hi seed k62 l3 k F (h + 1) w1 q1 q2 (by omega) (by omega)
      rw [show 12 * i + (h + 1) = d + 1 by omega] at this
      exact this
    have eset : ∀ s0 : Int32, f_X11_drawn_B113 k62 (f_X11_drawn_R74 k62 F) w (nI c) l3 (zz seed (d + 1)) (nI (mI tx mn st N seed (c % 100) (fun _ => true) d)) (nI (mI tx mn st N seed (c % 100) (cOne l3) d)) (nI i) (nI h) s0 = f_X11_drawn_R150 k62 (f_X11_drawn_R74 k62 F) q_fuel w (nI c) l3 (zz seed (d + 1)) (nI (mI tx mn st N seed (c % 100) (fun _ => true) d)) (nI (mI tx mn st N seed (c % 100) (cOne l3) d)) (nI i) (nI h) s0 (nI (setD mn (aw seed mn d))) (nI 0) := by
      intro s0
      unfold f_X11_drawn_B113 f_X11_drawn_B145 setD
      rw [hP.1, ea]
      by_cases hm : mn = 0
      · rw [if_pos (by rw [hm]; rfl), if_pos hm]
        rfl
      · have hm0 : ¬ nI mn = 0 := by rw [z_eq, c0, nI_toInt (by omega)]; omega
        have hlt : y % mn < mn := Nat.mod_lt _ (by omega)
        have hp2 : 2 ^ (y % mn) ≤ 2 ^ 7 := Nat.pow_le_pow_right (by omega) (by omega)
        have hp2 : 2 ^ (y % mn) ≤ 128 := hp2
        rw [if_neg hm0, if_neg hm, m_evb hP, z_cl, hP.1, z_nz hm0, if_neg hm]
        have er : q_rem (q_ush (zz seed (d + 1)) 16) (nI mn) = nI (y % mn) := by
          rw [← i_rem (b := mn) (by omega) (by omega), ← y2]
        have hev := evb_lt mn (by omega)
        rw [er, sh1 _ (by omega), i_andn (by omega) (by omega)]
        rfl
    unfold f_X11_drawn_B74
    rw [if_neg (by rw [z_le, c12, nI_toInt (by omega)]; omega), z_bn, ez, show q_rem (nI c) 100 = nI (c % 100) from i_rem (b := 100) hc (by omega), eset, eset]
    by_cases hcl : q_rem (q_ush (zz seed (d + 1)) 8) 12 < nI (c % 100)
    · rw [decide_eq_true hcl] at ec
      rw [if_neg (lt_nle hcl)]
      obtain ⟨w2, e2, f2⟩ := next w hL hP
      rw [esa, esa, ec] at e2
      refine ⟨w2, ?_, f2⟩
      rw [← e2]
      obtain ⟨F0, hF0⟩ : ∃ F0, q_fuel = F0 + 1 := ⟨4095, rfl⟩
      rw [hF0]
      show f_X11_drawn_B150 k62 (f_X11_drawn_R74 k62 F) (f_X11_drawn_R150 k62 (f_X11_drawn_R74 k62 F) F0) w (nI c) l3 (zz seed (d + 1)) _ _ (nI i) (nI h) 1 _ (nI 0) = _
      unfold f_X11_drawn_B150 f_X11_drawn_B225
      rw [hP.2.1, z_bn, nI_1]
      by_cases hst : nI st ≤ nI 0
      · rw [if_pos hst]; rfl
      · rw [if_neg hst, if_neg (by decide)]; rfl
    · rw [decide_eq_false hcl] at ec
      rw [if_pos (nlt_le hcl)]
      obtain ⟨w1, e1, f1⟩ := m_drawP (tx := tx) (N := N) (mn := mn) (st := st) (h := h) (a := aw seed mn d) (A := mI tx mn st N seed (c % 100) (fun _ => true) d) (O := mI tx mn st N seed (c % 100) (cOne l3) d) (by omega) haw k62 (f_X11_drawn_R74 k62 F) (nI c) l3 (zz seed (d + 1)) (nI i) st q_fuel 0 w hL hP (by omega) (by rw [q_fuel_eq]; omega)
      obtain ⟨w2, e2, f2⟩ := next w1 (lSt_fr f1 hL) (PM_fr f1 hP)
      rw [esa, esa, ec, hdm] at e2
      refine ⟨w2, ?_, fr0_tr f1 f2⟩
      rw [← e2]
      exact e1
theorem m_drawD {tx : Option (List lw_Ln)} {mn st : Nat} {N : Nat → Nat} {c : Nat} (hc : c < 2 ^ 31) (hdy : c / 100 ≤ 30) (seed : Int32) (l3 : Int32) : ∀ (k F i : Nat) (w : qW), lSt tx w → PM mn mn st N w → i + k = c / 100 → k < F → rto (f_X11_drawn_R62 F w (nI c) l3 (zz seed (12 * i)) (nI (mI tx mn st N seed (c % 100) (fun _ => true) (12 * i))) (nI (mI tx mn st N seed (c % 100) (cOne l3) (12 * i))) (nI i)) (if 0 ≤ l3 then nI (mI tx mn st N seed (c % 100) (cOne l3) (12 * (c / 100))) else nI (mI tx mn st N seed (c % 100) (fun _ => true) (12 * (c / 100)))) w
  | 0, F + 1, i, w, hL, hP, h1, _ => by
    show rto (f_X11_drawn_B62 (f_X11_drawn_R62 F) w (nI c) l3 _ _ _ (nI i)) _ w
    unfold f_X11_drawn_B62
    rw [show nI c / 100 = nI (c / 100) from i_div (b := 100) hc (by omega), if_pos (nI_le (by omega) (by omega)), show i = c / 100 by omega]
    refine ⟨w, ?_, fr0_rf w⟩
    by_cases h0 : 0 ≤ l3
    · rw [if_pos h0, if_pos h0]
    · rw [if_neg h0, if_neg h0]
  | k + 1, F + 1, i, w, hL, hP, h1, h2 => by
    show rto (f_X11_drawn_B62 (f_X11_drawn_R62 F) w (nI c) l3 _ _ _ (nI i)) _ w
    unfold f_X11_drawn_B62
    rw [show nI c / 100 = nI (c / 100) from i_div (b := 100) hc (by omega), if_neg (nI_ge (by omega) (by omega))]
    obtain ⟨w1, e1, f1⟩ := m_drawH (tx := tx) (N := N) (mn := mn) (st := st) hc (show i < 100 by omega) seed (f_X11_drawn_R62 F) l3 12 q_fuel 0 w hL hP (by omega) (by rw [q_fuel_eq]; omega)
    obtain ⟨w2, e2, f2⟩ := m_drawD (tx := tx) (N := N) (mn := mn) (st := st) hc hdy seed l3 k F (i + 1) w1 (lSt_fr f1 hL) (PM_fr f1 hP) (by omega) (by omega)
    refine ⟨w2, ?_, fr0_tr f1 f2⟩
    rw [show 12 * (i + 1) = 12 * i + 12 by omega] at e2
    rw [← e2]
    exact e1
theorem p_drawn : j_drawn := by
  intro a b cc w hJ
  show ∃ r w1 w2, f_X10_drawn w a b cc = some (r, w1) ∧ f_X11_drawn w1 a b cc = some (r, w2) ∧ Jn w2
  obtain ⟨tx, hL⟩ := lSt_of hJ
  obtain ⟨mn, st, N, hC, hM, -⟩ := PN_of hJ
  have h7 := hC.2.2.1
  have h8 := hC.2.2.2.1
  have c30 : (30 : Int32).toInt = 30 := by decide
  have d30 : (30 : Int64).toInt = 30 := by decide
  have d12 : (12 : Int64).toInt = 12 := by decide
  have t1 : (nI st).toInt = (st : Int) := nI_toInt (by omega)
  by_cases h0 : b.toInt < 0
  · refine ⟨-1, w, w, ?_, ?_, hJ⟩
    · unfold f_X10_drawn
      rw [z_bn, z_bn, if_pos (by rw [z_lt, c0]; exact h0)]
    · unfold f_X11_drawn
      rw [if_pos (by rw [z_lt, c0]; exact h0)]
  · obtain ⟨c, hc⟩ : ∃ c, c = b.toInt.toNat := ⟨_, rfl⟩
    have eb : b = nI c := by rw [hc]; exact z_nI _ (by omega)
    have hc2 : c < 2 ^ 31 := by have := t_hi b; omega
    subst eb
    have h0' : ¬ nI c < 0 := by rw [z_lt, c0, nI_toInt (by omega)]; omega
    have e1 : nI c / 100 = nI (c / 100) := i_div (b := 100) hc2 (by omega)
    have e2 : q_rem (nI c) 100 = nI (c % 100) := i_rem (b := 100) hc2 (by omega)
    have t2 : (nI (c / 100)).toInt = ((c / 100 : Nat) : Int) := nI_toInt (by omega)
    have t3 : (nI (c % 100)).toInt = ((c % 100 : Nat) : Int) := nI_toInt (by omega)
    have eC : f_X10_drawn w a (nI c) cc = if nI (c / 100) < 1 then (some ((-1), w)) else (if 30 < nI (c / 100) then (some ((-1), w)) else (if 12 < nI (c % 100) then (some ((-1), w)) else (if cc < (-1) then (some ((-1), w)) else (if cc < nI st then (q_cl (f_X7_missesDrawn w a (nI (c / 100)) (nI (c % 100)) cc) (fun r3 w4 => some (r3, w4))) else (some ((-1), w)))))) := by
      unfold f_X10_drawn
      rw [z_bn, z_bn, e1, e2, if_neg h0', hC.2.1]
    by_cases g1 : 1 ≤ c / 100 ∧ c / 100 ≤ 30
    · by_cases g2 : c % 100 ≤ 12
      · by_cases g3 : -1 ≤ cc.toInt ∧ cc.toInt < (st : Int)
        · obtain ⟨w1, q1, f1, hd⟩ := s_weigh hL hC (a := 0) (b := 11) (by omega) (by omega)
          have hC1 := PC_fr1 f1 hC
          have hM1 := PM_fr1 f1 hM
          obtain ⟨c2, hcc⟩ : ∃ c2 : Nat → Bool, c2 = if 0 ≤ cc then cOne cc else fun _ => true := ⟨_, rfl⟩
          have hcs : ∀ s, s < st → ((cc < 0 ∨ cc = nI s) ↔ c2 s = true) := by
            intro s _
            rw [hcc]
            by_cases hz : 0 ≤ cc
            · rw [if_pos hz]
              unfold cOne
              have hz2 : ¬ cc < 0 := by rw [z_lt]; rw [z_le] at hz; omega
              constructor
              · intro q
                rcases q with q | q
                · exact absurd q hz2
                · exact decide_eq_true q.symm
              · intro q
                exact Or.inr (of_decide_eq_true q).symm
            · rw [if_neg hz]
              exact ⟨fun _ => rfl, fun _ => Or.inl (by rw [z_lt]; rw [z_le] at hz; omega)⟩
          have fz : fil (fun _ => (0 : Int32)) (q_A w1 15) 0 84 = fil (fun _ => 0) (q_A w1 15) 0 84 := rfl
          obtain ⟨A2, k1, k2⟩ := d_out hC1 (fun s h hs hh => hd s h hs (by omega) (by omega)) cc c2 hcs (12 * st) q_fuel 0 (fil (fun _ => 0) (q_A w1 15) 0 84) (by omega) (by rw [q_fuel_eq]; omega) (fun h j hh hj => by
            unfold fil
            rw [if_pos (by omega)]
            rfl)
          have k2' : ∀ h j, h < 12 → j < 7 → q_A (q_sA w1 15 A2) 15 (7 * h + j) = nI (loS tx mn N c2 st h j) := by
            intro h j hh hj
            rw [g_AA, if_pos rfl, k2 h j hh hj, lo_eq _ _ _ _ _ _ _ hh]
          have hC2 : PC mn st N (q_sA w1 15 A2) := hC1
          have k3 := s_draw hC2 (days := c / 100) (cN := c % 100) g1.2 a c2 k2' (12 * (c / 100)) q_fuel 0 (by omega) (by rw [q_fuel_eq]; omega)
          have f2 : fr1 w (q_sA w1 15 A2) := fr1_tr f1 (fr1_sA _ 15 _ (by omega))
          obtain ⟨w2, m1, m2⟩ := m_drawD (tx := tx) (N := N) (mn := mn) (st := st) hc2 g1.2 a cc (c / 100) q_fuel 0 (q_sA w1 15 A2) (lSt_fr1 f2 hL) (PM_fr1 f2 hM) (by omega) (by rw [q_fuel_eq]; omega)
          have er : (if 0 ≤ cc then nI (mI tx mn st N a (c % 100) (cOne cc) (12 * (c / 100))) else nI (mI tx mn st N a (c % 100) (fun _ => true) (12 * (c / 100)))) = nI (mI tx mn st N a (c % 100) c2 (12 * (c / 100))) := by
            rw [hcc]
            by_cases hz : 0 ≤ cc
            · rw [if_pos hz, if_pos hz]
            · rw [if_neg hz, if_neg hz]
          rw [er] at m1
          refine ⟨nI (mI tx mn st N a (c % 100) c2 (12 * (c / 100))), q_sA w1 15 A2, w2, ?_, ?_, Jn_fr0 (Jn_fr1 hJ f2) m2⟩
          · rw [eC, if_neg (by rw [z_lt, c1, t2]; omega), if_neg (by rw [z_lt, c30, t2]; omega), if_neg (by rw [z_lt, c12, t3]; omega), if_neg (by rw [z_lt, cm1]; omega), if_pos (by rw [z_lt, t1]; omega)]
            unfold f_X7_missesDrawn f_X7_countLost
            rw [show f_X7_weigh w 0 11 = _ from q1, z_cl, s_fill 84 15 0 (by omega), z_cl, show f_X7_countLost_R10 q_fuel (q_sA w1 15 (fil (fun _ => 0) (q_A w1 15) 0 84)) cc 0 = _ from k1, z_cl, show f_X7_missesDrawn_R22 q_fuel (q_sA w1 15 A2) (nI (c / 100)) (nI (c % 100)) a 0 0 = _ from k3, z_cl]
          · unfold f_X11_drawn f_X11_drawn_B50
            rw [if_neg h0', e1, e2, p_within32, z_cl, d1, d30, bd_t (by rw [t2]; omega) (by rw [t2]; omega), if_neg n10, p_within32, z_cl, d0, d12, bd_t (by rw [t3]; omega) (by rw [t3]; omega), if_neg n10]
            by_cases hz : cc = -1
            · rw [if_pos hz]; exact m1
            · rw [if_neg hz, m_isSit (PM_fr1 f2 hM), z_cl, bd_t (by rw [z_eq, cm1] at hz; omega) g3.2, if_neg n10]
              exact m1
        · refine ⟨-1, w, w, ?_, ?_, hJ⟩
          · rw [eC, if_neg (by rw [z_lt, c1, t2]; omega), if_neg (by rw [z_lt, c30, t2]; omega), if_neg (by rw [z_lt, c12, t3]; omega)]
            by_cases hz : cc.toInt < -1
            · rw [if_pos (by rw [z_lt, cm1]; exact hz)]
            · rw [if_neg (by rw [z_lt, cm1]; exact hz), if_neg (by rw [z_lt, t1]; omega)]
          · unfold f_X11_drawn
            rw [if_neg h0', e1, e2, p_within32, z_cl, d1, d30, bd_t (by rw [t2]; omega) (by rw [t2]; omega), if_neg n10, p_within32, z_cl, d0, d12, bd_t (by rw [t3]; omega) (by rw [t3]; omega), if_neg n10, if_neg (by rw [z_eq, cm1]; omega), m_isSit hM, z_cl, bd_f (by omega), if_pos rfl]
      · refine ⟨-1, w, w, ?_, ?_, hJ⟩
        · rw [eC, if_neg (by rw [z_lt, c1, t2]; omega), if_neg (by rw [z_lt, c30, t2]; omega), if_pos (by rw [z_lt, c12, t3]; omega)]
        · unfold f_X11_drawn
          rw [if_neg h0', e1, e2, p_within32, z_cl, d1, d30, bd_t (by rw [t2]; omega) (by rw [t2]; omega), if_neg n10, p_within32, z_cl, d0, d12, bd_f (by rw [t3]; omega), if_pos rfl]
    · refine ⟨-1, w, w, ?_, ?_, hJ⟩
      · rw [eC]
        by_cases hz : c / 100 < 1
        · rw [if_pos (by rw [z_lt, c1, t2]; omega)]
        · rw [if_neg (by rw [z_lt, c1, t2]; omega), if_pos (by rw [z_lt, c30, t2]; omega)]
      · unfold f_X11_drawn
        rw [if_neg h0', e1, p_within32, z_cl, d1, d30, bd_f (by rw [t2]; omega), if_pos rfl]
