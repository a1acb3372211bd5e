/-! books: stood -/
theorem m_w02 (w : qW) (a : Int32) : f_X11_within w (Int32.toInt64 a) 0 2 = some (b2i (decide (0 ≤ a.toInt) && decide (a.toInt < 3)), w) := by
  rw [p_within32, d0, d2]
  by_cases h : 0 ≤ a.toInt ∧ a.toInt < 3
  · rw [bd_t h.1 (show a.toInt ≤ 2 by omega), bd_t h.1 h.2]
  · rw [bd_f (show ¬ (0 ≤ a.toInt ∧ a.toInt ≤ 2) by omega), bd_f h]
theorem ch3 {c : Int32} (h : 0 ≤ c.toInt ∧ c.toInt < 3) : c = 0 ∨ c = 1 ∨ c = 2 := by
  rcases Int.lt_or_le c.toInt 1 with q | q
  · exact Or.inl (by rw [z_eq, c0]; omega)
  · rcases Int.lt_or_le c.toInt 2 with q2 | q2
    · exact Or.inr (Or.inl (by rw [z_eq, c1]; omega))
    · exact Or.inr (Or.inr (by rw [z_eq, c2]; omega))
theorem fStd_n {tx : Option (List lw_Ln)} {mn : Nat} {N : Nat → Nat} {E : Nat → Int64} {h m T : Nat} {br : Bool} {c : Int32} (hc : ¬ c = 2) : fStd tx mn N E h m T br c = fun v => fitH tx mn N E h m T br v (N (8 + m)) := by
  funext v
  unfold fStd
  rw [if_neg hc]
theorem fStd_y {tx : Option (List lw_Ln)} {mn : Nat} {N : Nat → Nat} {E : Nat → Int64} {h m T : Nat} {br : Bool} {c : Int32} (hc : c = 2) : fStd tx mn N E h m T br c = fun v => fitH tx mn N E h m T br (N m) v := by
  funext v
  unfold fStd
  rw [if_pos hc]
theorem s_stoodC {tx : Option (List lw_Ln)} {w : qW} {mn st : Nat} {N : Nat → Nat} {E : Nat → Int64} {h m T : Nat} {br : Bool} (hL : lSt tx w) (hP : PC mn st N w) (hB : bkS E T br w) (hO : otS tx mn N E h m T w) (hh : h < 12) (hm : m < mn) (hT : T ≤ 20) (hE : ∀ i, i < 60 → -128 ≤ (E i).toInt ∧ (E i).toInt ≤ 127) {c : Int32} (hc : c = 0 ∨ c = 1 ∨ c = 2) {x K : Nat} (hx : (c = 2 ∧ x = 8 + m ∧ K = 3) ∨ (¬ c = 2 ∧ x = m ∧ K = 144)) : rto (if c = 0 then (q_cl (f_X0_cellsThatFit w ) (fun r19 w20 => some (r19, w20))) else (if c = 1 then (q_cl (f_X0_leastCellThatFits w ) (fun r22 w23 => some (r22, w23))) else (q_cl (f_X0_kindsThatFit w ) (fun r25 w26 => some (r25, w26))))) (if c = 0 then nI (cntF (fStd tx mn N E h m T br c) K) else if c = 1 then fsF (fStd tx mn N E h m T br c) K else (if c = 2 then nI (mkb (fStd tx mn N E h m T br c) K) else 0)) w := by
  rcases hc with hc | hc | hc
  · have hn : ¬ c = 2 := by rw [hc]; decide
    have hK : K = 144 := by
      rcases hx with ⟨q, -⟩ | ⟨-, -, q⟩
      · exact absurd q hn
      · exact q
    obtain ⟨w2, e, f⟩ := s_cells hh hm hT hE 144 q_fuel 0 w hL hP hB hO (by omega) (by rw [q_fuel_eq]; omega)
    rw [if_pos hc, if_pos hc, fStd_n hn, hK]
    refine ⟨w2, ?_, f⟩
    show q_cl (f_X0_cellsThatFit_R4 q_fuel w 0 0) _ = _
    rw [show f_X0_cellsThatFit_R4 q_fuel w 0 0 = _ from e, z_cl]
  · have hn : ¬ c = 2 := by rw [hc]; decide
    have hn0 : ¬ c = 0 := by rw [hc]; decide
    have hK : K = 144 := by
      rcases hx with ⟨q, -⟩ | ⟨-, -, q⟩
      · exact absurd q hn
      · exact q
    obtain ⟨w2, e, f⟩ := s_least2 (tx := tx) (N := N) (m := m) hh hm hT hE 144 q_fuel 0 w hL hP hB hO (by omega) (by rw [q_fuel_eq]; omega) rfl
    rw [if_neg hn0, if_neg hn0, if_pos hc, if_pos hc, fStd_n hn, hK]
    refine ⟨w2, ?_, f⟩
    show q_cl (f_X0_leastCellThatFits_R2 q_fuel w 0) _ = _
    rw [show f_X0_leastCellThatFits_R2 q_fuel w 0 = _ from e, z_cl]
  · have hn0 : ¬ c = 0 := by rw [hc]; decide
    have hn1 : ¬ c = 1 := by rw [hc]; decide
    have hK : K = 3 := by
      rcases hx with ⟨-, -, q⟩ | ⟨q, -⟩
      · exact q
      · exact absurd hc q
    obtain ⟨w2, e, f⟩ := s_kinds (tx := tx) (N := N) (m := m) hh hm hT hE 3 q_fuel 0 w hL hP hB hO (by omega) (by rw [q_fuel_eq]; omega)
    rw [if_neg hn0, if_neg hn0, if_neg hn1, if_neg hn1, if_pos hc, fStd_y hc, hK]
    refine ⟨w2, ?_, f⟩
    show q_cl (f_X0_kindsThatFit_R4 q_fuel w 0 0) _ = _
    rw [show f_X0_kindsThatFit_R4 q_fuel w 0 0 = _ from e, z_cl]
theorem s_leaveOut {tx : Option (List lw_Ln)} {w : qW} {mn st : Nat} {N : Nat → Nat} {E : Nat → Int64} {h m T : Nat} {br : Bool} (hL : lSt tx w) (hP : PC mn st N w) (hB : bkS E T br w) (hh : h < 12) (hm : m < mn) (hT : T ≤ 20) : ∃ w2, f_X0_leaveOut w (nI m) (nI h) = some ((), w2) ∧ frC w w2 ∧ bkS E T br w2 ∧ otS tx mn N E h m T w2 := by
  have f0 : frC w (q_sI (q_sI w 16 8 (nI m)) 16 9 (nI h)) := frC_tr (frC_I16 w 8 _) (frC_I16 _ 9 _)
  obtain ⟨w2, e1, e2, e3, e4⟩ := s_leave (tx := tx) (N := N) (mn := mn) (st := st) hh hm hT T q_fuel 0 (q_sI (q_sI w 16 8 (nI m)) 16 9 (nI h)) (lSt_frB f0.1 hL) (PC_frB f0.1 hP) hB ⟨rfl, rfl, fun i hi => by omega⟩ (by omega) (by rw [q_fuel_eq]; omega)
  refine ⟨w2, ?_, frC_tr f0 e2, e3, e4⟩
  unfold f_X0_leaveOut
  rw [z_bn, z_bn]
  exact e1
theorem p_stood : j_stood := by
  intro a b c w hJ
  show ∃ r w1 w2, f_X10_stood w a b c = some (r, w1) ∧ f_X11_stood w1 a b c = some (r, w2) ∧ Jn w2
  obtain ⟨tx, hL⟩ := lSt_of hJ
  obtain ⟨mn, st, N, hC, hM, -⟩ := PN_of hJ
  have h7 := hC.2.2.1
  have t1 : (nI mn).toInt = (mn : Int) := nI_toInt (by omega)
  by_cases ha : 0 ≤ a.toInt ∧ a.toInt < 6
  · obtain ⟨d, r, ea, hd6, hrow⟩ := row_0 hJ ha
    have eal : 36 + 2 * a.toInt.toNat = 36 + 2 * d := by rw [ea, nI_toInt (by omega)]; omega
    obtain ⟨r0, hr0, hri⟩ : ∃ r0, ¬ r0 = -1 ∧ f_X11_rowIs w a 0 = some (r0, w) := by
      rcases hrow with ⟨r1, r2, r0, r3, r4⟩ | ⟨r3, r4, sz, E, hr⟩
      · exact ⟨r, r2, r4⟩
      · exact ⟨1, by decide, r4 w rfl⟩
    by_cases h0 : b.toInt < 0
    · refine ⟨-1, w, w, ?_, ?_, hJ⟩
      · unfold f_X10_stood
        rw [z_bn, z_bn, p_isShelf, z_cl, bd_t ha.1 ha.2, if_neg n10, if_pos (by rw [z_lt, c0]; exact h0)]
      · unfold f_X11_stood
        rw [hri, z_cl, if_neg hr0, if_pos (by rw [z_lt, c0]; exact h0)]
    · obtain ⟨ch, hc⟩ : ∃ ch, ch = b.toInt.toNat := ⟨_, rfl⟩
      have eb : b = nI ch := by rw [hc]; exact z_nI _ (by omega)
      have hc2 : ch < 2 ^ 31 := by have := t_hi b; omega
      subst eb
      have h0' : ¬ nI ch < 0 := by rw [z_lt, c0, nI_toInt (by omega)]; omega
      have d1 : nI ch / 100 = nI (ch / 100) := i_div (b := 100) hc2 (by omega)
      have d2 : q_rem (nI ch) 100 = nI (ch % 100) := i_rem (b := 100) hc2 (by omega)
      have t2 : (nI (ch / 100)).toInt = ((ch / 100 : Nat) : Int) := nI_toInt (by omega)
      have t3 : (nI (ch % 100)).toInt = ((ch % 100 : Nat) : Int) := nI_toInt (by omega)
      by_cases g1 : ch / 100 < mn
      · by_cases g2 : ch % 100 < 12
        · by_cases g3 : 0 ≤ c.toInt ∧ c.toInt < 3
          · have eC : f_X10_stood w a (nI ch) c = q_cl (f_X6_refusalAs w (36 + 2 * d) 0) (fun r11 w12 => if r11 = 0 then (q_cl (f_X0_open w12 (36 + 2 * d)) (fun _ w16 => q_cl (f_X0_leaveOut w16 (nI (ch / 100)) (nI (ch % 100))) (fun _ w18 => if c = 0 then (q_cl (f_X0_cellsThatFit w18 ) (fun r19 w20 => some (r19, w20))) else (if c = 1 then (q_cl (f_X0_leastCellThatFits w18 ) (fun r22 w23 => some (r22, w23))) else (q_cl (f_X0_kindsThatFit w18 ) (fun r25 w26 => some (r25, w26))))))) else (some (r11, w12))) := by
              unfold f_X10_stood
              rw [z_bn, z_bn, p_isShelf, z_cl, bd_t ha.1 ha.2, if_neg n10, if_neg h0', d1, d2, hC.1, if_neg (by rw [z_le, t1, t2]; omega), p_isHour, z_cl, bd_t (by rw [t3]; omega) (by rw [t3]; omega), if_neg n10, p_choice, z_cl, c3, bd_t g3.1 g3.2, if_neg n10]
              simp only [s_al _ _ ha, eal]
            rcases hrow with ⟨r1, r2, r0, r3, r4⟩ | ⟨r3, r4, sz, E, hr⟩
            · refine ⟨r, w, w, ?_, ?_, hJ⟩
              · rw [eC, r3, z_cl, if_neg r0]
              · unfold f_X11_stood
                rw [r4, z_cl, if_neg r2, if_neg h0', d1, d2, m_isMan hM, z_cl, bd_t (by rw [t2]; omega) (by rw [t2]; omega), if_neg n10, m_isHour, z_cl, bd_t (by rw [t3]; omega) (by rw [t3]; omega), if_neg n10, m_w02, z_cl, bd_t g3.1 g3.2, if_neg n10, r4, z_cl, if_neg (by rw [z_le]; rw [z_lt] at r1; omega), r4, z_cl]
            · obtain ⟨w1, T, br, o1, f1, o3, o4⟩ := s_open hr
              have hE := fun i (hi : i < 60) => (hr.2.2.2.2.2 i hi).2
              obtain ⟨w2, l1, f2, l3, l4⟩ := s_leaveOut (tx := tx) (N := N) (m := ch / 100) (lSt_frB f1.1 hL) (PC_frB f1.1 hC) o3 g2 g1 o4.1
              have f12 := frC_tr f1 f2
              obtain ⟨x, K, hx⟩ : ∃ x K : Nat, (c = 2 ∧ x = 8 + ch / 100 ∧ K = 3) ∨ (¬ c = 2 ∧ x = ch / 100 ∧ K = 144) := by
                by_cases hc2 : c = 2
                · exact ⟨8 + ch / 100, 3, Or.inl ⟨hc2, rfl, rfl⟩⟩
                · exact ⟨ch / 100, 144, Or.inr ⟨hc2, rfl, rfl⟩⟩
              obtain ⟨w3, e3, f3⟩ := s_stoodC (lSt_frB f12.1 hL) (PC_frB f12.1 hC) l3 l4 g2 g1 o4.1 hE (ch3 g3) hx
              have f13 := frC_tr f12 (frC_0 f3)
              have hM3 := PM_frB f13.1 hM
              have hxv : x < 16 ∧ jvM mn mn st x := by
                rcases hx with ⟨q1, q2, q3⟩ | ⟨q1, q2, q3⟩
                · exact ⟨by omega, Or.inl ⟨by omega, by omega⟩⟩
                · exact ⟨by omega, Or.inl ⟨by omega, by omega⟩⟩
              have ax : q_A w3 49 x = nI (N x) := (hM3.2.2.2.2.2 x hxv.2).1
              have hK : K ≤ 144 := by omega
              obtain ⟨w4, e4, f4⟩ := m_stood_R (lSt_frB f13.1 hL) hM3 (rwS_frB f13.1 hr) o4 hc2 rfl g1 g2 hx K q_fuel 0 w3 (q_A w3 49) (fun j _ => rfl) (by rw [sA_self]; exact fr0_rf w3) (by omega) (by rw [q_fuel_eq]; omega)
              have hz : (if c = 2 then nI (mkb (fStd tx mn N E (ch % 100) (ch / 100) T br c) 0) else 0) = 0 := by
                by_cases hcc : c = 2
                · rw [if_pos hcc]; rfl
                · rw [if_neg hcc]
              rw [hz] at e4
              refine ⟨_, w3, w4, (by rw [eC, r3, z_cl, if_pos rfl, o1, z_cl, l1, z_cl]; exact e3), ?_, Jn_fr0 (Jn_frC hJ f13) f4⟩
              · have h63 := frBA f13.1 63 (by omega)
                unfold f_X11_stood
                rw [r4 w3 h63, z_cl, if_neg (by decide), if_neg h0', d1, d2, m_isMan hM3, z_cl, bd_t (by rw [t2]; omega) (by rw [t2]; omega), if_neg n10, m_isHour, z_cl, bd_t (by rw [t3]; omega) (by rw [t3]; omega), if_neg n10, m_w02, z_cl, bd_t g3.1 g3.2, if_neg n10, r4 w3 h63, z_cl, if_pos (by decide)]
                have eX : (if c = 2 then f_X11_stood_B86 w3 a (nI ch) c ((8 : Int32) + nI (ch / 100)) else f_X11_stood_B86 w3 a (nI ch) c (nI (ch / 100))) = f_X11_stood_B86 w3 a (nI ch) c (nI x) := by
                  rcases hx with ⟨q1, q2, q3⟩ | ⟨q1, q2, q3⟩
                  · rw [if_pos q1, q2, show (8 : Int32) + nI (ch / 100) = nI (8 + ch / 100) from nI_add 8 _]
                  · rw [if_neg q1, q2]
                rw [eX]
                unfold f_X11_stood_B86
                rw [ld_lit _ _ _ _ (by omega) (by omega), ax, ea]
                exact e4
          · refine ⟨-1, w, w, ?_, ?_, hJ⟩
            · unfold f_X10_stood
              rw [z_bn, z_bn, p_isShelf, z_cl, bd_t ha.1 ha.2, if_neg n10, if_neg h0', d1, d2, hC.1, if_neg (by rw [z_le, t1, t2]; omega), p_isHour, z_cl, bd_t (by rw [t3]; omega) (by rw [t3]; omega), if_neg n10, p_choice, z_cl, c3, bd_f g3, if_pos rfl]
            · unfold f_X11_stood
              rw [hri, z_cl, if_neg hr0, if_neg h0', d1, d2, m_isMan hM, z_cl, bd_t (by rw [t2]; omega) (by rw [t2]; omega), if_neg n10, m_isHour, z_cl, bd_t (by rw [t3]; omega) (by rw [t3]; omega), if_neg n10, m_w02, z_cl, bd_f g3, if_pos rfl]
        · refine ⟨-1, w, w, ?_, ?_, hJ⟩
          · unfold f_X10_stood
            rw [z_bn, z_bn, p_isShelf, z_cl, bd_t ha.1 ha.2, if_neg n10, if_neg h0', d1, d2, hC.1, if_neg (by rw [z_le, t1, t2]; omega), p_isHour, z_cl, bd_f (by rw [t3]; omega), if_pos rfl]
          · unfold f_X11_stood
            rw [hri, z_cl, if_neg hr0, if_neg h0', d1, d2, m_isMan hM, z_cl, bd_t (by rw [t2]; omega) (by rw [t2]; omega), if_neg n10, m_isHour, z_cl, bd_f (by rw [t3]; omega), if_pos rfl]
      · refine ⟨-1, w, w, ?_, ?_, hJ⟩
        · unfold f_X10_stood
          rw [z_bn, z_bn, p_isShelf, z_cl, bd_t ha.1 ha.2, if_neg n10, if_neg h0', d1, d2, hC.1, if_pos (by rw [z_le, t1, t2]; omega)]
        · unfold f_X11_stood
          rw [hri, z_cl, if_neg hr0, if_neg h0', d1, d2, m_isMan hM, z_cl, bd_f (by rw [t2]; omega), if_pos rfl]
  · refine ⟨-1, w, w, ?_, ?_, hJ⟩
    · unfold f_X10_stood
      rw [z_bn, z_bn, p_isShelf, z_cl, bd_f ha, if_pos rfl]
    · unfold f_X11_stood
      rw [p_rowIs_f ha, z_cl, if_pos rfl]
