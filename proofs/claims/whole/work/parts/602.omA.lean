/-! one more, a step: the class -/
theorem s_seat {w : qW} {mn st : Nat} {N : Nat → Nat} (hP : PC mn st N w) {s h : Nat} (hs : s < st) (hh : h < 12) : f_X7_seatOf w (nI (12 * s + h)) = some (nI (N (32 + s)), w) := by
  have h8 := hP.2.2.2.1
  unfold f_X7_seatOf
  rw [i_12d s h (by omega) hh, show f_X4_get w (nI s) 4 = _ from s_get hP 4 (by omega) hs, z_cl]
def tB (tx : Option (List lw_Ln)) (mn : Nat) (N : Nat → Nat) (c k s h : Nat) : Nat := if wnt N s h && decide (sm (gv tx mn N (N (32 + s)) h) mn + s5 tx (N 56) c k 1 mn (N (32 + s)) h < N (48 + s)) then 1 else 0
def tA (tx : Option (List lw_Ln)) (mn : Nat) (N : Nat → Nat) (m c s h : Nat) : Nat := if wnt N s h && decide (sm (gv tx mn N (N (32 + s)) h) 7 - gv tx mn N (N (32 + s)) h m + s5 tx (N 56) c (N (8 + m)) (N (16 + m)) m (N (32 + s)) h < N (48 + s)) then 1 else 0
theorem s_beside_R {tx : Option (List lw_Ln)} {mn st : Nat} {N : Nat → Nat} (kind c : Nat) : ∀ (k F i : Nat) (w : qW), lSt tx w → PC mn st N w → (∀ s h, s < st → h < 12 → dn tx mn N w s h) → i + k = 12 * st → k < F → rto (f_X7_missesBeside_R5 F w (nI kind) (nI c) (nI (sm (fun q => tB tx mn N c kind (q / 12) (q % 12)) i)) (nI i)) (nI (sm (fun q => tB tx mn N c kind (q / 12) (q % 12)) (12 * st))) w
  | 0, F + 1, i, w, hL, hP, hd, h1, _ => by
    have h8 := hP.2.2.2.1
    show rto (f_X7_missesBeside_B5 (f_X7_missesBeside_R5 F) w (nI kind) (nI c) _ (nI i)) _ w
    unfold f_X7_missesBeside_B5
    rw [hP.2.1, show (12 : Int32) * nI st = nI (12 * st) from i_mul (a := 12) (by omega) (by omega) (by omega), if_pos (nI_le (by omega) (by omega)), show i = 12 * st by omega]
    exact ⟨w, rfl, fr0_rf w⟩
  | k + 1, F + 1, i, w, hL, hP, hd, h1, h2 => by
    have h7 := hP.2.2.1
    have h8 := hP.2.2.2.1
    obtain ⟨s, h, hi, hs, hh⟩ : ∃ s h, i = 12 * s + h ∧ s < st ∧ h < 12 := ⟨i / 12, i % 12, by omega, by omega, by omega⟩
    have es : sm (fun q => tB tx mn N c kind (q / 12) (q % 12)) (i + 1) = sm (fun q => tB tx mn N c kind (q / 12) (q % 12)) i + tB tx mn N c kind (i / 12) (i % 12) := rfl
    rw [show i / 12 = s by omega, show i % 12 = h by omega] at es
    have et : tB tx mn N c kind s h = if wnt N s h && decide (sm (gv tx mn N (N (32 + s)) h) mn + s5 tx (N 56) c kind 1 mn (N (32 + s)) h < N (48 + s)) then 1 else 0 := rfl
    have next : ∀ w1, fr0 w w1 → rto (f_X7_missesBeside_R5 F w1 (nI kind) (nI c) (nI (sm (fun q => tB tx mn N c kind (q / 12) (q % 12)) i + tB tx mn N c kind s h)) (nI (i + 1))) (nI (sm (fun q => tB tx mn N c kind (q / 12) (q % 12)) (12 * st))) w := by
      intro w1 f1
      obtain ⟨w3, e3, f3⟩ := s_beside_R kind c k F (i + 1) w1 (lSt_fr f1 hL) (PC_fr f1 hP) (fun s h q1 q2 => dn_fr f1 (hd s h q1 q2)) (by omega) (by omega)
      rw [es] at e3
      exact ⟨w3, e3, fr0_tr f1 f3⟩
    have hl := (hiN_le hP hs).2.2
    have hb := sm_le (g := gv tx mn N (N (32 + s)) h) (fun m => gv_le ..) mn
    have hs5 := s5_le tx (N 56) c kind 1 mn (N (32 + s)) h
    show rto (f_X7_missesBeside_B5 (f_X7_missesBeside_R5 F) w (nI kind) (nI c) _ (nI i)) _ w
    unfold f_X7_missesBeside_B5 f_X7_missesBeside_B93
    rw [hP.2.1, show (12 : Int32) * nI st = nI (12 * st) from i_mul (a := 12) (by omega) (by omega) (by omega), if_neg (nI_ge (by omega) (by omega))]
    rw [show f_X7_isWanted w (nI i) = some (b2i (wnt N s h), w) from by rw [hi]; exact s_wanted hP hs hh, z_cl]
    rw [show f_X7_isServed w (nI i) = some (b2i (svd tx mn N s h), w) from by rw [hi]; exact s_served hP hs hh (hd s h hs hh)]
    simp only [z_bn, z_cl, nI_1]
    cases hw : wnt N s h with
    | false =>
      rw [hw] at et
      have := next w (fr0_rf w)
      rw [et] at this
      rw [if_pos bz]; exact this
    | true =>
      rw [hw] at et
      rw [if_neg bnz]
      have ev : svd tx mn N s h = decide (N (48 + s) ≤ sm (gv tx mn N (N (32 + s)) h) mn) := rfl
      cases hv : svd tx mn N s h with
      | true =>
        rw [hv] at ev
        have := of_decide_eq_true ev.symm
        rw [decide_eq_false (by omega)] at et
        have := next w (fr0_rf w)
        rw [et] at this
        rw [if_neg bnz]; exact this
      | false =>
        rw [if_pos bz, show f_X7_seatOf w (nI i) = some (nI (N (32 + s)), w) from by rw [hi]; exact s_seat hP hs hh, z_cl, hP.1, show q_rem (nI i) 12 = nI h from by rw [hi]; exact i_12r s h (by omega) hh]
        obtain ⟨w2, e2, f2⟩ := s_cast hL hP (nI c) (nI kind) 1 (nI mn) (nI (N (32 + s))) hh
        have e2' : f_X5_cast w (nI c) (nI kind) 1 (nI mn) (nI (N (32 + s))) (nI h) = some (nI (s5 tx (N 56) c kind 1 mn (N (32 + s)) h), w2) := by
          rw [e2, show (1 : Int32) = nI 1 from rfl, s5_eq]
        have q11 : q_A w2 11 (12 * s + h) = nI (sm (gv tx mn N (N (32 + s)) h) mn) := by rw [fr0_A f2 11 (by omega), (hd s h hs hh).1, sm_7 h7]
        have ql : f_X7_leastOf w2 (nI i) = some (nI (N (48 + s)), w2) := by rw [hi]; exact s_least (PC_fr f2 hP) hs hh
        rw [e2', z_cl, ld_lit _ _ _ _ (by omega) (by omega), hi, q11, ← hi, ql, z_cl, nI_add]
        have := next w2 f2
        by_cases hc : sm (gv tx mn N (N (32 + s)) h) mn + s5 tx (N 56) c kind 1 mn (N (32 + s)) h < N (48 + s)
        · rw [decide_eq_true hc] at et
          rw [et] at this
          rw [if_neg (by rw [z_le, nI_toInt (by omega), nI_toInt (by omega)]; omega)]
          exact this
        · rw [decide_eq_false hc] at et
          rw [et] at this
          rw [if_pos (by rw [z_le, nI_toInt (by omega), nI_toInt (by omega)]; omega)]
          exact this
def vB2 (tx : Option (List lw_Ln)) (mn st : Nat) (N : Nat → Nat) (kind c : Nat) : Nat := sm (fun q => tB tx mn N c kind (q / 12) (q % 12)) (12 * st)
theorem s_beside {tx : Option (List lw_Ln)} {w : qW} {mn st : Nat} {N : Nat → Nat} (hL : lSt tx w) (hP : PC mn st N w) (hd : ∀ s h, s < st → h < 12 → dn tx mn N w s h) (kind c : Nat) : rto (f_X7_missesBeside w (nI kind) (nI c)) (nI (vB2 tx mn st N kind c)) w := by
  have h8 := hP.2.2.2.1
  exact s_beside_R kind c (12 * st) q_fuel 0 w hL hP hd (by omega) (by rw [q_fuel_eq]; omega)
theorem sm_le1 {g : Nat → Nat} (hg : ∀ m, g m ≤ 1) : ∀ k, sm g k ≤ k
  | 0 => Nat.le_refl 0
  | k + 1 => by
    have := sm_le1 hg k
    have := hg k
    show sm g k + g k ≤ k + 1
    omega
theorem if1 (b : Bool) : (if b then 1 else 0 : Nat) ≤ 1 := by cases b <;> decide
theorem vB2_le (tx : Option (List lw_Ln)) (mn st : Nat) (N : Nat → Nat) (kind c : Nat) : vB2 tx mn st N kind c ≤ 12 * st := sm_le1 (fun _ => if1 _) _
def arC (V : Nat → Nat) : Nat → Nat × Nat
  | 0 => (0, V 0)
  | k + 1 => if V (k + 1) < (arC V k).2 then (k + 1, V (k + 1)) else arC V k
theorem arC_ok (V : Nat → Nat) : ∀ k, (arC V k).1 ≤ k ∧ (arC V k).2 = V (arC V k).1
  | 0 => ⟨Nat.le_refl 0, rfl⟩
  | k + 1 => by
    have ih := arC_ok V k
    show (if V (k + 1) < (arC V k).2 then (k + 1, V (k + 1)) else arC V k).1 ≤ k + 1 ∧ _
    have e : arC V (k + 1) = if V (k + 1) < (arC V k).2 then (k + 1, V (k + 1)) else arC V k := rfl
    rw [e]
    by_cases h : V (k + 1) < (arC V k).2
    · rw [if_pos h]; exact ⟨Nat.le_refl _, rfl⟩
    · rw [if_neg h]; exact ⟨by omega, ih.2⟩
theorem s_bestC {tx : Option (List lw_Ln)} {mn st : Nat} {N : Nat → Nat} (kind : Nat) : ∀ (k F i : Nat) (w : qW) (best least : Int32), lSt tx w → PC mn st N w → (∀ s h, s < st → h < 12 → dn tx mn N w s h) → i + k = 144 → k < F → ((i = 0 ∧ best = 0 ∧ least = 2147483647) ∨ (0 < i ∧ best = nI (arC (vB2 tx mn st N kind) (i - 1)).1 ∧ least = nI (arC (vB2 tx mn st N kind) (i - 1)).2)) → rto (f_X7_bestCell_R15 F w (nI kind) best least (nI i)) (nI (arC (vB2 tx mn st N kind) 143).1) w
  | 0, F + 1, i, w, best, least, hL, hP, hd, h1, _, hst => by
    show rto (f_X7_bestCell_B15 (f_X7_bestCell_R15 F) w (nI kind) best least (nI i)) _ w
    have hi : i = 144 := by omega
    subst hi
    unfold f_X7_bestCell_B15
    rw [if_pos (by decide)]
    rcases hst with ⟨q, _⟩ | ⟨_, q2, _⟩
    · omega
    · rw [q2]; exact ⟨w, rfl, fr0_rf w⟩
  | k + 1, F + 1, i, w, best, least, hL, hP, hd, h1, h2, hst => by
    have h8 := hP.2.2.2.1
    show rto (f_X7_bestCell_B15 (f_X7_bestCell_R15 F) w (nI kind) best least (nI i)) _ w
    obtain ⟨w2, e, f⟩ := s_beside hL hP hd kind i
    have hb := vB2_le tx mn st N kind i
    have next : ∀ best least, (best = nI (arC (vB2 tx mn st N kind) i).1 ∧ least = nI (arC (vB2 tx mn st N kind) i).2) → rto (f_X7_bestCell_R15 F w2 (nI kind) best least (nI (i + 1))) (nI (arC (vB2 tx mn st N kind) 143).1) w := by
      intro b l hbl
      obtain ⟨w3, e3, f3⟩ := s_bestC kind k F (i + 1) w2 b l (lSt_fr f hL) (PC_fr f hP) (fun s h q1 q2 => dn_fr f (hd s h q1 q2)) (by omega) (by omega) (Or.inr ⟨by omega, hbl.1, hbl.2⟩)
      exact ⟨w3, e3, fr0_tr f f3⟩
    unfold f_X7_bestCell_B15 f_X7_bestCell_B44
    rw [if_neg (by rw [z_le, c144, nI_toInt (by omega)]; omega), e, z_cl, z_bn, z_bn, nI_1]
    rcases hst with ⟨q1, q2, q3⟩ | ⟨q1, q2, q3⟩
    · subst q1
      rw [q3, if_neg (by rw [z_le, nI_toInt (by omega), show (2147483647 : Int32).toInt = 2147483647 by decide]; omega)]
      exact next _ _ ⟨rfl, rfl⟩
    · obtain ⟨j, hj⟩ : ∃ j, i = j + 1 := ⟨i - 1, by omega⟩
      have ok := arC_ok (vB2 tx mn st N kind) j
      have hb2 := vB2_le tx mn st N kind (arC (vB2 tx mn st N kind) j).1
      rw [show i - 1 = j by omega] at q2 q3
      have e2 : arC (vB2 tx mn st N kind) i = if vB2 tx mn st N kind i < (arC (vB2 tx mn st N kind) j).2 then (i, vB2 tx mn st N kind i) else arC (vB2 tx mn st N kind) j := by rw [hj]; rfl
      by_cases hc : vB2 tx mn st N kind i < (arC (vB2 tx mn st N kind) j).2
      · rw [if_pos hc] at e2
        rw [q3, if_neg (by rw [z_le, nI_toInt (by omega), nI_toInt (by omega)]; omega)]
        exact next _ _ ⟨by rw [e2], by rw [e2]⟩
      · rw [if_neg hc] at e2
        rw [q3, if_pos (by rw [z_le, nI_toInt (by omega), nI_toInt (by omega)]; omega)]
        exact next _ _ ⟨by rw [e2, q2], by rw [e2]⟩
theorem s_ifHe {tx : Option (List lw_Ln)} {w : qW} {mn st : Nat} {N : Nat → Nat} (hL : lSt tx w) (hP : PC mn st N w) {m h : Nat} (hm : m < mn) (hh : h < 12) (c kind cell : Nat) : rto (f_X5_ifHe w (nI m) (nI c) (nI kind) (nI cell) (nI h)) (nI (s5 tx (N 56) c kind (N (16 + m)) m cell h)) w := by
  unfold f_X5_ifHe
  obtain ⟨w2, e, f⟩ := s_cast hL hP (nI c) (nI kind) (nI (N (16 + m))) (nI m) (nI cell) hh
  rw [show f_X4_get w (nI m) 2 = _ from s_getm hP 2 (by omega) hm, z_cl, show 8 * 2 + m = 16 + m by omega, e, z_cl, s5_eq]
  exact ⟨w2, rfl, f⟩
theorem s_after_R {tx : Option (List lw_Ln)} {mn st : Nat} {N : Nat → Nat} {m : Nat} (hm : m < mn) (c : Nat) : ∀ (k F i : Nat) (w : qW), lSt tx w → PC mn st N w → (∀ s h, s < st → h < 12 → dn tx mn N w s h) → i + k = 12 * st → k < F → rto (f_X7_missesAfter_R38 F w (nI m) (nI c) (nI (N (8 + m))) (nI (sm (fun q => tA tx mn N m c (q / 12) (q % 12)) i)) (nI i)) (nI (sm (fun q => tA tx mn N m c (q / 12) (q % 12)) (12 * st))) w
  | 0, F + 1, i, w, hL, hP, hd, h1, _ => by
    have h8 := hP.2.2.2.1
    show rto (f_X7_missesAfter_B38 (f_X7_missesAfter_R38 F) w (nI m) (nI c) (nI (N (8 + m))) _ (nI i)) _ w
    unfold f_X7_missesAfter_B38
    rw [hP.2.1, show (12 : Int32) * nI st = nI (12 * st) from i_mul (a := 12) (by omega) (by omega) (by omega), if_pos (nI_le (by omega) (by omega)), show i = 12 * st by omega]
    exact ⟨w, rfl, fr0_rf w⟩
  | k + 1, F + 1, i, w, hL, hP, hd, h1, h2 => by
    have h7 := hP.2.2.1
    have h8 := hP.2.2.2.1
    obtain ⟨s, h, hi, hs, hh⟩ : ∃ s h, i = 12 * s + h ∧ s < st ∧ h < 12 := ⟨i / 12, i % 12, by omega, by omega, by omega⟩
    have es : sm (fun q => tA tx mn N m c (q / 12) (q % 12)) (i + 1) = sm (fun q => tA tx mn N m c (q / 12) (q % 12)) i + tA tx mn N m c (i / 12) (i % 12) := rfl
    rw [show i / 12 = s by omega, show i % 12 = h by omega] at es
    have et : tA tx mn N m c s h = if wnt N s h && decide (sm (gv tx mn N (N (32 + s)) h) 7 - gv tx mn N (N (32 + s)) h m + s5 tx (N 56) c (N (8 + m)) (N (16 + m)) m (N (32 + s)) h < N (48 + s)) then 1 else 0 := rfl
    have next : ∀ w1, fr0 w w1 → rto (f_X7_missesAfter_R38 F w1 (nI m) (nI c) (nI (N (8 + m))) (nI (sm (fun q => tA tx mn N m c (q / 12) (q % 12)) i + tA tx mn N m c s h)) (nI (i + 1))) (nI (sm (fun q => tA tx mn N m c (q / 12) (q % 12)) (12 * st))) w := by
      intro w1 f1
      obtain ⟨w3, e3, f3⟩ := s_after_R hm c k F (i + 1) w1 (lSt_fr f1 hL) (PC_fr f1 hP) (fun s h q1 q2 => dn_fr f1 (hd s h q1 q2)) (by omega) (by omega)
      rw [es] at e3
      exact ⟨w3, e3, fr0_tr f1 f3⟩
    have hl := (hiN_le hP hs).2.2
    have hb := sm_le (g := gv tx mn N (N (32 + s)) h) (fun m => gv_le ..) 7
    have hb2 := gv_sm (g := gv tx mn N (N (32 + s)) h) 7 m (by omega)
    have hs5 := s5_le tx (N 56) c (N (8 + m)) (N (16 + m)) m (N (32 + s)) h
    show rto (f_X7_missesAfter_B38 (f_X7_missesAfter_R38 F) w (nI m) (nI c) (nI (N (8 + m))) _ (nI i)) _ w
    unfold f_X7_missesAfter_B38 f_X7_missesAfter_B124
    rw [hP.2.1, show (12 : Int32) * nI st = nI (12 * st) from i_mul (a := 12) (by omega) (by omega) (by omega), if_neg (nI_ge (by omega) (by omega))]
    rw [show f_X7_isWanted w (nI i) = some (b2i (wnt N s h), w) from by rw [hi]; exact s_wanted hP hs hh, z_cl]
    simp only [z_bn, nI_1]
    cases hw : wnt N s h with
    | false =>
      rw [hw] at et
      have := next w (fr0_rf w)
      rw [et] at this
      rw [if_pos bz]; exact this
    | true =>
      rw [hw] at et
      have q11 : q_A w 11 i = nI (sm (gv tx mn N (N (32 + s)) h) 7) := by rw [hi]; exact (hd s h hs hh).1
      have q12 : q_A w 12 (7 * i + m) = nI (gv tx mn N (N (32 + s)) h m) := by rw [hi]; exact (hd s h hs hh).2 m (by omega)
      rw [if_neg bnz, ld_lit _ _ _ _ (by omega) (by omega), q11, n7 _ _ (by omega) (by omega), ld_lit _ _ _ _ (by omega) (by omega), q12, show f_X7_seatOf w (nI i) = some (nI (N (32 + s)), w) from by rw [hi]; exact s_seat hP hs hh, z_cl, show q_rem (nI i) 12 = nI h from by rw [hi]; exact i_12r s h (by omega) hh]
      obtain ⟨w2, e2, f2⟩ := s_ifHe hL hP hm hh c (N (8 + m)) (N (32 + s))
      have ql : f_X7_leastOf w2 (nI i) = some (nI (N (48 + s)), w2) := by rw [hi]; exact s_least (PC_fr f2 hP) hs hh
      rw [e2, z_cl, ql, z_cl, i_sub hb2 (by omega), nI_add]
      have := next w2 f2
      by_cases hc : sm (gv tx mn N (N (32 + s)) h) 7 - gv tx mn N (N (32 + s)) h m + s5 tx (N 56) c (N (8 + m)) (N (16 + m)) m (N (32 + s)) h < N (48 + s)
      · rw [decide_eq_true hc] at et
        rw [et] at this
        rw [if_neg (by rw [z_le, nI_toInt (by omega), nI_toInt (by omega)]; omega)]
        exact this
      · rw [decide_eq_false hc] at et
        rw [et] at this
        rw [if_pos (by rw [z_le, nI_toInt (by omega), nI_toInt (by omega)]; omega)]
        exact this
def vA2 (tx : Option (List lw_Ln)) (mn st : Nat) (N : Nat → Nat) (m c : Nat) : Nat := sm (fun q => tA tx mn N m c (q / 12) (q % 12)) (12 * st)
theorem vA2_le (tx : Option (List lw_Ln)) (mn st : Nat) (N : Nat → Nat) (m c : Nat) : vA2 tx mn st N m c ≤ 12 * st := sm_le1 (fun _ => if1 _) _
theorem cav_ok : ∀ c : Nat, c < 144 → ∀ k : Nat, k < 5 → cav (nI c) (nI k) = -1 ∨ (cav (nI c) (nI k) = nI (cav (nI c) (nI k)).toInt.toNat ∧ (cav (nI c) (nI k)).toInt.toNat < 144 ∧ 0 ≤ (cav (nI c) (nI k)).toInt) := by decide +kernel
theorem cav_4n : ∀ c : Nat, c < 144 → cav (nI c) (nI 4) = nI c := by decide +kernel
def stp (c k : Nat) : Nat := (cav (nI c) (nI k)).toInt.toNat
def stOk (c k : Nat) : Bool := decide (0 ≤ (cav (nI c) (nI k)).toInt)
theorem stp_t {c k : Nat} (hc : c < 144) (hk : k < 5) (h : stOk c k = true) : cav (nI c) (nI k) = nI (stp c k) ∧ stp c k < 144 := by
  have h := of_decide_eq_true h
  rcases cav_ok c hc k hk with q | ⟨q1, q2, q3⟩
  · rw [q] at h; exact absurd h (by decide)
  · exact ⟨q1, q2⟩
theorem stp_f {c k : Nat} (hc : c < 144) (hk : k < 5) (h : stOk c k = false) : cav (nI c) (nI k) = -1 := by
  have h := of_decide_eq_false h
  rcases cav_ok c hc k hk with q | ⟨q1, q2, q3⟩
  · exact q
  · exact absurd q3 h
theorem stp_4 {c : Nat} (hc : c < 144) : stOk c 4 = true ∧ stp c 4 = c := by
  have := cav_4n c hc
  unfold stOk stp
  rw [this, nI_toInt (by omega)]
  exact ⟨decide_eq_true (by omega), by omega⟩
theorem s_after {tx : Option (List lw_Ln)} {w : qW} {mn st : Nat} {N : Nat → Nat} (hL : lSt tx w) (hP : PC mn st N w) (hd : ∀ s h, s < st → h < 12 → dn tx mn N w s h) {m k : Nat} (hm : m < mn) (hk : k < 5) : rto (f_X7_missesAfter w (nI m) (nI k)) (if stOk (N m) k then nI (vA2 tx mn st N m (stp (N m) k)) else 2147483647) w := by
  have h8 := hP.2.2.2.1
  have hc : N m < 144 := by
    have := (hP.2.2.2.2 m (Or.inl ⟨by have := hP.2.2.1; omega, by have := hP.2.2.1; omega⟩)).2
    rw [show m / 8 = 0 by have := hP.2.2.1; omega] at this
    have : N m ≤ 143 := this
    omega
  unfold f_X7_missesAfter
  rw [show f_X4_get w (nI m) 0 = _ from s_getm hP 0 (by omega) hm, z_cl, show 8 * 0 + m = m by omega, p_cellAfter, z_cl]
  cases ho : stOk (N m) k with
  | true =>
    obtain ⟨q1, q2⟩ := stp_t hc hk ho
    rw [q1, if_pos (by rw [z_le, c0, nI_toInt (by omega)]; omega), show f_X4_get w (nI m) 1 = _ from s_getm hP 1 (by omega) hm, z_cl, show 8 * 1 + m = 8 + m by omega, if_pos rfl]
    exact s_after_R hm (stp (N m) k) (12 * st) q_fuel 0 w hL hP hd (by omega) (by rw [q_fuel_eq]; omega)
  | false =>
    rw [stp_f hc hk ho, if_neg (by decide), if_neg (show ¬ false = true by decide)]
    exact ⟨w, rfl, fr0_rf w⟩
def arS (T : Nat → Nat) (ok : Nat → Bool) (v0 : Nat) : Nat → Nat × Nat
  | 0 => (4, v0)
  | k + 1 => if ok k && decide (T k < (arS T ok v0 k).2) then (k, T k) else arS T ok v0 k
theorem arS_ok (T : Nat → Nat) (ok : Nat → Bool) (v0 : Nat) : ∀ k, ((arS T ok v0 k).1 = 4 ∧ (arS T ok v0 k).2 = v0) ∨ ((arS T ok v0 k).1 < k ∧ ok (arS T ok v0 k).1 = true ∧ (arS T ok v0 k).2 = T (arS T ok v0 k).1)
  | 0 => Or.inl ⟨rfl, rfl⟩
  | k + 1 => by
    have ih := arS_ok T ok v0 k
    have e : arS T ok v0 (k + 1) = if ok k && decide (T k < (arS T ok v0 k).2) then (k, T k) else arS T ok v0 k := rfl
    rw [e]
    by_cases h : (ok k && decide (T k < (arS T ok v0 k).2)) = true
    · rw [if_pos h]
      rw [Bool.and_eq_true] at h
      exact Or.inr ⟨by show k < k + 1; omega, h.1, rfl⟩
    · rw [if_neg h]
      rcases ih with q | ⟨q1, q2, q3⟩
      · exact Or.inl q
      · exact Or.inr ⟨by omega, q2, q3⟩
