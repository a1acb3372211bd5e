/-! by turns: what is worth what; the model's side -/
def fnd (f : Nat → Bool) : Nat → Nat → Bool
  | 0, _ => false
  | k + 1, i => f i || fnd f k (i + 1)
theorem fnd_iff (f : Nat → Bool) : ∀ k i, (fnd f k i = true) ↔ ∃ j, i ≤ j ∧ j < i + k ∧ f j = true
  | 0, i => ⟨fun q => no_ft q, fun ⟨j, h1, h2, _⟩ => by omega⟩
  | k + 1, i => by
    have ih := fnd_iff f k (i + 1)
    show ((f i || fnd f k (i + 1)) = true) ↔ _
    rw [Bool.or_eq_true, ih]
    constructor
    · rintro (q | ⟨j, h1, h2, h3⟩)
      · exact ⟨i, Nat.le_refl i, by omega, q⟩
      · exact ⟨j, by omega, by omega, h3⟩
    · rintro ⟨j, h1, h2, h3⟩
      by_cases hj : j = i
      · rw [hj] at h3; exact Or.inl h3
      · exact Or.inr ⟨j, by omega, by omega, h3⟩
theorem beqT (b : Bool) : (b == true) = b := by cases b <;> rfl
theorem beqF (b : Bool) : (b == false) = !b := by cases b <;> rfl
def vl (tx : Option (List lw_Ln)) (mn m p h : Nat) : Nat → Nat → (Nat → Nat) → Bool
  | 0, _, N => svS tx N (evb mn) p h
  | r + 1, k, N => if k % 2 = 0 then fnd (fun way => stOk (N m) way && vl tx mn m p h r (k + 1) (updN N m (stp (N m) way))) 5 0 else !fnd (fun way => stOk (N (32 + p)) way && !vl tx mn m p h r (k + 1) (updN N (32 + p) (stp (N (32 + p)) way))) 5 0
theorem m_step (w : qW) {c k : Nat} (hc : c < 144) (hk : k < 5) : f_X11_stepFrom w (nI c) (nI k) = some (cav (nI c) (nI k), w) := by
  rw [p_stepFrom]
  by_cases h : nI k = 4
  · rw [if_pos h, h, show (4 : Int32) = nI 4 from rfl, cav_4n c hc]
  · rw [if_neg h]
/-- one turn of the model's loop over the ways; G answers what comes behind -/
theorem m_turn {tx : Option (List lw_Ln)} {mn st : Nat} {N : Nat → Nat} {m p h r kk n x : Nat} {wanted : Bool} {w0 : qW} (G : qW → Int32 → Int32 → Int32 → Int32 → Int32 → Option (Int32 × qW)) (hL : lSt tx w0) (hP : PM mn mn st N w0) (hx : x < 57 ∧ jvM mn mn st x ∧ hiN (x / 8) = 143) (hG : ∀ (c : Nat) (w : qW), c < 144 → lSt tx w → PM mn mn st (updN N x c) w → rto (G w (nI m) (nI p) (nI h) (nI kk + 1) (nI n)) (b2i (vl tx mn m p h r (kk + 1) (updN N x c))) w) : ∀ (k F i : Nat) (w : qW) (B : Nat → Int32), (∀ j, j ≠ x → B j = q_A w0 49 j) → fr0 (q_sA w0 49 B) w → i + k = 5 → k < F → rto (f_X11_isShadedFrom_R64 G F w (nI m) (nI p) (nI h) (nI kk) (nI n) (nI x) (b2i wanted) (nI (N x)) 0 (nI i)) (b2i (fnd (fun way => stOk (N x) way && (vl tx mn m p h r (kk + 1) (updN N x (stp (N x) way)) == wanted)) k i == wanted)) w0
  | k, 0, i, w, B, _, _, _, h2 => by omega
  | k, F + 1, i, w, B, hB, hf, h1, h2 => by
    have h7 := hP.2.2.1
    have e49 : q_A w 49 = B := by rw [fr0_A hf 49 (by omega), g_AA, if_pos rfl]
    have ax : q_A w0 49 x = nI (N x) := (hP.2.2.2.2.2 x hx.2.1).1
    have hNx : N x < 144 := by have := (hP.2.2.2.2.2 x hx.2.1).2; rw [hx.2.2] at this; omega
    have fin : ∀ (w : qW) (B : Nat → Int32) (found : Bool), (∀ j, j ≠ x → B j = q_A w0 49 j) → fr0 (q_sA w0 49 B) w → rto (f_X11_isShadedFrom_B129 G w (nI x) (b2i wanted) (nI (N x)) (b2i found)) (b2i (found == wanted)) w0 := by
      intro w B found hB hf
      have e49 : q_A w 49 = B := by rw [fr0_A hf 49 (by omega), g_AA, if_pos rfl]
      unfold f_X11_isShadedFrom_B129
      rw [st_lit _ _ _ _ _ _ hx.1 (by omega)]
      have ef : fr0 w0 (q_sA w 49 (upd (q_A w 49) x (nI (N x)))) := by
        have := fr0_sA hf 49 (upd (q_A w 49) x (nI (N x)))
        rw [sA_two] at this
        have e2 : upd (q_A w 49) x (nI (N x)) = q_A w0 49 := by
          funext j
          unfold upd
          by_cases hj : j = x
          · rw [if_pos hj, hj, ax]
          · rw [if_neg hj, e49, hB j hj]
        rw [e2, sA_self] at this
        rw [e2]
        exact this
      refine ⟨_, ?_, ef⟩
      cases found <;> cases wanted <;> rfl
    show rto (f_X11_isShadedFrom_B64 G (f_X11_isShadedFrom_R64 G F) w (nI m) (nI p) (nI h) (nI kk) (nI n) (nI x) (b2i wanted) (nI (N x)) 0 (nI i)) _ w0
    unfold f_X11_isShadedFrom_B64
    cases k with
    | zero =>
      rw [if_pos (by rw [z_lt, c4, nI_toInt (by omega)]; omega)]
      exact fin w B false hB hf
    | succ k =>
      rw [if_neg (by rw [z_lt, c4, nI_toInt (by omega)]; omega), if_pos rfl, m_step w hNx (by omega), z_cl]
      have ef : fnd (fun way => stOk (N x) way && (vl tx mn m p h r (kk + 1) (updN N x (stp (N x) way)) == wanted)) (k + 1) i = ((stOk (N x) i && (vl tx mn m p h r (kk + 1) (updN N x (stp (N x) i)) == wanted)) || fnd (fun way => stOk (N x) way && (vl tx mn m p h r (kk + 1) (updN N x (stp (N x) way)) == wanted)) k (i + 1)) := rfl
      rw [ef]
      cases ho : stOk (N x) i with
      | false =>
        rw [stp_f hNx (by omega) ho, if_pos (by decide)]
        unfold f_X11_isShadedFrom_B123
        rw [z_bn, nI_1]
        exact m_turn G hL hP hx hG k F (i + 1) w B hB hf (by omega) (by omega)
      | true =>
        obtain ⟨e1, e2⟩ := stp_t hNx (by omega) ho
        rw [e1, if_neg (nI_pos (by omega)), st_lit _ _ _ _ _ _ hx.1 (by omega), e49]
        have hB2 : ∀ j, j ≠ x → upd B x (nI (stp (N x) i)) j = q_A w0 49 j := by
          intro j hj
          unfold upd
          rw [if_neg hj]
          exact hB j hj
        have hf2 : fr0 (q_sA w0 49 (upd B x (nI (stp (N x) i)))) (q_sA w 49 (upd B x (nI (stp (N x) i)))) := by
          have := fr0_sA hf 49 (upd B x (nI (stp (N x) i)))
          rw [sA_two] at this
          exact this
        have hPM := PM_B hP hB (x := x) (v := stp (N x) i) (by rw [hx.2.2]; omega)
        obtain ⟨w5, e5, f5⟩ := hG (stp (N x) i) (q_sA w 49 (upd B x (nI (stp (N x) i)))) e2 (lSt_fr hf2 (lSt_sA hL 49 _ (by omega))) (PM_fr hf2 hPM)
        rw [e5, z_cl]
        unfold f_X11_isShadedFrom_B121 f_X11_isShadedFrom_B123
        simp only [z_bn, nI_1]
        have f25 := fr0_tr hf2 f5
        by_cases hc : vl tx mn m p h r (kk + 1) (updN N x (stp (N x) i)) = wanted
        · rw [hc, if_pos rfl, show ((true && (wanted == wanted)) || fnd (fun way => stOk (N x) way && (vl tx mn m p h r (kk + 1) (updN N x (stp (N x) way)) == wanted)) k (i + 1)) = true from by cases wanted <;> rfl]
          obtain ⟨F2, rfl⟩ : ∃ F2, F = F2 + 1 := ⟨F - 1, by omega⟩
          show rto (f_X11_isShadedFrom_B64 G (f_X11_isShadedFrom_R64 G F2) w5 (nI m) (nI p) (nI h) (nI kk) (nI n) (nI x) (b2i wanted) (nI (N x)) 1 (nI (i + 1))) _ w0
          unfold f_X11_isShadedFrom_B64
          by_cases hi : 4 < nI (i + 1)
          · rw [if_pos hi]; exact fin w5 _ true hB2 f25
          · rw [if_neg hi, if_neg n10]; exact fin w5 _ true hB2 f25
        · have hne : ¬ b2i (vl tx mn m p h r (kk + 1) (updN N x (stp (N x) i))) = b2i wanted := by
            intro q
            apply hc
            cases hv : vl tx mn m p h r (kk + 1) (updN N x (stp (N x) i)) <;> cases hw : wanted <;> rw [hv, hw] at q <;> first | rfl | exact absurd q (by decide)
          have hf0 : (vl tx mn m p h r (kk + 1) (updN N x (stp (N x) i)) == wanted) = false := by
            cases hv : vl tx mn m p h r (kk + 1) (updN N x (stp (N x) i)) <;> cases hw : wanted <;> rw [hv, hw] at hc <;> first | rfl | exact absurd rfl hc
          rw [if_neg hne, hf0]
          exact m_turn G hL hP hx hG k F (i + 1) w5 _ hB2 f25 (by omega) (by omega)
theorem m_shaded {tx : Option (List lw_Ln)} {mn st m p h : Nat} (hm : m < mn) (hp : p < st) (hh : h < 12) : ∀ (r D kk : Nat) (N : Nat → Nat) (w : qW), lSt tx w → PM mn mn st N w → kk + r < 1000 → r < D → rto (G_X11_isShadedFrom D w (nI m) (nI p) (nI h) (nI kk) (nI (kk + r))) (b2i (vl tx mn m p h r kk N)) w
  | r, 0, kk, N, w, _, _, _, h2 => by omega
  | 0, D + 1, kk, N, w, hL, hP, h1, h2 => by
    have h7 := hP.2.2.1
    show rto (b_X11_isShadedFrom (G_X11_isShadedFrom D) w (nI m) (nI p) (nI h) (nI kk) (nI (kk + 0))) (b2i (svS tx N (evb mn) p h)) w
    unfold b_X11_isShadedFrom
    obtain ⟨w4, e4, f4⟩ := m_served hL hP (evb_lt mn (by omega)) (evb_ok h7 (Nat.le_refl mn)) hp hh
    rw [if_pos (show nI kk = nI (kk + 0) from rfl), m_evb hP, z_cl, e4, z_cl, b2i_and]
    exact ⟨w4, rfl, f4⟩
  | r + 1, D + 1, kk, N, w, hL, hP, h1, h2 => by
    have h7 := hP.2.2.1
    have h8 := hP.2.2.2.1
    have hrem : q_rem (nI kk) 2 = nI (kk % 2) := i_rem (b := 2) (by omega) (by omega)
    have hG : ∀ (x c : Nat) (w : qW), c < 144 → lSt tx w → PM mn mn st (updN N x c) w → rto (G_X11_isShadedFrom D w (nI m) (nI p) (nI h) (nI kk + 1) (nI (kk + (r + 1)))) (b2i (vl tx mn m p h r (kk + 1) (updN N x c))) w := by
      intro x c w _ hL hP
      rw [nI_1, show kk + (r + 1) = kk + 1 + r by omega]
      exact m_shaded hm hp hh r D (kk + 1) (updN N x c) w hL hP (by omega) (by omega)
    show rto (b_X11_isShadedFrom (G_X11_isShadedFrom D) w (nI m) (nI p) (nI h) (nI kk) (nI (kk + (r + 1)))) _ w
    unfold b_X11_isShadedFrom
    rw [if_neg (by rw [z_eq, nI_toInt (by omega), nI_toInt (by omega)]; omega), hrem]
    have ev : vl tx mn m p h (r + 1) kk N = if kk % 2 = 0 then fnd (fun way => stOk (N m) way && vl tx mn m p h r (kk + 1) (updN N m (stp (N m) way))) 5 0 else !fnd (fun way => stOk (N (32 + p)) way && !vl tx mn m p h r (kk + 1) (updN N (32 + p) (stp (N (32 + p)) way))) 5 0 := rfl
    rw [ev]
    by_cases hk : kk % 2 = 0
    · have hx : m < 57 ∧ jvM mn mn st m ∧ hiN (m / 8) = 143 := ⟨by omega, Or.inl ⟨by omega, by omega⟩, by rw [show m / 8 = 0 by omega]; rfl⟩
      have ax : q_A w 49 m = nI (N m) := (hP.2.2.2.2.2 m hx.2.1).1
      rw [if_pos hk, hk, if_pos nI_0]
      unfold f_X11_isShadedFrom_B33
      rw [hrem, hk, if_pos nI_0]
      unfold f_X11_isShadedFrom_B47
      rw [ld_lit _ _ _ _ hx.1 (by omega), ax]
      have e := m_turn (wanted := true) (x := m) (kk := kk) (n := kk + (r + 1)) (G_X11_isShadedFrom D) hL hP hx (hG m) 5 q_fuel 0 w (q_A w 49) (fun _ _ => rfl) (by rw [sA_self]; exact fr0_rf w) (by omega) (by rw [q_fuel_eq]; omega)
      simp only [beqT] at e
      exact e
    · have hx : 32 + p < 57 ∧ jvM mn mn st (32 + p) ∧ hiN ((32 + p) / 8) = 143 := ⟨by omega, Or.inr (Or.inl ⟨by omega, by omega, by omega⟩), by rw [show (32 + p) / 8 = 4 by omega]; rfl⟩
      have ax : q_A w 49 (32 + p) = nI (N (32 + p)) := (hP.2.2.2.2.2 (32 + p) hx.2.1).1
      have hk1 : ¬ nI (kk % 2) = 0 := by rw [z_eq, c0, nI_toInt (by omega)]; omega
      rw [if_neg hk, if_neg hk1]
      unfold f_X11_isShadedFrom_B33
      rw [hrem, if_neg hk1]
      unfold f_X11_isShadedFrom_B47
      rw [show (32 : Int32) + nI p = nI (32 + p) from nI_add 32 p, ld_lit _ _ _ _ hx.1 (by omega), ax]
      have e := m_turn (wanted := false) (x := 32 + p) (kk := kk) (n := kk + (r + 1)) (G_X11_isShadedFrom D) hL hP hx (hG (32 + p)) 5 q_fuel 0 w (q_A w 49) (fun _ _ => rfl) (by rw [sA_self]; exact fr0_rf w) (by omega) (by rw [q_fuel_eq]; omega)
      simp only [beqF] at e
      exact e
