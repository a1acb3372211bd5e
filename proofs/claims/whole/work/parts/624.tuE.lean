/-! by turns: both sides -/
def fsM (f : Nat → Bool) : Nat → Nat → Int32
  | 0, _ => -1
  | k + 1, i => if f i then nI i else fsM f k (i + 1)
theorem m_isShaded {tx : Option (List lw_Ln)} {w : qW} {mn st m p h n : Nat} {N : Nat → Nat} (hL : lSt tx w) (hP : PM mn mn st N w) (hm : m < mn) (hp : p < st) (hh : h < 12) (hn1 : 1 ≤ n) (hn : n ≤ 4) : rto (f_X11_isShadedFrom w (nI m) (nI p) (nI h) 1 (nI n)) (b2i (vl tx mn m p h (n - 1) 1 N)) w := by
  have e := m_shaded (tx := tx) hm hp hh (n - 1) 100 1 N w hL hP (by omega) (by omega)
  rw [show 1 + (n - 1) = n by omega] at e
  exact e
theorem m_best_R {tx : Option (List lw_Ln)} {mn st : Nat} {N : Nat → Nat} {m p h n hn : Nat} {w0 : qW} (is : Bool) (hL : lSt tx w0) (hP : PM mn mn st N w0) (hm : m < mn) (hp : p < st) (hh : h < 12) (hn1 : 1 ≤ n) (hn4 : n ≤ 4) (d1 : nI hn / 10 = nI h) (d2 : q_rem (nI hn) 10 = nI n) : ∀ (k F i : Nat) (w : qW) (B : Nat → Int32), (∀ j, j ≠ m → B j = q_A w0 49 j) → fr0 (q_sA w0 49 B) w → i + k = 4 → k < F → rto (f_X11_byTurns_R157 F w (nI hn) (nI m) (nI p) (b2i is) (nI (N m)) (-1) (nI i)) (fsM (fun way => stOk (N m) way && (vl tx mn m p h (n - 1) 1 (updN N m (stp (N m) way)) == is)) k i) w0
  | k, 0, i, w, B, _, _, _, h2 => by omega
  | k, F + 1, i, w, B, hB, hf, h1, h2 => by
    have h7 := hP.2.2.1
    have e49 : q_A w 49 = B := by rw [fr0_A hf 49 (by omega), g_AA, if_pos rfl]
    have hxv : jvM mn mn st m := Or.inl ⟨by omega, by omega⟩
    have ax : q_A w0 49 m = nI (N m) := (hP.2.2.2.2.2 m hxv).1
    have hNx : N m < 144 := by
      have := (hP.2.2.2.2.2 m hxv).2
      rw [show m / 8 = 0 by omega] at this
      have this : N m ≤ 143 := this
      omega
    have fin : ∀ (w : qW) (B : Nat → Int32) (v : Int32), (∀ j, j ≠ m → B j = q_A w0 49 j) → fr0 (q_sA w0 49 B) w → rto (f_X11_byTurns_B227 w (nI m) (nI (N m)) v) v w0 := by
      intro w B v hB hf
      have e49 : q_A w 49 = B := by rw [fr0_A hf 49 (by omega), g_AA, if_pos rfl]
      unfold f_X11_byTurns_B227
      rw [st_lit _ _ _ _ _ _ (by omega) (by omega)]
      have ef : fr0 w0 (q_sA w 49 (upd (q_A w 49) m (nI (N m)))) := by
        have := fr0_sA hf 49 (upd (q_A w 49) m (nI (N m)))
        rw [sA_two] at this
        have e2 : upd (q_A w 49) m (nI (N m)) = q_A w0 49 := by
          funext j
          unfold upd
          by_cases hj : j = m
          · rw [if_pos hj, hj, ax]
          · rw [if_neg hj, e49, hB j hj]
        rw [e2, sA_self] at this
        rw [e2]
        exact this
      exact ⟨_, rfl, ef⟩
    show rto (f_X11_byTurns_B157 (f_X11_byTurns_R157 F) w (nI hn) (nI m) (nI p) (b2i is) (nI (N m)) (-1) (nI i)) _ w0
    unfold f_X11_byTurns_B157
    cases k with
    | zero =>
      rw [if_pos (by rw [z_le, c4, nI_toInt (by omega)]; omega)]
      exact fin w B (-1) hB hf
    | succ k =>
      rw [if_neg (by rw [z_le, c4, nI_toInt (by omega)]; omega), if_neg (by decide), m_step w hNx (by omega), z_cl]
      have ef : fsM (fun way => stOk (N m) way && (vl tx mn m p h (n - 1) 1 (updN N m (stp (N m) way)) == is)) (k + 1) i = if (stOk (N m) i && (vl tx mn m p h (n - 1) 1 (updN N m (stp (N m) i)) == is)) = true then nI i else fsM (fun way => stOk (N m) way && (vl tx mn m p h (n - 1) 1 (updN N m (stp (N m) way)) == is)) k (i + 1) := rfl
      rw [ef]
      cases ho : stOk (N m) i with
      | false =>
        rw [stp_f hNx (by omega) ho, if_pos (by decide), Bool.false_and, if_neg (show ¬ false = true by decide)]
        unfold f_X11_byTurns_B221
        rw [z_bn, nI_1]
        exact m_best_R is hL hP hm hp hh hn1 hn4 d1 d2 k F (i + 1) w B hB hf (by omega) (by omega)
      | true =>
        obtain ⟨e1, e2⟩ := stp_t hNx (by omega) ho
        rw [e1, if_neg (nI_pos (by omega)), st_lit _ _ _ _ _ _ (by omega) (by omega), e49, d1, d2, Bool.true_and]
        have hB2 : ∀ j, j ≠ m → upd B m (nI (stp (N m) i)) j = q_A w0 49 j := by
          intro j hj
          unfold upd
          rw [if_neg hj]
          exact hB j hj
        have hf2 : fr0 (q_sA w0 49 (upd B m (nI (stp (N m) i)))) (q_sA w 49 (upd B m (nI (stp (N m) i)))) := by
          have := fr0_sA hf 49 (upd B m (nI (stp (N m) i)))
          rw [sA_two] at this
          exact this
        have hPM := PM_B hP hB (x := m) (v := stp (N m) i) (by rw [show m / 8 = 0 by omega]; show stp (N m) i ≤ 143; omega)
        obtain ⟨w5, e5, f5⟩ := m_isShaded (n := n) (lSt_fr hf2 (lSt_sA hL 49 _ (by omega))) (PM_fr hf2 hPM) hm hp hh hn1 hn4
        rw [e5, z_cl]
        have f25 := fr0_tr hf2 f5
        unfold f_X11_byTurns_B219 f_X11_byTurns_B221
        simp only [z_bn, nI_1]
        cases hv : (vl tx mn m p h (n - 1) 1 (updN N m (stp (N m) i)) == is) with
        | true =>
          have hc : vl tx mn m p h (n - 1) 1 (updN N m (stp (N m) i)) = is := beq_iff_eq.mp hv
          rw [hc, if_pos rfl, if_pos rfl]
          obtain ⟨F2, rfl⟩ : ∃ F2, F = F2 + 1 := ⟨F - 1, by omega⟩
          show rto (f_X11_byTurns_B157 (f_X11_byTurns_R157 F2) w5 (nI hn) (nI m) (nI p) (b2i is) (nI (N m)) (nI i) (nI (i + 1))) _ w0
          unfold f_X11_byTurns_B157
          by_cases hi : 4 ≤ nI (i + 1)
          · rw [if_pos hi]; exact fin w5 _ _ hB2 f25
          · rw [if_neg hi, if_pos (nI_pos' (by omega))]; exact fin w5 _ _ hB2 f25
        | false =>
          have hne : ¬ b2i (vl tx mn m p h (n - 1) 1 (updN N m (stp (N m) i))) = b2i is := by
            intro q
            cases hv2 : vl tx mn m p h (n - 1) 1 (updN N m (stp (N m) i)) <;> cases hw : is <;> rw [hv2, hw] at q hv <;> first | exact absurd q (by decide) | exact absurd hv (by decide)
          rw [if_neg hne, if_neg (show ¬ false = true by decide)]
          exact m_best_R is hL hP hm hp hh hn1 hn4 d1 d2 k F (i + 1) w5 _ hB2 f25 (by omega) (by omega)
theorem fs_eq {f : Nat → Bool} {is : Bool} (his : is = fnd f 5 0) {f4 : Bool} (h4 : f 4 = f4) (g : Nat → Bool) (hg : is = true → ∀ i, i < 4 → g i = f i) : (if (f4 == is) = true then (4 : Int32) else fsM g 4 0) = (if 0 ≤ fsW f 5 0 then fsW f 5 0 else 4) := by
  have e5 : fsW f 5 0 = if f 4 then nI 4 else if f 0 then nI 0 else if f 1 then nI 1 else if f 2 then nI 2 else if f 3 then nI 3 else -1 := rfl
  have ei : fnd f 5 0 = (f 0 || (f 1 || (f 2 || (f 3 || (f 4 || false))))) := rfl
  rw [e5, h4]
  cases hi : is with
  | true =>
    have em : fsM g 4 0 = if g 0 then nI 0 else if g 1 then nI 1 else if g 2 then nI 2 else if g 3 then nI 3 else -1 := rfl
    rw [em, hg hi 0 (by omega), hg hi 1 (by omega), hg hi 2 (by omega), hg hi 3 (by omega)]
    rw [hi, ei, h4] at his
    cases f4 with
    | true => rfl
    | false =>
      cases h0 : f 0 <;> cases h1 : f 1 <;> cases h2 : f 2 <;> cases h3 : f 3 <;> first | rfl | (rw [h0, h1, h2, h3] at his; exact no_ft his.symm)
  | false =>
    rw [hi, ei, h4] at his
    have h0 : f 0 = false := by cases q : f 0 with | false => rfl | true => rw [q] at his; exact no_ft his
    have h1 : f 1 = false := by cases q : f 1 with | false => rfl | true => rw [q, h0] at his; exact no_ft his
    have h2 : f 2 = false := by cases q : f 2 with | false => rfl | true => rw [q, h0, h1] at his; exact no_ft his
    have h3 : f 3 = false := by cases q : f 3 with | false => rfl | true => rw [q, h0, h1, h2] at his; exact no_ft his
    have h5 : f4 = false := by cases q : f4 with | false => rfl | true => rw [q, h0, h1, h2, h3] at his; exact no_ft his
    rw [h5, h0, h1, h2, h3]
    rfl
theorem fsW_pos {f : Nat → Bool} : (0 ≤ fsW f 5 0) ↔ fnd f 5 0 = true := by
  have e5 : fsW f 5 0 = if f 4 then nI 4 else if f 0 then nI 0 else if f 1 then nI 1 else if f 2 then nI 2 else if f 3 then nI 3 else -1 := rfl
  have ei : fnd f 5 0 = (f 0 || (f 1 || (f 2 || (f 3 || (f 4 || false))))) := rfl
  rw [e5, ei]
  cases f 0 <;> cases f 1 <;> cases f 2 <;> cases f 3 <;> cases f 4 <;> decide
def btG (mn st : Nat) (a b c : Int32) : Prop := (0 ≤ a.toInt ∧ 0 ≤ b.toInt) ∧ (a.toInt.toNat / 10 < mn ∧ a.toInt.toNat % 10 < st) ∧ (0 ≤ c.toInt ∧ c.toInt < 2) ∧ b.toInt.toNat / 10 < 12 ∧ 1 ≤ b.toInt.toNat % 10 ∧ b.toInt.toNat % 10 ≤ 4
theorem dv10 {a : Int32} (h : 0 ≤ a.toInt) : a / 10 = nI (a.toInt.toNat / 10) ∧ q_rem a 10 = nI (a.toInt.toNat % 10) ∧ (nI (a.toInt.toNat / 10)).toInt = ((a.toInt.toNat / 10 : Nat) : Int) ∧ (nI (a.toInt.toNat % 10)).toInt = ((a.toInt.toNat % 10 : Nat) : Int) := by
  have h2 := t_hi a
  have e := z_nI a h
  have d1 : nI a.toInt.toNat / 10 = nI (a.toInt.toNat / 10) := i_div (b := 10) (by omega) (by omega)
  have d2 : q_rem (nI a.toInt.toNat) 10 = nI (a.toInt.toNat % 10) := i_rem (b := 10) (by omega) (by omega)
  rw [← e] at d1 d2
  exact ⟨d1, d2, nI_toInt (by omega), nI_toInt (by omega)⟩
theorem m_w14 (w : qW) (a : Int32) : f_X11_within w (Int32.toInt64 a) 1 4 = some (b2i (decide (1 ≤ a.toInt) && decide (a.toInt ≤ 4)), w) := by
  rw [p_within32, d1, d4]
theorem bt_C {w : qW} {mn st : Nat} {N : Nat → Nat} (hC : PC mn st N w) {a b c : Int32} (hb : ¬ btG mn st a b c) : f_X10_byTurns w a b c = some (-1, w) := by
  have h7 := hC.2.2.1
  have h8 := hC.2.2.2.1
  have t1 : (nI mn).toInt = (mn : Int) := nI_toInt (by omega)
  have t2 : (nI st).toInt = (st : Int) := nI_toInt (by omega)
  unfold f_X10_byTurns
  rw [z_bn, z_bn, z_bn, z_bn]
  by_cases g0 : 0 ≤ a.toInt
  · obtain ⟨e1, e2, e3, e4⟩ := dv10 g0
    rw [if_neg (by rw [z_lt, c0]; omega), hC.1, hC.2.1, e1, e2]
    by_cases g1 : a.toInt.toNat / 10 < mn
    · rw [if_neg (by rw [z_le, t1, e3]; omega)]
      by_cases g2 : a.toInt.toNat % 10 < st
      · rw [if_neg (by rw [z_le, t2, e4]; omega), p_choice, z_cl, c2]
        by_cases g3 : 0 ≤ c.toInt ∧ c.toInt < 2
        · rw [bd_t g3.1 g3.2, if_neg n10]
          by_cases g4 : 0 ≤ b.toInt
          · obtain ⟨f1, f2, f3, f4⟩ := dv10 g4
            rw [if_neg (by rw [z_lt, c0]; omega), f1, f2]
            by_cases g5 : b.toInt.toNat / 10 < 12
            · rw [if_neg (by rw [z_le, c12, f3]; omega)]
              by_cases g6 : 1 ≤ b.toInt.toNat % 10
              · rw [if_neg (by rw [z_lt, c1, f4]; omega)]
                by_cases g7 : b.toInt.toNat % 10 ≤ 4
                · exact absurd ⟨⟨g0, g4⟩, ⟨g1, g2⟩, g3, g5, g6, g7⟩ hb
                · rw [if_neg (by rw [z_le, c4, f4]; omega)]
              · rw [if_pos (by rw [z_lt, c1, f4]; omega)]
            · rw [if_pos (by rw [z_le, c12, f3]; omega)]
          · rw [if_pos (by rw [z_lt, c0]; omega)]
        · rw [bd_f g3, if_pos rfl]
      · rw [if_pos (by rw [z_le, t2, e4]; omega)]
    · rw [if_pos (by rw [z_le, t1, e3]; omega)]
  · rw [if_pos (by rw [z_lt, c0]; omega)]
theorem bt_M {w : qW} {mn st : Nat} {N : Nat → Nat} (hM : PM mn mn st N w) {a b c : Int32} (hb : ¬ btG mn st a b c) : f_X11_byTurns w a b c = some (-1, w) := by
  unfold f_X11_byTurns
  by_cases g0 : 0 ≤ a.toInt
  · obtain ⟨e1, e2, e3, e4⟩ := dv10 g0
    rw [if_neg (by rw [z_lt, c0]; omega), e1, e2, m_isMan hM, z_cl, e3]
    by_cases g1 : a.toInt.toNat / 10 < mn
    · rw [bd_t (by omega) (by omega), if_neg n10, m_isSit hM, z_cl, e4]
      by_cases g2 : a.toInt.toNat % 10 < st
      · rw [bd_t (by omega) (by omega), if_neg n10]
        by_cases g4 : 0 ≤ b.toInt
        · obtain ⟨f1, f2, f3, f4⟩ := dv10 g4
          rw [if_neg (by rw [z_lt, c0]; omega), f1, f2, m_isHour, z_cl, f3]
          by_cases g5 : b.toInt.toNat / 10 < 12
          · rw [bd_t (by omega) (by omega), if_neg n10, m_w14, z_cl, f4]
            by_cases g6 : 1 ≤ b.toInt.toNat % 10 ∧ b.toInt.toNat % 10 ≤ 4
            · rw [bd_t (by omega) (by omega), if_neg n10, m_w01, z_cl]
              by_cases g3 : 0 ≤ c.toInt ∧ c.toInt < 2
              · exact absurd ⟨⟨g0, g4⟩, ⟨g1, g2⟩, g3, g5, g6.1, g6.2⟩ hb
              · rw [bd_f g3, if_pos rfl]
            · rw [bd_f (by omega), if_pos rfl]
          · rw [bd_f (by omega), if_pos rfl]
        · rw [if_pos (by rw [z_lt, c0]; omega)]
      · rw [bd_f (by omega), if_pos rfl]
    · rw [bd_f (by omega), if_pos rfl]
  · rw [if_pos (by rw [z_lt, c0]; omega)]
theorem p_byTurns : j_byTurns := by
  intro a b c w hJ
  show ∃ r w1 w2, f_X10_byTurns w a b c = some (r, w1) ∧ f_X11_byTurns w1 a b c = some (r, w2) ∧ Jn w2
  obtain ⟨tx, hL⟩ := lSt_of hJ
  obtain ⟨mn, st, N, hC, hM, -⟩ := PN_of hJ
  have h7 := hC.2.2.1
  have h8 := hC.2.2.2.1
  by_cases hg : btG mn st a b c
  · obtain ⟨⟨g0, g4⟩, ⟨g1, g2⟩, g3, g5, g6, g7⟩ := id hg
    obtain ⟨e1, e2, e3, e4⟩ := dv10 g0
    obtain ⟨f1, f2, f3, f4⟩ := dv10 g4
    have t1 : (nI mn).toInt = (mn : Int) := nI_toInt (by omega)
    have t2 : (nI st).toInt = (st : Int) := nI_toInt (by omega)
    obtain ⟨m, hm⟩ : ∃ m, m = a.toInt.toNat / 10 := ⟨_, rfl⟩
    obtain ⟨p, hp⟩ : ∃ p, p = a.toInt.toNat % 10 := ⟨_, rfl⟩
    obtain ⟨h, hh⟩ : ∃ h, h = b.toInt.toNat / 10 := ⟨_, rfl⟩
    obtain ⟨n, hn⟩ : ∃ n, n = b.toInt.toNat % 10 := ⟨_, rfl⟩
    rw [← hm] at e1 e3 g1
    rw [← hp] at e2 e4 g2
    rw [← hh] at f1 f3 g5
    rw [← hn] at f2 f4 g6 g7
    have eb : b = nI b.toInt.toNat := z_nI b g4
    obtain ⟨w1, cw1, c2f, cw3⟩ := s_winning hL hC hJ.2.2.2.2.2.2 g1 g2 g5 g6 g7
    have hJ1 := Jn_frB hJ c2f cw3
    have hL1 := lSt_frB c2f hL
    have hM1 := PM_frB c2f hM
    have hxv : jvM mn mn st m := Or.inl ⟨by omega, by omega⟩
    have hNx : N m < 144 := by
      have := (hM.2.2.2.2.2 m hxv).2
      rw [show m / 8 = 0 by omega] at this
      have this : N m ≤ 143 := this
      omega
    obtain ⟨ff, hff⟩ : ∃ ff : Nat → Bool, ff = fun way => stOk (N m) way && vl tx mn m p h (n - 1) 1 (updN N m (stp (N m) way)) := ⟨_, rfl⟩
    rw [← hff] at cw1
    have e0 := m_shaded (tx := tx) g1 g2 g5 n 100 0 N w1 hL1 hM1 (by omega) (by omega)
    obtain ⟨w14, e14, f14⟩ := e0
    rw [Nat.zero_add] at e14
    have ev : vl tx mn m p h n 0 N = fnd ff 5 0 := by
      rw [hff]
      obtain ⟨r, rfl⟩ : ∃ r, n = r + 1 := ⟨n - 1, by omega⟩
      rfl
    rw [ev] at e14
    have hM14 := PM_fr f14 hM1
    have hL14 := lSt_fr f14 hL1
    obtain ⟨w17, e17, f17⟩ := m_isShaded (n := n) hL14 hM14 g1 g2 g5 g6 g7
    have ax : q_A w14 49 m = nI (N m) := (hM14.2.2.2.2.2 m hxv).1
    have hs4 := stp_4 hNx
    have hf4 : ff 4 = vl tx mn m p h (n - 1) 1 N := by
      rw [hff]
      show (stOk (N m) 4 && vl tx mn m p h (n - 1) 1 (updN N m (stp (N m) 4))) = _
      rw [hs4.1, hs4.2, updN_id]
      rfl
    have hM17 := PM_fr f17 hM14
    have f1417 := fr0_tr f14 f17
    have cls : f_X10_byTurns w a b c = some (if c = 0 then (if 0 ≤ fsW ff 5 0 then 1 else 0) else (if 0 ≤ fsW ff 5 0 then fsW ff 5 0 else 4), w1) := by
      unfold f_X10_byTurns
      rw [z_bn, z_bn, z_bn, z_bn, if_neg (by rw [z_lt, c0]; omega), hC.1, hC.2.1, e1, e2, f1, f2, if_neg (by rw [z_le, t1, e3]; omega), if_neg (by rw [z_le, t2, e4]; omega), p_choice, z_cl, c2, bd_t g3.1 g3.2, if_neg n10, if_neg (by rw [z_lt, c0]; omega), if_neg (by rw [z_le, c12, f3]; omega), if_neg (by rw [z_lt, c1, f4]; omega), if_pos (by rw [z_le, c4, f4]; omega), cw1, z_cl]
      by_cases hc0 : c = 0
      · rw [if_pos hc0, if_pos hc0]
        by_cases hq : 0 ≤ fsW ff 5 0
        · rw [if_pos hq, if_pos hq]
        · rw [if_neg hq, if_neg hq]
      · rw [if_neg hc0, if_neg hc0]
        by_cases hq : 0 ≤ fsW ff 5 0
        · rw [if_pos hq, if_pos hq]
        · rw [if_neg hq, if_neg hq]
    have mdl : ∃ w2, f_X11_byTurns w1 a b c = some (if c = 0 then (if 0 ≤ fsW ff 5 0 then 1 else 0) else (if 0 ≤ fsW ff 5 0 then fsW ff 5 0 else 4), w2) ∧ fr0 w1 w2 := by
      unfold f_X11_byTurns
      rw [if_neg (by rw [z_lt, c0]; omega), e1, e2, f1, f2, m_isMan hM1, z_cl, e3, bd_t (by omega) (by omega), if_neg n10, m_isSit hM1, z_cl, e4, bd_t (by omega) (by omega), if_neg n10, if_neg (by rw [z_lt, c0]; omega), m_isHour, z_cl, f3, bd_t (by omega) (by omega), if_neg n10, m_w14, z_cl, f4, bd_t (by omega) (by omega), if_neg n10, m_w01, z_cl, bd_t g3.1 g3.2, if_neg n10, z_bn, z_bn, show f_X11_isShadedFrom w1 (nI m) (nI p) (nI h) 0 (nI n) = _ from e14, z_cl]
      by_cases hc0 : c = 0
      · rw [if_pos hc0, if_pos hc0]
        refine ⟨w14, ?_, f14⟩
        cases hf : fnd ff 5 0 with
        | true => rw [if_neg bnz, if_pos (fsW_pos.mpr hf)]
        | false => rw [if_pos bz, if_neg (fun q => by rw [fsW_pos.mp q] at hf; exact no_ft hf.symm)]
      · rw [if_neg hc0, if_neg hc0, ld_lit _ _ _ _ (by omega) (by omega), ax, e17, z_cl]
        unfold f_X11_byTurns_B152
        have hmain := fs_eq (f := ff) (is := fnd ff 5 0) rfl hf4 (fun way => stOk (N m) way && (vl tx mn m p h (n - 1) 1 (updN N m (stp (N m) way)) == fnd ff 5 0)) (fun hi i _ => by
          show (stOk (N m) i && (vl tx mn m p h (n - 1) 1 (updN N m (stp (N m) i)) == fnd ff 5 0)) = ff i
          rw [hi, beqT, hff])
        rw [← hmain]
        cases hv : (vl tx mn m p h (n - 1) 1 N == fnd ff 5 0) with
        | true =>
          have hc : vl tx mn m p h (n - 1) 1 N = fnd ff 5 0 := beq_iff_eq.mp hv
          rw [hc, if_pos rfl, if_pos rfl, eb]
          have st4 : rto (f_X11_byTurns_R157 q_fuel w17 (nI b.toInt.toNat) (nI m) (nI p) (b2i (fnd ff 5 0)) (nI (N m)) 4 0) 4 w17 := by
            show rto (f_X11_byTurns_B157 (f_X11_byTurns_R157 4095) w17 (nI b.toInt.toNat) (nI m) (nI p) (b2i (fnd ff 5 0)) (nI (N m)) 4 0) 4 w17
            have a17 : q_A w17 49 m = nI (N m) := (hM17.2.2.2.2.2 m hxv).1
            unfold f_X11_byTurns_B157 f_X11_byTurns_B227
            rw [if_neg (by decide), if_pos (by decide), st_lit _ _ _ _ _ _ (by omega) (by omega)]
            refine ⟨_, rfl, ?_⟩
            have e2 : upd (q_A w17 49) m (nI (N m)) = q_A w17 49 := by
              funext j
              unfold upd
              by_cases hj : j = m
              · rw [if_pos hj, hj, a17]
              · rw [if_neg hj]
            rw [e2, sA_self]
            exact fr0_rf w17
          obtain ⟨w2, q1, q2⟩ := st4
          exact ⟨w2, q1, fr0_tr f1417 q2⟩
        | false =>
          have hne : ¬ b2i (vl tx mn m p h (n - 1) 1 N) = b2i (fnd ff 5 0) := by
            intro q
            cases hv2 : vl tx mn m p h (n - 1) 1 N <;> cases hw : fnd ff 5 0 <;> rw [hv2, hw] at q hv <;> first | exact absurd q (by decide) | exact absurd hv (by decide)
          rw [if_neg hne, if_neg (show ¬ false = true by decide), eb]
          rw [eb] at f1 f2
          obtain ⟨w2, q1, q2⟩ := m_best_R (tx := tx) (N := N) (n := n) (hn := b.toInt.toNat) (fnd ff 5 0) (lSt_fr f17 hL14) hM17 g1 g2 g5 g6 g7 f1 f2 4 q_fuel 0 w17 (q_A w17 49) (fun _ _ => rfl) (by rw [sA_self]; exact fr0_rf w17) (by omega) (by rw [q_fuel_eq]; omega)
          exact ⟨w2, q1, fr0_tr f1417 q2⟩
    obtain ⟨w2, m1, m2⟩ := mdl
    exact ⟨_, w1, w2, cls, m1, Jn_fr0 hJ1 m2⟩
  · exact ⟨-1, w, w, bt_C hC hg, bt_M hM hg, hJ⟩
