/-! weigh: what each sitter's cell has at each hour, and by whom -/
def fr1 (w w2 : qW) : Prop := q_R w2 = q_R w ∧ q_G w2 = q_G w ∧ (∀ o k, ¬ (o = 48 ∧ 12 ≤ k ∧ k ≤ 16) → q_I w2 o k = q_I w o k) ∧ ∀ o, o ≠ 7 → o ≠ 8 → o ≠ 55 → ¬ (11 ≤ o ∧ o ≤ 15) → q_A w2 o = q_A w o
theorem fr1_rf (w : qW) : fr1 w w := ⟨rfl, rfl, fun _ _ _ => rfl, fun _ _ _ _ _ => rfl⟩
theorem fr1_tr {a b c : qW} (h1 : fr1 a b) (h2 : fr1 b c) : fr1 a c := ⟨h2.1.trans h1.1, h2.2.1.trans h1.2.1, fun o k h => (h2.2.2.1 o k h).trans (h1.2.2.1 o k h), fun o h7 h8 h5 ht => (h2.2.2.2 o h7 h8 h5 ht).trans (h1.2.2.2 o h7 h8 h5 ht)⟩
theorem fr1_0 {a b : qW} (h : fr0 a b) : fr1 a b := ⟨h.1, h.2.1, h.2.2.1, fun o h7 h8 h5 _ => h.2.2.2 o h7 h8 h5⟩
theorem fr1_sA (w : qW) (o : Nat) (f : Nat → Int32) (ho : 11 ≤ o ∧ o ≤ 15) : fr1 w (q_sA w o f) := ⟨rfl, rfl, fun _ _ _ => rfl, fun p _ _ _ hp => by rw [g_AA, if_neg (by omega)]⟩
theorem fr1_I {a b : qW} (h : fr1 a b) (o k : Nat) (hk : o ≠ 48 ∨ k < 12 ∨ 16 < k) : q_I b o k = q_I a o k := h.2.2.1 o k (by omega)
theorem fr1_A {a b : qW} (h : fr1 a b) (o : Nat) (ho : o ≠ 7 ∧ o ≠ 8 ∧ o ≠ 55 ∧ ¬ (11 ≤ o ∧ o ≤ 15)) : q_A b o = q_A a o := h.2.2.2 o ho.1 ho.2.1 ho.2.2.1 ho.2.2.2
theorem lSt_fr1 {tx : Option (List lw_Ln)} {w w2 : qW} (hf : fr1 w w2) (h : lSt tx w) : lSt tx w2 := by
  have e37 := fr1_I hf 3 7 (by omega)
  have e34 := fr1_I hf 3 4 (by omega)
  have e11 := fr1_I hf 48 11 (by omega)
  have e54 := fr1_A hf 54 (by omega)
  rcases h with ⟨h1, h2, h3⟩ | ⟨lns, n, L, W, h1, h2, ⟨k1, k2, k3, k4⟩, h4, h5, h6, h7, h8, h9, h10, h11⟩
  · exact Or.inl ⟨by rw [e37]; exact h1, by rw [e11]; exact h2, h3⟩
  · refine Or.inr ⟨lns, n, L, W, h1, by rw [e37]; exact h2, ⟨by rw [hf.1]; exact k1, by rw [e34]; exact k2, k3, ?_⟩, h4, h5, h6, by rw [e11]; exact h7, h8, by rw [e54]; exact h9, by rw [e54]; exact h10, by rw [e54]; exact h11⟩
    rw [hf.1, fr1_A hf (q_R w 3 3) (by omega)]
    exact k4
theorem PC_fr1 {mn st : Nat} {N : Nat → Nat} {w w2 : qW} (hf : fr1 w w2) (h : PC mn st N w) : PC mn st N w2 := by
  obtain ⟨h1, h2, h3, h4, h5⟩ := h
  exact ⟨by rw [fr1_I hf 1 1 (by omega)]; exact h1, by rw [fr1_I hf 1 2 (by omega)]; exact h2, h3, h4, by rw [fr1_A hf 2 (by omega)]; exact h5⟩
theorem PM_fr1 {mn mk st : Nat} {N : Nat → Nat} {w w2 : qW} (hf : fr1 w w2) (h : PM mn mk st N w) : PM mn mk st N w2 := by
  obtain ⟨h1, h2, h3, h4, h5, h6⟩ := h
  exact ⟨by rw [fr1_I hf 48 6 (by omega)]; exact h1, by rw [fr1_I hf 48 7 (by omega)]; exact h2, h3, h4, h5, by rw [fr1_A hf 49 (by omega)]; exact h6⟩
theorem Jn_fr1 {w w2 : qW} (hJ : Jn w) (hf : fr1 w w2) : Jn w2 := by
  obtain ⟨f1, f2, f3, f4⟩ := hf
  refine Jn_frB hJ ⟨fun k => by rw [f1], f2, fun o k _ h => f3 o k h, fun o ho => ?_⟩ (by unfold jR; rw [f1]; exact hJ.2.2.2.2.2.2)
  unfold scrB at ho
  exact f4 o (by omega) (by omega) (by omega) (by omega)
def dn (tx : Option (List lw_Ln)) (mn : Nat) (N : Nat → Nat) (w : qW) (s h : Nat) : Prop := q_A w 11 (12 * s + h) = nI (sm (gv tx mn N (N (32 + s)) h) 7) ∧ ∀ j, j < 7 → q_A w 12 (7 * (12 * s + h) + j) = nI (gv tx mn N (N (32 + s)) h j)
theorem dn_fr {tx : Option (List lw_Ln)} {mn : Nat} {N : Nat → Nat} {w w2 : qW} {s h : Nat} (hf : fr0 w w2) (hd : dn tx mn N w s h) : dn tx mn N w2 s h := by
  unfold dn
  rw [fr0_A hf 11 (by omega), fr0_A hf 12 (by omega)]
  exact hd
theorem n7 (q i : Nat) (hq : q < 96) (hi : i < 7) : (7 : Int32) * nI q + nI i = nI (7 * q + i) := by
  rw [show (7 : Int32) * nI q = nI (7 * q) from i_mul (a := 7) (by omega) (by omega) (by omega), nI_add]
theorem n12 (s h : Nat) (hs : s < 8) (hh : h < 12) : (12 : Int32) * nI s + nI h = nI (12 * s + h) := by
  rw [show (12 : Int32) * nI s = nI (12 * s) from i_mul (a := 12) (by omega) (by omega) (by omega), nI_add]
theorem w_in {tx : Option (List lw_Ln)} {mn st : Nat} {N : Nat → Nat} {s h : Nat} (hs : s < 8) (hh : h < 12) (k2 : qW → Int32 → Int32 → Int32 → Option (Unit × qW)) (k27 : qW → Int32 → Int32 → Int32 → Int32 → Int32 → Option (Unit × qW)) (l1 l2 l3 : Int32) : ∀ (k F i : Nat) (w : qW), lSt tx w → PC mn st N w → i + k = 7 → k < F → q_A w 11 (12 * s + h) = nI (sm (gv tx mn N (N (32 + s)) h) i) → (∀ j, j < i → q_A w 12 (7 * (12 * s + h) + j) = nI (gv tx mn N (N (32 + s)) h j)) → ∃ w2, f_X7_weigh_R53 k2 k27 F w l1 l2 l3 (nI (N (32 + s))) (nI h) (nI (12 * s + h)) (nI i) = k27 w2 l1 l2 l3 (nI (N (32 + s))) (nI (h + 1)) ∧ fr1 w w2 ∧ dn tx mn N w2 s h ∧ ∀ s2 h2, s2 < 8 → h2 < 12 → ¬ (s2 = s ∧ h2 = h) → dn tx mn N w s2 h2 → dn tx mn N w2 s2 h2
  | 0, F + 1, i, w, hL, hP, h1, _, a1, a2 => by
    have hi : i = 7 := by omega
    subst hi
    refine ⟨w, ?_, fr1_rf w, ⟨a1, a2⟩, fun _ _ _ _ _ h => h⟩
    show f_X7_weigh_B53 k2 k27 (f_X7_weigh_R53 k2 k27 F) w l1 l2 l3 (nI (N (32 + s))) (nI h) (nI (12 * s + h)) (nI 7) = _
    unfold f_X7_weigh_B53
    rw [if_pos (by decide), z_bn, nI_1]
  | k + 1, F + 1, i, w, hL, hP, h1, h2, a1, a2 => by
    obtain ⟨w3, e, f⟩ := s_byMan hL hP (m := i) (cell := N (32 + s)) (by omega) hh
    have e11 := fr0_A f 11 (by omega)
    have e12 := fr0_A f 12 (by omega)
    have tq : (nI (12 * s + h)).toInt = ((12 * s + h : Nat) : Int) := nI_toInt (by omega)
    have tp : (nI (7 * (12 * s + h) + i)).toInt = ((7 * (12 * s + h) + i : Nat) : Int) := nI_toInt (by omega)
    obtain ⟨w4, hw4⟩ : ∃ w4, w4 = q_sA w3 12 (upd (q_A w3 12) (7 * (12 * s + h) + i) (nI (gv tx mn N (N (32 + s)) h i))) := ⟨_, rfl⟩
    obtain ⟨w7, hw7⟩ : ∃ w7, w7 = q_sA w4 11 (upd (q_A w4 11) (12 * s + h) (nI (sm (gv tx mn N (N (32 + s)) h) (i + 1)))) := ⟨_, rfl⟩
    have f34 : fr1 w3 w4 := by rw [hw4]; exact fr1_sA _ 12 _ (by omega)
    have f47 : fr1 w4 w7 := by rw [hw7]; exact fr1_sA _ 11 _ (by omega)
    have f7 : fr1 w w7 := fr1_tr (fr1_0 f) (fr1_tr f34 f47)
    have q11 : q_A w7 11 = upd (q_A w 11) (12 * s + h) (nI (sm (gv tx mn N (N (32 + s)) h) (i + 1))) := by
      rw [hw7, g_AA, if_pos rfl, hw4, g_AA, if_neg (by omega), e11]
    have q12 : q_A w7 12 = upd (q_A w 12) (7 * (12 * s + h) + i) (nI (gv tx mn N (N (32 + s)) h i)) := by
      rw [hw7, g_AA, if_neg (by omega), hw4, g_AA, if_pos rfl, e12]
    have b1 : q_A w7 11 (12 * s + h) = nI (sm (gv tx mn N (N (32 + s)) h) (i + 1)) := by
      rw [q11]; unfold upd; rw [if_pos rfl]
    have b2 : ∀ j, j < i + 1 → q_A w7 12 (7 * (12 * s + h) + j) = nI (gv tx mn N (N (32 + s)) h j) := by
      intro j hj
      rw [q12]
      unfold upd
      by_cases hji : j = i
      · subst hji; rw [if_pos rfl]
      · rw [if_neg (by omega)]; exact a2 j (by omega)
    have b3 : ∀ s2 h2, s2 < 8 → h2 < 12 → ¬ (s2 = s ∧ h2 = h) → dn tx mn N w s2 h2 → dn tx mn N w7 s2 h2 := by
      intro s2 h2 g1 g2 g3 g4
      unfold dn
      rw [q11, q12]
      unfold upd
      refine ⟨?_, fun j hj => ?_⟩
      · rw [if_neg (by omega)]; exact g4.1
      · rw [if_neg (by omega)]; exact g4.2 j hj
    obtain ⟨w2, g1, g2, g3, g4⟩ := w_in hs hh k2 k27 l1 l2 l3 k F (i + 1) w7 (lSt_fr1 f7 hL) (PC_fr1 f7 hP) (by omega) (by omega) b1 b2
    refine ⟨w2, ?_, fr1_tr f7 g2, g3, fun s2 h2 c1 c2 c3 c4 => g4 s2 h2 c1 c2 c3 (b3 s2 h2 c1 c2 c3 c4)⟩
    show f_X7_weigh_B53 k2 k27 (f_X7_weigh_R53 k2 k27 F) w l1 l2 l3 (nI (N (32 + s))) (nI h) (nI (12 * s + h)) (nI i) = _
    unfold f_X7_weigh_B53
    rw [if_neg (by rw [z_le, c7, nI_toInt (by omega)]; omega), e, z_cl, n7 _ _ (by omega) (by omega), z_st _ _ _ _ _ _ (by rw [tp]; omega), tp, show (((7 * (12 * s + h) + i : Nat) : Int)).toNat = 7 * (12 * s + h) + i by omega, ← hw4]
    have v11 : q_A w4 11 (12 * s + h) = nI (sm (gv tx mn N (N (32 + s)) h) i) := by rw [hw4, g_AA, if_neg (by omega), e11]; exact a1
    have v12 : q_A w4 12 (7 * (12 * s + h) + i) = nI (gv tx mn N (N (32 + s)) h i) := by rw [hw4, g_AA, if_pos rfl]; unfold upd; rw [if_pos rfl]
    rw [z_ld _ _ _ _ (by rw [tq]; omega), tq, show (((12 * s + h : Nat) : Int)).toNat = 12 * s + h by omega, v11, z_ld _ _ _ _ (by rw [tp]; omega), tp, show (((7 * (12 * s + h) + i : Nat) : Int)).toNat = 7 * (12 * s + h) + i by omega, v12, z_st _ _ _ _ _ _ (by rw [tq]; omega), tq, show (((12 * s + h : Nat) : Int)).toNat = 12 * s + h by omega, nI_add, z_bn, nI_1]
    rw [show sm (gv tx mn N (N (32 + s)) h) i + gv tx mn N (N (32 + s)) h i = sm (gv tx mn N (N (32 + s)) h) (i + 1) from rfl, ← hw7]
    exact g1
theorem w_mid {tx : Option (List lw_Ln)} {mn st : Nat} {N : Nat → Nat} {s a b : Nat} (hs : s < 8) (hb : b < 12) (k2 : qW → Int32 → Int32 → Int32 → Option (Unit × qW)) : ∀ (k F x : Nat) (w : qW), lSt tx w → PC mn st N w → x + k = b + 1 → k < F → ∃ w2, f_X7_weigh_R27 k2 F w (nI a) (nI b) (nI s) (nI (N (32 + s))) (nI x) = k2 w2 (nI a) (nI b) (nI (s + 1)) ∧ fr1 w w2 ∧ (∀ h, x ≤ h → h ≤ b → dn tx mn N w2 s h) ∧ ∀ s2 h2, s2 < 8 → h2 < 12 → ¬ (s2 = s ∧ x ≤ h2 ∧ h2 ≤ b) → dn tx mn N w s2 h2 → dn tx mn N w2 s2 h2
  | 0, F + 1, x, w, hL, hP, h1, _ => by
    refine ⟨w, ?_, fr1_rf w, fun h g1 g2 => by omega, fun _ _ _ _ _ h => h⟩
    show f_X7_weigh_B27 k2 (f_X7_weigh_R27 k2 F) w (nI a) (nI b) (nI s) (nI (N (32 + s))) (nI x) = _
    unfold f_X7_weigh_B27
    rw [if_pos (by rw [z_lt, nI_toInt (by omega), nI_toInt (by omega)]; omega), z_bn, nI_1]
  | k + 1, F + 1, x, w, hL, hP, h1, h2 => by
    have tq : (nI (12 * s + x)).toInt = ((12 * s + x : Nat) : Int) := nI_toInt (by omega)
    obtain ⟨w3, hw3⟩ : ∃ w3, w3 = q_sA w 11 (upd (q_A w 11) (12 * s + x) 0) := ⟨_, rfl⟩
    have f3 : fr1 w w3 := by rw [hw3]; exact fr1_sA _ 11 _ (by omega)
    have q11 : q_A w3 11 (12 * s + x) = nI (sm (gv tx mn N (N (32 + s)) x) 0) := by rw [hw3, g_AA, if_pos rfl]; unfold upd; rw [if_pos rfl]; rfl
    have b3 : ∀ s2 h2, s2 < 8 → h2 < 12 → ¬ (s2 = s ∧ h2 = x) → dn tx mn N w s2 h2 → dn tx mn N w3 s2 h2 := by
      intro s2 h2 g1 g2 g3 g4
      unfold dn
      rw [hw3, g_AA, if_pos rfl, g_AA, if_neg (by omega)]
      unfold upd
      rw [if_neg (by omega)]
      exact g4
    obtain ⟨w4, i1, i2, i3, i4⟩ := w_in (s := s) (h := x) hs (by omega) k2 (f_X7_weigh_R27 k2 F) (nI a) (nI b) (nI s) 7 q_fuel 0 w3 (lSt_fr1 f3 hL) (PC_fr1 f3 hP) (by omega) (by rw [q_fuel_eq]; omega) q11 (fun j hj => by omega)
    have f4 := fr1_tr f3 i2
    obtain ⟨w2, g1, g2, g3, g4⟩ := w_mid hs hb k2 k F (x + 1) w4 (lSt_fr1 f4 hL) (PC_fr1 f4 hP) (by omega) (by omega)
    refine ⟨w2, ?_, fr1_tr f4 g2, fun h c1 c2 => ?_, fun s2 h2 c1 c2 c3 c4 => g4 s2 h2 c1 c2 (by omega) (i4 s2 h2 c1 c2 (by omega) (b3 s2 h2 c1 c2 (by omega) c4))⟩
    · show f_X7_weigh_B27 k2 (f_X7_weigh_R27 k2 F) w (nI a) (nI b) (nI s) (nI (N (32 + s))) (nI x) = _
      unfold f_X7_weigh_B27
      rw [if_neg (by rw [z_lt, nI_toInt (by omega), nI_toInt (by omega)]; omega), z_bn, n12 _ _ hs (by omega), z_st _ _ _ _ _ _ (by rw [tq]; omega), tq, show (((12 * s + x : Nat) : Int)).toNat = 12 * s + x by omega, ← hw3]
      rw [nI_0] at i1
      rw [i1]
      exact g1
    · by_cases hx : h = x
      · subst hx
        exact g4 s h hs (by omega) (by omega) i3
      · exact g3 h (by omega) c2
theorem w_out {tx : Option (List lw_Ln)} {mn st : Nat} {N : Nat → Nat} {a b : Nat} (ha : a ≤ b) (hb : b < 12) : ∀ (k F s : Nat) (w : qW), lSt tx w → PC mn st N w → s + k = st → k < F → ∃ w2, f_X7_weigh_R2 F w (nI a) (nI b) (nI s) = some ((), w2) ∧ fr1 w w2 ∧ (∀ s2 h, s ≤ s2 → s2 < st → a ≤ h → h ≤ b → dn tx mn N w2 s2 h) ∧ ∀ s2 h2, s2 < s → h2 < 12 → dn tx mn N w s2 h2 → dn tx mn N w2 s2 h2
  | 0, F + 1, s, w, hL, hP, h1, _ => by
    have h8 := hP.2.2.2.1
    refine ⟨w, ?_, fr1_rf w, fun s2 h g1 g2 => by omega, fun _ _ _ _ h => h⟩
    show f_X7_weigh_B2 (f_X7_weigh_R2 F) w (nI a) (nI b) (nI s) = _
    unfold f_X7_weigh_B2
    rw [hP.2.1, if_pos (nI_le (by omega) (by omega))]
  | k + 1, F + 1, s, w, hL, hP, h1, h2 => by
    obtain ⟨p1, p2, p3, p4, p5⟩ := id hP
    have g4 : f_X4_get w (nI s) 4 = some (nI (N (32 + s)), w) := by
      rw [show f_X4_get w (nI s) 4 = _ from p_gets 4 (by omega) p1 p2 p3 p4 (by omega), show 8 * 4 + s = 32 + s by omega, (p5 (32 + s) (Or.inr (Or.inl ⟨by omega, by omega, by omega⟩))).1]
    obtain ⟨w3, i1, i2, i3, i4⟩ := w_mid (s := s) (a := a) (b := b) (by omega) hb (f_X7_weigh_R2 F) (b + 1 - a) q_fuel a w hL hP (by omega) (by rw [q_fuel_eq]; omega)
    obtain ⟨w2, c1, c2, c3, c4⟩ := w_out ha hb k F (s + 1) w3 (lSt_fr1 i2 hL) (PC_fr1 i2 hP) (by omega) (by omega)
    refine ⟨w2, ?_, fr1_tr i2 c2, fun s2 h d1 d2 d3 d4 => ?_, fun s2 h2 d1 d2 d3 => c4 s2 h2 (by omega) d2 (i4 s2 h2 (by omega) d2 (by omega) d3)⟩
    · show f_X7_weigh_B2 (f_X7_weigh_R2 F) w (nI a) (nI b) (nI s) = _
      unfold f_X7_weigh_B2
      rw [p2, if_neg (nI_ge (by omega) (by omega)), g4, z_cl, i1]
      exact c1
    · by_cases hx : s2 = s
      · subst hx
        exact c4 s2 h (by omega) (by omega) (i3 h d3 d4)
      · exact c3 s2 h (by omega) d2 d3 d4
theorem s_weigh {tx : Option (List lw_Ln)} {w : qW} {mn st : Nat} {N : Nat → Nat} (hL : lSt tx w) (hP : PC mn st N w) {a b : Nat} (ha : a ≤ b) (hb : b < 12) : ∃ w2, f_X7_weigh w (nI a) (nI b) = some ((), w2) ∧ fr1 w w2 ∧ ∀ s h, s < st → a ≤ h → h ≤ b → dn tx mn N w2 s h := by
  have h8 := hP.2.2.2.1
  obtain ⟨w2, c1, c2, c3, -⟩ := w_out ha hb st q_fuel 0 w hL hP (by omega) (by rw [q_fuel_eq]; omega)
  exact ⟨w2, c1, c2, fun s h g1 g2 g3 => c3 s h (by omega) g1 g2 g3⟩
/-! who is served, who wants, on both sides -/
theorem sm_7 {tx : Option (List lw_Ln)} {mn : Nat} {N : Nat → Nat} {cell h : Nat} (hm : mn ≤ 7) : sm (gv tx mn N cell h) 7 = sm (gv tx mn N cell h) mn := by
  have b : ∀ j k, k = mn + j → sm (gv tx mn N cell h) k = sm (gv tx mn N cell h) mn := by
    intro j
    induction j with
    | zero => intro k hk; rw [hk, Nat.add_zero]
    | succ j ih =>
      intro k hk
      subst hk
      show sm (gv tx mn N cell h) (mn + j) + gv tx mn N cell h (mn + j) = _
      rw [ih _ rfl]
      unfold gv
      rw [if_neg (by omega)]
      rfl
  exact b (7 - mn) 7 (by omega)
def svd (tx : Option (List lw_Ln)) (mn : Nat) (N : Nat → Nat) (s h : Nat) : Bool := decide (N (48 + s) ≤ sm (gv tx mn N (N (32 + s)) h) mn)
def wnt (N : Nat → Nat) (s h : Nat) : Bool := (N (40 + s)).testBit h
theorem i_12d (s h : Nat) (hs : s < 8) (hh : h < 12) : nI (12 * s + h) / 12 = nI s := by
  rw [show nI (12 * s + h) / 12 = nI ((12 * s + h) / 12) from i_div (b := 12) (by omega) (by omega), show (12 * s + h) / 12 = s by omega]
theorem i_12r (s h : Nat) (hs : s < 8) (hh : h < 12) : q_rem (nI (12 * s + h)) 12 = nI h := by
  rw [show q_rem (nI (12 * s + h)) 12 = nI ((12 * s + h) % 12) from i_rem (b := 12) (by omega) (by omega), show (12 * s + h) % 12 = h by omega]
theorem s_get {w : qW} {mn st : Nat} {N : Nat → Nat} (hP : PC mn st N w) (k : Nat) (hk : 4 ≤ k ∧ k < 7) {s : Nat} (hs : s < st) : f_X4_get w (nI s) (nI k) = some (nI (N (8 * k + s)), w) := by
  obtain ⟨p1, p2, p3, p4, p5⟩ := id hP
  rw [p_gets k hk p1 p2 p3 p4 hs, (p5 (8 * k + s) (Or.inr (Or.inl ⟨by omega, by omega, by omega⟩))).1]
theorem s_getm {w : qW} {mn st : Nat} {N : Nat → Nat} (hP : PC mn st N w) (k : Nat) (hk : k < 4) {m : Nat} (hm : m < mn) : f_X4_get w (nI m) (nI k) = some (nI (N (8 * k + m)), w) := by
  obtain ⟨p1, p2, p3, p4, p5⟩ := id hP
  rw [p_getm k hk p1 p2 p3 p4 hm, (p5 (8 * k + m) (Or.inl ⟨by omega, by omega⟩)).1]
theorem s_least {w : qW} {mn st : Nat} {N : Nat → Nat} (hP : PC mn st N w) {s h : Nat} (hs : s < st) (hh : h < 12) : f_X7_leastOf w (nI (12 * s + h)) = some (nI (N (48 + s)), w) := by
  have h8 := hP.2.2.2.1
  unfold f_X7_leastOf
  rw [i_12d s h (by omega) hh, show f_X4_get w (nI s) 6 = _ from s_get hP 6 (by omega) hs, z_cl]
theorem hiN_le {mn st : Nat} {N : Nat → Nat} {w : qW} (hP : PC mn st N w) {s : Nat} (hs : s < st) : N (32 + s) ≤ 143 ∧ N (40 + s) ≤ 4095 ∧ N (48 + s) ≤ 12 := by
  obtain ⟨p1, p2, p3, p4, p5⟩ := id hP
  have h1 := (p5 (32 + s) (Or.inr (Or.inl ⟨by omega, by omega, by omega⟩))).2
  have h2 := (p5 (40 + s) (Or.inr (Or.inl ⟨by omega, by omega, by omega⟩))).2
  have h3 := (p5 (48 + s) (Or.inr (Or.inl ⟨by omega, by omega, by omega⟩))).2
  rw [show (32 + s) / 8 = 4 by omega] at h1
  rw [show (40 + s) / 8 = 5 by omega] at h2
  rw [show (48 + s) / 8 = 6 by omega] at h3
  exact ⟨h1, h2, h3⟩
theorem s_served {tx : Option (List lw_Ln)} {w : qW} {mn st : Nat} {N : Nat → Nat} (hP : PC mn st N w) {s h : Nat} (hs : s < st) (hh : h < 12) (hd : dn tx mn N w s h) : f_X7_isServed w (nI (12 * s + h)) = some (b2i (svd tx mn N s h), w) := by
  have h8 := hP.2.2.2.1
  have h7 := hP.2.2.1
  have hl := (hiN_le hP hs).2.2
  have hb := sm_le (g := gv tx mn N (N (32 + s)) h) (fun m => gv_le ..) mn
  unfold f_X7_isServed svd
  rw [ld_lit _ _ _ _ (by omega) (by omega), hd.1, sm_7 h7, s_least hP hs hh, z_cl]
  by_cases hc : N (48 + s) ≤ sm (gv tx mn N (N (32 + s)) h) mn
  · rw [if_neg (by rw [z_lt, nI_toInt (by omega), nI_toInt (by omega)]; omega), decide_eq_true hc]; rfl
  · rw [if_pos (by rw [z_lt, nI_toInt (by omega), nI_toInt (by omega)]; omega), decide_eq_false hc]; rfl
theorem s_wanted {w : qW} {mn st : Nat} {N : Nat → Nat} (hP : PC mn st N w) {s h : Nat} (hs : s < st) (hh : h < 12) : f_X7_isWanted w (nI (12 * s + h)) = some (b2i (wnt N s h), w) := by
  have h8 := hP.2.2.2.1
  have hl := (hiN_le hP hs).2.1
  unfold f_X7_isWanted wnt
  rw [i_12d s h (by omega) hh, i_12r s h (by omega) hh, show f_X4_get w (nI s) 5 = _ from s_get hP 5 (by omega) hs, z_cl, show 8 * 5 + s = 40 + s by omega, bt_12 (by omega) hh]
  cases (N (40 + s)).testBit h with
  | true => rw [if_pos rfl, if_neg (by decide)]; rfl
  | false => rw [if_neg (show ¬ false = true by decide), if_pos (by decide)]; rfl
def svS (tx : Option (List lw_Ln)) (N : Nat → Nat) (set s h : Nat) : Bool := decide (N (48 + s) ≤ smS (sN tx N (N (32 + s)) h) set 8)
theorem svS_evb {tx : Option (List lw_Ln)} {mn : Nat} {N : Nat → Nat} {s h : Nat} (hm : mn ≤ 7) : svS tx N (evb mn) s h = svd tx mn N s h := by
  unfold svS svd
  rw [evb_sm hm]
theorem hiM_le {mn mk st : Nat} {N : Nat → Nat} {w : qW} (hP : PM mn mk st N w) {s : Nat} (hs : s < st) : (q_A w 49 (32 + s) = nI (N (32 + s)) ∧ N (32 + s) ≤ 143) ∧ (q_A w 49 (40 + s) = nI (N (40 + s)) ∧ N (40 + s) ≤ 4095) ∧ q_A w 49 (48 + s) = nI (N (48 + s)) ∧ N (48 + s) ≤ 12 := by
  obtain ⟨p1, p2, p3, p4, p5, p6⟩ := id hP
  have h1 := p6 (32 + s) (Or.inr (Or.inl ⟨by omega, by omega, by omega⟩))
  have h2 := p6 (40 + s) (Or.inr (Or.inl ⟨by omega, by omega, by omega⟩))
  have h3 := p6 (48 + s) (Or.inr (Or.inl ⟨by omega, by omega, by omega⟩))
  rw [show (32 + s) / 8 = 4 by omega] at h1
  rw [show (40 + s) / 8 = 5 by omega] at h2
  rw [show (48 + s) / 8 = 6 by omega] at h3
  exact ⟨h1, h2, h3⟩
theorem m_served {tx : Option (List lw_Ln)} {w : qW} {mn mk st : Nat} {N : Nat → Nat} {set s h : Nat} (hL : lSt tx w) (hP : PM mn mk st N w) (hset : set < 256) (hsm : ∀ m, m < 8 → set.testBit m = true → m < mk) (hs : s < st) (hh : h < 12) : rto (f_X11_isServed w (nI s) (nI h) (nI set)) (b2i (svS tx N set s h)) w := by
  have h8 := hP.2.2.2.1
  obtain ⟨⟨a1, a2⟩, -, a3, a4⟩ := hiM_le hP hs
  obtain ⟨w2, e, f⟩ := m_shadeOf (cell := N (32 + s)) hL hP hset hsm hh
  have hb := smS_le (g := sN tx N (N (32 + s)) h) (fun m => sN_le ..) set 8
  unfold f_X11_isServed svS
  rw [show (32 : Int32) + nI s = nI (32 + s) from nI_add 32 s, ld_lit _ _ _ _ (by omega) (by omega), a1, e, z_cl, show (48 : Int32) + nI s = nI (48 + s) from nI_add 48 s, ld_lit _ _ _ _ (by omega) (by omega), fr0_A f 49 (by omega), a3]
  refine ⟨w2, ?_, f⟩
  by_cases hc : N (48 + s) ≤ smS (sN tx N (N (32 + s)) h) set 8
  · rw [if_neg (by rw [z_lt, nI_toInt (by omega), nI_toInt (by omega)]; omega), decide_eq_true hc]; rfl
  · rw [if_pos (by rw [z_lt, nI_toInt (by omega), nI_toInt (by omega)]; omega), decide_eq_false hc]; rfl
theorem m_wants {w : qW} {mn mk st : Nat} {N : Nat → Nat} {s h : Nat} (hP : PM mn mk st N w) (hs : s < st) (hh : h < 12) : f_X11_wants w (nI s) (nI h) = some (b2i (wnt N s h), w) := by
  have h8 := hP.2.2.2.1
  obtain ⟨-, ⟨a1, a2⟩, -⟩ := hiM_le hP hs
  unfold f_X11_wants wnt
  rw [show (40 : Int32) + nI s = nI (40 + s) from nI_add 40 s, ld_lit _ _ _ _ (by omega) (by omega), a1, m_isIn12 w (by omega) hh, z_cl, b2i_and]
