/-! one more, a step: the model; both -/
def updN (N : Nat → Nat) (x v i : Nat) : Nat := if i = x then v else N i
theorem updN_n {N : Nat → Nat} {x v i : Nat} (h : i ≠ x) : updN N x v i = N i := by unfold updN; rw [if_neg h]
theorem updN_y (N : Nat → Nat) (x v : Nat) : updN N x v x = v := by unfold updN; rw [if_pos rfl]
theorem lSt_sA {tx : Option (List lw_Ln)} {w : qW} (h : lSt tx w) (o : Nat) (B : Nat → Int32) (ho : o ≠ 5 ∧ o ≠ 6 ∧ o ≠ 54) : lSt tx (q_sA w o B) := by
  rcases h with ⟨k1, k2, k3⟩ | ⟨lns, nn, LL, W, k1, k2, ⟨q1, q2, q3, q4⟩, k4, k5, k6, k7, k8, k9, k10, k11⟩
  · exact Or.inl ⟨k1, k2, k3⟩
  · have e54 : q_A (q_sA w o B) 54 = q_A w 54 := by rw [g_AA, if_neg (by omega)]
    refine Or.inr ⟨lns, nn, LL, W, k1, k2, ⟨q1, q2, q3, ?_⟩, k4, k5, k6, k7, k8, by rw [e54]; exact k9, by rw [e54]; exact k10, by rw [e54]; exact k11⟩
    show q_A (q_sA w o B) (q_R w 3 3) = W
    rw [g_AA, if_neg (by omega)]
    exact q4
theorem PM_B {mn mk st : Nat} {N : Nat → Nat} {w : qW} (hP : PM mn mk st N w) {B : Nat → Int32} {x v : Nat} (hB : ∀ i, i ≠ x → B i = q_A w 49 i) (hv : v ≤ hiN (x / 8)) : PM mn mk st (updN N x v) (q_sA w 49 (upd B x (nI v))) := by
  obtain ⟨p1, p2, p3, p4, p5, p6⟩ := hP
  refine ⟨p1, p2, p3, p4, p5, fun i hi => ?_⟩
  show upd B x (nI v) i = nI (updN N x v i) ∧ updN N x v i ≤ hiN (i / 8)
  unfold upd updN
  by_cases h : i = x
  · rw [if_pos h, if_pos h, h]; exact ⟨rfl, hv⟩
  · rw [if_neg h, if_neg h, hB i h]; exact p6 i hi
theorem smS_ev (g : Nat → Nat) {n : Nat} (hn : n ≤ 8) : smS g (evb n) 8 = sm g n := by
  have a : ∀ k, k ≤ n → smS g (evb n) k = sm g k := by
    intro k
    induction k with
    | zero => intro _; rfl
    | succ k ih =>
      intro hk
      show smS g (evb n) k + (if (evb n).testBit k then g k else 0) = sm g k + g k
      rw [ih (by omega), evb_bt n (by omega) k (by omega), decide_eq_true (show k < n by omega), if_pos rfl]
  have b : ∀ j k, k = n + j → k ≤ 8 → smS g (evb n) k = smS g (evb n) n := by
    intro j
    induction j with
    | zero => intro k hk _; rw [hk, Nat.add_zero]
    | succ j ih =>
      intro k hk h8
      subst hk
      show smS g (evb n) (n + j) + (if (evb n).testBit (n + j) then g (n + j) else 0) = _
      rw [ih _ rfl (by omega), evb_bt n (by omega) _ (by omega), decide_eq_false (by omega)]
      rfl
  rw [b (8 - n) 8 (by omega) (Nat.le_refl 8), a n (Nat.le_refl n)]
theorem sm_chg {g g2 : Nat → Nat} {m : Nat} (h : ∀ j, j ≠ m → g2 j = g j) : ∀ k, m < k → sm g2 k + g m = sm g k + g2 m
  | 0, hk => by omega
  | k + 1, hk => by
    show sm g2 k + g2 k + g m = sm g k + g k + g2 m
    by_cases hm : m = k
    · subst hm
      rw [sm_congr m (fun j hj => h j (by omega))]
      omega
    · have := sm_chg h k (by omega)
      rw [h k (by omega)]
      omega
theorem sN_congr {tx : Option (List lw_Ln)} {N N2 : Nat → Nat} {cell h m : Nat} (h0 : N2 m = N m) (h8 : N2 (8 + m) = N (8 + m)) (h16 : N2 (16 + m) = N (16 + m)) (h56 : N2 56 = N 56) : sN tx N2 cell h m = sN tx N cell h m := by
  unfold sN
  rw [h0, h8, h16, h56]
theorem eq_A {tx : Option (List lw_Ln)} {mn st : Nat} {N : Nat → Nat} {m c : Nat} (hmn : mn ≤ 7) (hm : m < mn) (hst : st ≤ 8) : sm (fun s => sm (msN tx (updN N m c) (evb mn) s) 12) st = vA2 tx mn st N m c := by
  unfold vA2
  rw [sm_pairs (fun s h => tA tx mn N m c s h) st]
  apply sm_congr
  intro s hs
  apply sm_congr
  intro h _
  rw [msN_evb hmn]
  unfold tA svd wnt
  have e32 : updN N m c (32 + s) = N (32 + s) := updN_n (by omega)
  have e40 : updN N m c (40 + s) = N (40 + s) := updN_n (by omega)
  have e48 : updN N m c (48 + s) = N (48 + s) := updN_n (by omega)
  rw [e32, e40, e48]
  have h1 := sm_chg (g := gv tx mn N (N (32 + s)) h) (g2 := gv tx mn (updN N m c) (N (32 + s)) h) (m := m) (fun j hj => by
    unfold gv
    by_cases hjm : j < mn
    · rw [if_pos hjm, if_pos hjm]
      exact sN_congr (updN_n hj) (updN_n (by omega)) (updN_n (by omega)) (updN_n (by omega))
    · rw [if_neg hjm, if_neg hjm]) mn hm
  have h2 : gv tx mn (updN N m c) (N (32 + s)) h m = s5 tx (N 56) c (N (8 + m)) (N (16 + m)) m (N (32 + s)) h := by
    unfold gv sN
    rw [if_pos hm, updN_y, updN_n (show 56 ≠ m by omega), updN_n (show 8 + m ≠ m by omega), updN_n (show 16 + m ≠ m by omega)]
  have h3 := gv_sm (g := gv tx mn N (N (32 + s)) h) mn m hm
  rw [h2] at h1
  rw [sm_7 hmn]
  by_cases hc : N (48 + s) ≤ sm (gv tx mn (updN N m c) (N (32 + s)) h) mn
  · rw [decide_eq_true hc, decide_eq_false (by omega)]; rfl
  · rw [decide_eq_false hc, decide_eq_true (by omega)]; rfl
def updM (N : Nat → Nat) (mn kind c : Nat) : Nat → Nat := updN (updN (updN N (8 + mn) kind) (16 + mn) 1) mn c
theorem eq_B {tx : Option (List lw_Ln)} {mn st : Nat} {N : Nat → Nat} {kind c : Nat} (hmn : mn ≤ 7) (hst : st ≤ 8) : sm (fun s => sm (msN tx (updM N mn kind c) (evb (mn + 1)) s) 12) st = vB2 tx mn st N kind c := by
  unfold vB2
  rw [sm_pairs (fun s h => tB tx mn N c kind s h) st]
  apply sm_congr
  intro s hs
  apply sm_congr
  intro h _
  have eo : ∀ i, i ≠ mn → i ≠ 8 + mn → i ≠ 16 + mn → updM N mn kind c i = N i := by
    intro i q1 q2 q3
    unfold updM
    rw [updN_n q1, updN_n q3, updN_n q2]
  unfold msN tB svS wnt
  rw [eo (32 + s) (by omega) (by omega) (by omega), eo (40 + s) (by omega) (by omega) (by omega), eo (48 + s) (by omega) (by omega) (by omega), smS_ev _ (show mn + 1 ≤ 8 by omega)]
  have h1 : sm (sN tx (updM N mn kind c) (N (32 + s)) h) (mn + 1) = sm (gv tx mn N (N (32 + s)) h) mn + s5 tx (N 56) c kind 1 mn (N (32 + s)) h := by
    show sm (sN tx (updM N mn kind c) (N (32 + s)) h) mn + sN tx (updM N mn kind c) (N (32 + s)) h mn = _
    have a1 : sm (sN tx (updM N mn kind c) (N (32 + s)) h) mn = sm (gv tx mn N (N (32 + s)) h) mn := by
      apply sm_congr
      intro j hj
      unfold gv
      rw [if_pos hj]
      exact sN_congr (eo _ (by omega) (by omega) (by omega)) (eo _ (by omega) (by omega) (by omega)) (eo _ (by omega) (by omega) (by omega)) (eo _ (by omega) (by omega) (by omega))
    have a2 : sN tx (updM N mn kind c) (N (32 + s)) h mn = s5 tx (N 56) c kind 1 mn (N (32 + s)) h := by
      unfold sN
      rw [eo 56 (by omega) (by omega) (by omega)]
      have b0 : updM N mn kind c mn = c := updN_y _ _ _
      have b8 : updM N mn kind c (8 + mn) = kind := by unfold updM; rw [updN_n (by omega), updN_n (by omega), updN_y]
      have b16 : updM N mn kind c (16 + mn) = 1 := by unfold updM; rw [updN_n (by omega), updN_y]
      rw [b0, b8, b16]
    rw [a1, a2]
  rw [h1]
  by_cases hc : N (48 + s) ≤ sm (gv tx mn N (N (32 + s)) h) mn + s5 tx (N 56) c kind 1 mn (N (32 + s)) h
  · rw [decide_eq_true hc, decide_eq_false (by omega)]; rfl
  · rw [decide_eq_false hc, decide_eq_true (by omega)]; rfl
theorem Jn_49 {w : qW} (hJ : Jn w) {B : Nat → Int32} (hB : ∀ i, jvI (q_I w 1 1) (q_I w 1 2) i → B i = q_A w 49 i) : Jn (q_sA w 49 B) := by
  obtain ⟨⟨a1, a2, a3, a4, a5⟩, hC, hD, hT, hS, hL, hR⟩ := hJ
  refine ⟨⟨a1, a2, a3, a4, fun i hi => ?_⟩, hC, hD, hT, hS, hL, hR⟩
  show q_A w 2 i = B i ∧ _
  rw [hB i hi]
  exact a5 i hi
theorem qT2 : ∀ k : Nat, k < 4 → q_T 2 (k + 1) = nI k := by decide +kernel
theorem s_bestS {tx : Option (List lw_Ln)} {mn st : Nat} {N : Nat → Nat} {m : Nat} (hm : m < mn) : ∀ (k F j : Nat) (w : qW), lSt tx w → PC mn st N w → (∀ s h, s < st → h < 12 → dn tx mn N w s h) → j + k = 4 → k < F → rto (f_X7_bestStep_R25 F w (nI m) (nI (arS (fun k => vA2 tx mn st N m (stp (N m) k)) (stOk (N m)) (vA2 tx mn st N m (N m)) j).1) (nI (arS (fun k => vA2 tx mn st N m (stp (N m) k)) (stOk (N m)) (vA2 tx mn st N m (N m)) j).2) (nI 5) (nI (j + 1))) (nI (arS (fun k => vA2 tx mn st N m (stp (N m) k)) (stOk (N m)) (vA2 tx mn st N m (N m)) 4).1) w
  | 0, F + 1, j, w, hL, hP, hd, h1, _ => by
    have hj : j = 4 := by omega
    subst hj
    show rto (f_X7_bestStep_B25 (f_X7_bestStep_R25 F) w (nI m) _ _ (nI 5) (nI (4 + 1))) _ w
    unfold f_X7_bestStep_B25
    rw [if_pos (by decide)]
    exact ⟨w, rfl, fr0_rf w⟩
  | k + 1, F + 1, j, w, hL, hP, hd, h1, h2 => by
    have h8 := hP.2.2.2.1
    show rto (f_X7_bestStep_B25 (f_X7_bestStep_R25 F) w (nI m) _ _ (nI 5) (nI (j + 1))) _ w
    obtain ⟨w2, e, f⟩ := s_after hL hP hd hm (k := j) (by omega)
    have ok := arS_ok (fun k => vA2 tx mn st N m (stp (N m) k)) (stOk (N m)) (vA2 tx mn st N m (N m)) j
    have hv0 := vA2_le tx mn st N m (N m)
    have hvj := vA2_le tx mn st N m (stp (N m) j)
    obtain ⟨P, hPd⟩ : ∃ P, P = arS (fun k => vA2 tx mn st N m (stp (N m) k)) (stOk (N m)) (vA2 tx mn st N m (N m)) j := ⟨_, rfl⟩
    have hP2 : P.2 ≤ 12 * st := by
      rw [hPd]
      rcases ok with ⟨q1, q2⟩ | ⟨q1, q2, q3⟩
      · rw [q2]; exact hv0
      · rw [q3]; exact vA2_le ..
    have en : arS (fun k => vA2 tx mn st N m (stp (N m) k)) (stOk (N m)) (vA2 tx mn st N m (N m)) (j + 1) = if stOk (N m) j && decide (vA2 tx mn st N m (stp (N m) j) < P.2) then (j, vA2 tx mn st N m (stp (N m) j)) else P := by rw [hPd]; rfl
    obtain ⟨w3, e3, f3⟩ := s_bestS hm k F (j + 1) w2 (lSt_fr f hL) (PC_fr f hP) (fun s h q1 q2 => dn_fr f (hd s h q1 q2)) (by omega) (by omega)
    rw [en] at e3
    rw [← hPd]
    refine ⟨w3, ?_, fr0_tr f f3⟩
    unfold f_X7_bestStep_B25 f_X7_bestStep_B60
    rw [if_neg (nI_ge (by omega) (by omega)), ld_lit _ _ _ _ (show j + 1 < q_Tn 2 by show j + 1 < 5; omega) (by omega), qT2 j (by omega), e, z_cl, z_bn, z_bn, nI_1]
    cases ho : stOk (N m) j with
    | false =>
      rw [ho] at e3
      rw [if_neg (show ¬ false = true by decide), if_pos (by rw [z_le, nI_toInt (by omega), show (2147483647 : Int32).toInt = 2147483647 by decide]; omega)]
      exact e3
    | true =>
      rw [ho] at e3
      rw [if_pos rfl]
      by_cases hc : vA2 tx mn st N m (stp (N m) j) < P.2
      · rw [decide_eq_true hc] at e3
        rw [if_neg (by rw [z_le, nI_toInt (by omega), nI_toInt (by omega)]; omega)]
        exact e3
      · rw [decide_eq_false hc] at e3
        rw [if_pos (by rw [z_le, nI_toInt (by omega), nI_toInt (by omega)]; omega)]
        exact e3
theorem m_step_R {tx : Option (List lw_Ln)} {mn st : Nat} {N : Nat → Nat} {m : Nat} {w0 : qW} (hm : m < mn) (hL : lSt tx w0) (hP : PM mn mn st N w0) (what : Int32) : ∀ (k F j : Nat) (w : qW) (B : Nat → Int32), (∀ i, i ≠ m → B i = q_A w0 49 i) → fr0 (q_sA w0 49 B) w → j + k = 4 → k < F → rto (f_X11_step_R44 F w (nI m) what (nI (N m)) (nI (arS (fun k => vA2 tx mn st N m (stp (N m) k)) (stOk (N m)) (vA2 tx mn st N m (N m)) j).1) (nI (arS (fun k => vA2 tx mn st N m (stp (N m) k)) (stOk (N m)) (vA2 tx mn st N m (N m)) j).2) (nI j)) (if what = 0 then nI (arS (fun k => vA2 tx mn st N m (stp (N m) k)) (stOk (N m)) (vA2 tx mn st N m (N m)) 4).1 else nI (arS (fun k => vA2 tx mn st N m (stp (N m) k)) (stOk (N m)) (vA2 tx mn st N m (N m)) 4).2) w0
  | 0, F + 1, j, w, B, hB, hf, h1, _ => by
    have h7 := hP.2.2.1
    have hj : j = 4 := by omega
    subst hj
    have a0 : q_A w0 49 m = nI (N m) := (hP.2.2.2.2.2 m (Or.inl ⟨by omega, by omega⟩)).1
    show rto (f_X11_step_B44 (f_X11_step_R44 F) w (nI m) what (nI (N m)) _ _ (nI 4)) _ w0
    unfold f_X11_step_B44
    rw [if_pos (by decide), st_lit _ _ _ _ _ _ (by omega) (by omega)]
    have ef : fr0 w0 (q_sA w 49 (upd (q_A w 49) m (nI (N m)))) := by
      have := fr0_sA hf 49 (upd (q_A w 49) m (nI (N m)))
      rw [sA_two] at this
      have e2 : upd (q_A w 49) m (nI (N m)) = q_A w0 49 := by
        funext i
        unfold upd
        by_cases hi : i = m
        · rw [if_pos hi, hi, a0]
        · rw [if_neg hi, fr0_A hf 49 (by omega), g_AA, if_pos rfl, hB i hi]
      rw [e2, sA_self] at this
      rw [e2]
      exact this
    refine ⟨_, ?_, ef⟩
    by_cases hz : what = 0
    · rw [if_pos hz, if_pos hz]
    · rw [if_neg hz, if_neg hz]
  | k + 1, F + 1, j, w, B, hB, hf, h1, h2 => by
    have h7 := hP.2.2.1
    have h8 := hP.2.2.2.1
    have hc : N m < 144 := by
      have := (hP.2.2.2.2.2 m (Or.inl ⟨by omega, by omega⟩)).2
      rw [show m / 8 = 0 by omega] at this
      have : N m ≤ 143 := this
      omega
    show rto (f_X11_step_B44 (f_X11_step_R44 F) w (nI m) what (nI (N m)) _ _ (nI j)) _ w0
    have ok := arS_ok (fun k => vA2 tx mn st N m (stp (N m) k)) (stOk (N m)) (vA2 tx mn st N m (N m)) j
    have hv0 := vA2_le tx mn st N m (N m)
    have hvj := vA2_le tx mn st N m (stp (N m) j)
    obtain ⟨P, hPd⟩ : ∃ P, P = arS (fun k => vA2 tx mn st N m (stp (N m) k)) (stOk (N m)) (vA2 tx mn st N m (N m)) j := ⟨_, rfl⟩
    have hP2 : P.2 ≤ 12 * st := by
      rw [hPd]
      rcases ok with ⟨q1, q2⟩ | ⟨q1, q2, q3⟩
      · rw [q2]; exact hv0
      · rw [q3]; exact vA2_le ..
    have en : arS (fun k => vA2 tx mn st N m (stp (N m) k)) (stOk (N m)) (vA2 tx mn st N m (N m)) (j + 1) = if stOk (N m) j && decide (vA2 tx mn st N m (stp (N m) j) < P.2) then (j, vA2 tx mn st N m (stp (N m) j)) else P := by rw [hPd]; rfl
    rw [← hPd]
    unfold f_X11_step_B44 f_X11_step_B95 f_X11_step_B111 f_X11_step_B113
    have n4 : ¬ nI j = 4 := by rw [z_eq, c4, nI_toInt (by omega)]; omega
    rw [if_neg (by rw [z_le, c4, nI_toInt (by omega)]; omega), p_stepFrom, z_cl, if_neg n4]
    cases ho : stOk (N m) j with
    | false =>
      obtain ⟨w3, e3, f3⟩ := m_step_R hm hL hP what k F (j + 1) w B hB hf (by omega) (by omega)
      rw [en, ho] at e3
      rw [stp_f hc (by omega) ho, if_pos (by decide), z_bn, nI_1]
      exact ⟨w3, e3, f3⟩
    | true =>
      obtain ⟨q1, q2⟩ := stp_t hc (by omega) ho
      have e49 : q_A w 49 = B := by rw [fr0_A hf 49 (by omega), g_AA, if_pos rfl]
      rw [q1, if_neg (nI_pos (by omega)), st_lit _ _ _ _ _ _ (by omega) (by omega), e49]
      have hPM := PM_B hP hB (x := m) (v := stp (N m) j) (by rw [show m / 8 = 0 by omega]; show _ ≤ 143; omega)
      have hf2 : fr0 (q_sA w0 49 (upd B m (nI (stp (N m) j)))) (q_sA w 49 (upd B m (nI (stp (N m) j)))) := by
        have := fr0_sA hf 49 (upd B m (nI (stp (N m) j)))
        rw [sA_two] at this
        exact this
      have hPM2 := PM_fr hf2 hPM
      obtain ⟨w8, e8, f8⟩ := m_missesAll (lSt_fr hf2 (lSt_sA hL 49 _ (by omega))) hPM2 (evb_lt mn (by omega)) (evb_ok h7 (Nat.le_refl mn))
      rw [eq_A h7 hm h8] at e8
      rw [m_evb hPM2, z_cl, e8, z_cl]
      simp only [z_bn, nI_1]
      have hB2 : ∀ i, i ≠ m → upd B m (nI (stp (N m) j)) i = q_A w0 49 i := by
        intro i hi
        unfold upd
        rw [if_neg hi]
        exact hB i hi
      obtain ⟨w3, e3, f3⟩ := m_step_R hm hL hP what k F (j + 1) w8 (upd B m (nI (stp (N m) j))) hB2 (fr0_tr hf2 f8) (by omega) (by omega)
      rw [en, ho] at e3
      refine ⟨w3, ?_, f3⟩
      by_cases hcc : vA2 tx mn st N m (stp (N m) j) < P.2
      · have hn : ¬ nI P.2 ≤ nI (vA2 tx mn st N m (stp (N m) j)) := by rw [z_le, nI_toInt (by omega), nI_toInt (by omega)]; omega
        rw [decide_eq_true hcc] at e3
        rw [if_neg hn, if_neg hn]
        exact e3
      · have hn : nI P.2 ≤ nI (vA2 tx mn st N m (stp (N m) j)) := by rw [z_le, nI_toInt (by omega), nI_toInt (by omega)]; omega
        rw [decide_eq_false hcc] at e3
        rw [if_pos hn, if_pos hn]
        exact e3
theorem p_step : j_step := by
  intro a b w hJ
  show ∃ r w1 w2, f_X10_step w a b = some (r, w1) ∧ f_X11_step w1 a b = some (r, w2) ∧ Jn w2
  obtain ⟨tx, hL⟩ := lSt_of hJ
  obtain ⟨mn, st, N, hC, hM, -⟩ := PN_of hJ
  have h7 := hC.2.2.1
  have h8 := hC.2.2.2.1
  by_cases ha : 0 ≤ a.toInt ∧ a.toInt < (mn : Int)
  · by_cases hb : 0 ≤ b.toInt ∧ b.toInt < 2
    · obtain ⟨m, hq⟩ : ∃ s, s = a.toInt.toNat := ⟨_, rfl⟩
      have ea : a = nI m := by rw [hq]; exact z_nI _ ha.1
      have hm : m < mn := by omega
      subst ea
      have hc : N m < 144 := by
        have := (hC.2.2.2.2 m (Or.inl ⟨by omega, by omega⟩)).2
        rw [show m / 8 = 0 by omega] at this
        have : N m ≤ 143 := this
        omega
      obtain ⟨w1, e1, f1, hd⟩ := s_weigh hL hC (a := 0) (b := 11) (by omega) (by omega)
      have hC1 := PC_fr1 f1 hC
      have hL1 := lSt_fr1 f1 hL
      have hd1 : ∀ s h, s < st → h < 12 → dn tx mn N w1 s h := fun s h q1 q2 => hd s h q1 (by omega) (by omega)
      obtain ⟨w2, e2, f2⟩ := s_after hL1 hC1 hd1 hm (k := 4) (by omega)
      rw [(stp_4 hc).1, if_pos rfl, (stp_4 hc).2] at e2
      have hvm := vA2_le tx mn st N m (N m)
      obtain ⟨F0, hF0, hF1⟩ : ∃ F0, q_fuel = F0 + 1 ∧ 10 < F0 := ⟨4095, rfl, by omega⟩
      obtain ⟨w3, e3, f3⟩ := s_bestS hm 4 F0 0 w2 (lSt_fr f2 hL1) (PC_fr f2 hC1) (fun s h q1 q2 => dn_fr f2 (hd1 s h q1 q2)) (by omega) (by omega)
      obtain ⟨P, hPd⟩ : ∃ P, P = arS (fun k => vA2 tx mn st N m (stp (N m) k)) (stOk (N m)) (vA2 tx mn st N m (N m)) 4 := ⟨_, rfl⟩
      have ok := arS_ok (fun k => vA2 tx mn st N m (stp (N m) k)) (stOk (N m)) (vA2 tx mn st N m (N m)) 4
      rw [← hPd] at e3 ok
      have eB : f_X7_bestStep w (nI m) = some (nI P.1, w3) := by
        unfold f_X7_bestStep
        rw [show f_X7_weigh w 0 11 = _ from e1, z_cl, z_bn, hF0]
        show f_X7_bestStep_B25 (f_X7_bestStep_R25 F0) w1 (nI m) 4 2147483647 (Int32.ofNat (q_Tn 2)) 0 = _
        unfold f_X7_bestStep_B25 f_X7_bestStep_B60
        rw [if_neg (by decide), show q_ld (q_T 2) (q_Tn 2) (0 : Int32) = q_ld (q_T 2) (q_Tn 2) (nI 0) (β := Int32 × qW) from rfl, ld_lit _ _ _ _ (show 0 < q_Tn 2 by show 0 < 5; omega) (by omega), show q_T 2 0 = nI 4 from rfl, e2, z_cl, if_neg (by rw [z_le, nI_toInt (by omega), show (2147483647 : Int32).toInt = 2147483647 by decide]; omega), z_bn]
        exact e3
      have f13 : fr1 w w3 := fr1_tr f1 (fr1_0 (fr0_tr f2 f3))
      have f23 : fr0 w1 w3 := fr0_tr f2 f3
      have cls : ∃ w4, f_X10_step w (nI m) b = some (if b = 0 then nI P.1 else nI P.2, w4) ∧ fr1 w w4 := by
        unfold f_X10_step
        rw [s_has0 hC, z_cl, bd_t ha.1 ha.2, if_neg n10, p_choice, z_cl, c2, bd_t hb.1 hb.2, if_neg n10, eB, z_cl]
        by_cases hz : b = 0
        · rw [if_pos hz, if_pos hz]
          exact ⟨w3, rfl, f13⟩
        · rw [if_neg hz, if_neg hz]
          have hk5 : P.1 < 5 := by rcases ok with ⟨q1, q2⟩ | ⟨q1, q2, q3⟩ <;> omega
          obtain ⟨w4, e4, f4⟩ := s_after (lSt_fr f23 hL1) (PC_fr f23 hC1) (fun s h q1 q2 => dn_fr f23 (hd1 s h q1 q2)) hm (k := P.1) hk5
          have ev : (if stOk (N m) P.1 then nI (vA2 tx mn st N m (stp (N m) P.1)) else 2147483647) = nI P.2 := by
            rcases ok with ⟨q1, q2⟩ | ⟨q1, q2, q3⟩
            · rw [q1, q2, (stp_4 hc).1, if_pos rfl, (stp_4 hc).2]
            · rw [q2, if_pos rfl, q3]
          rw [ev] at e4
          rw [e4, z_cl]
          exact ⟨w4, rfl, fr1_tr f13 (fr1_0 f4)⟩
      obtain ⟨w4, e4, f4⟩ := cls
      have hL4 := lSt_fr1 f4 hL
      have hM4 := PM_fr1 f4 hM
      have eN : updN N m (N m) = N := by
        funext i
        unfold updN
        by_cases hi : i = m
        · rw [if_pos hi, hi]
        · rw [if_neg hi]
      obtain ⟨w5, e5, f5⟩ := m_missesAll hL4 hM4 (evb_lt mn (by omega)) (evb_ok h7 (Nat.le_refl mn))
      have eq := eq_A (tx := tx) (N := N) (c := N m) h7 hm h8
      rw [eN] at eq
      rw [eq] at e5
      obtain ⟨w6, e6, f6⟩ := m_step_R (tx := tx) (N := N) hm hL4 hM4 b 4 q_fuel 0 w5 (q_A w4 49) (fun _ _ => rfl) (by rw [sA_self]; exact f5) (by omega) (by rw [q_fuel_eq]; omega)
      rw [← hPd] at e6
      refine ⟨_, w4, w6, e4, ?_, Jn_fr0 (Jn_fr1 hJ f4) f6⟩
      have a0 : q_A w4 49 m = nI (N m) := (hM4.2.2.2.2.2 m (Or.inl ⟨by omega, by omega⟩)).1
      unfold f_X11_step
      rw [m_isMan hM4, z_cl, bd_t ha.1 ha.2, if_neg n10, m_w01, z_cl, bd_t hb.1 hb.2, if_neg n10, ld_lit _ _ _ _ (by omega) (by omega), a0, m_evb hM4, z_cl, e5, z_cl]
      exact e6
    · refine ⟨-1, w, w, ?_, ?_, hJ⟩
      · unfold f_X10_step
        rw [s_has0 hC, z_cl, bd_t ha.1 ha.2, if_neg n10, p_choice, z_cl, c2, bd_f hb, if_pos rfl]
      · unfold f_X11_step
        rw [m_isMan hM, z_cl, bd_t ha.1 ha.2, if_neg n10, m_w01, z_cl, bd_f hb, if_pos rfl]
  · refine ⟨-1, w, w, ?_, ?_, hJ⟩
    · unfold f_X10_step
      rw [s_has0 hC, z_cl, bd_f ha, if_pos rfl]
    · unfold f_X11_step
      rw [m_isMan hM, z_cl, bd_f ha, if_pos rfl]
theorem m_one_R {tx : Option (List lw_Ln)} {mn st : Nat} {N : Nat → Nat} {kind : Nat} {w0 : qW} (hL : lSt tx w0) (hP : ∀ c B, c < 144 → (∀ i, i ≠ mn → B i = q_A w0 49 i) → PM mn (mn + 1) st (updM N mn kind c) (q_sA w0 49 (upd B mn (nI c)))) (h6 : q_I w0 48 6 = nI mn) (h7 : mn ≤ 7) (h8 : st ≤ 8) (what : Int32) : ∀ (k F i : Nat) (w : qW) (B : Nat → Int32) (best least : Int32), (∀ i, i ≠ mn → B i = q_A w0 49 i) → fr0 (q_sA w0 49 B) w → i + k = 144 → k < F → ((i = 0 ∧ best = 0 ∧ least = 1000000) ∨ (0 < i ∧ best = nI (arC (vB2 tx mn st N kind) (i - 1)).1 ∧ least = nI (arC (vB2 tx mn st N kind) (i - 1)).2)) → ∃ w2 B2, f_X11_oneMore_R59 F w what best least (nI i) = some (if what = 0 then nI (arC (vB2 tx mn st N kind) 143).1 else nI (arC (vB2 tx mn st N kind) 143).2, w2) ∧ (∀ i, i ≠ mn → B2 i = q_A w0 49 i) ∧ fr0 (q_sA w0 49 B2) w2
  | 0, F + 1, i, w, B, best, least, hB, hf, h1, _, hst => by
    have hi : i = 144 := by omega
    subst hi
    have e49 : q_A w 49 = B := by rw [fr0_A hf 49 (by omega), g_AA, if_pos rfl]
    have i6 : q_I w 48 6 = nI mn := by rw [fr0_I hf 48 6 (by omega)]; exact h6
    refine ⟨q_sA w 49 (upd B mn 0), upd B mn 0, ?_, ?_, ?_⟩
    · show f_X11_oneMore_B59 (f_X11_oneMore_R59 F) w what best least (nI 144) = _
      unfold f_X11_oneMore_B59
      rw [if_pos (by decide), i6, st_lit _ _ _ _ _ _ (by omega) (by omega), e49]
      rcases hst with ⟨q, _⟩ | ⟨_, q2, q3⟩
      · omega
      · rw [q2, q3]
        by_cases hz : what = 0
        · rw [if_pos hz, if_pos hz]
        · rw [if_neg hz, if_neg hz]
    · intro i hi
      unfold upd
      rw [if_neg hi]
      exact hB i hi
    · have := fr0_sA hf 49 (upd B mn 0)
      rw [sA_two] at this
      exact this
  | k + 1, F + 1, i, w, B, best, least, hB, hf, h1, h2, hst => by
    have e49 : q_A w 49 = B := by rw [fr0_A hf 49 (by omega), g_AA, if_pos rfl]
    have i6 : q_I w 48 6 = nI mn := by rw [fr0_I hf 48 6 (by omega)]; exact h6
    have hPM := hP i B (by omega) hB
    have hf2 : fr0 (q_sA w0 49 (upd B mn (nI i))) (q_sA w 49 (upd B mn (nI i))) := by
      have := fr0_sA hf 49 (upd B mn (nI i))
      rw [sA_two] at this
      exact this
    have hPM2 := PM_fr hf2 hPM
    have i6b : q_I (q_sA w 49 (upd B mn (nI i))) 48 6 = nI mn := i6
    obtain ⟨w8, e8, f8⟩ := m_missesAll (lSt_fr hf2 (lSt_sA hL 49 _ (by omega))) hPM2 (evb_lt (mn + 1) (by omega)) (fun m hm hb => by
      rw [evb_bt (mn + 1) (by omega) m (by omega)] at hb
      exact of_decide_eq_true hb)
    rw [eq_B h7 h8] at e8
    have hset : nI (evb mn) ||| ((1 : Int32) <<< (nI mn &&& 31)) = nI (evb (mn + 1)) := by
      have := or_st mn (by omega) (evb mn) (by unfold evb; have : 0 < 2 ^ mn := Nat.pow_pos (by omega); omega)
      rw [this]
      unfold evb
      have : 0 < 2 ^ mn := Nat.pow_pos (by omega)
      rw [Nat.pow_succ, show 2 ^ mn - 1 + 2 ^ mn = 2 ^ mn * 2 - 1 by omega]
    have hB2 : ∀ x, x ≠ mn → upd B mn (nI i) x = q_A w0 49 x := by
      intro x hx
      unfold upd
      rw [if_neg hx]
      exact hB x hx
    have hb := vB2_le tx mn st N kind i
    have next : ∀ b l, (b = nI (arC (vB2 tx mn st N kind) i).1 ∧ l = nI (arC (vB2 tx mn st N kind) i).2) → ∃ w2 B2, f_X11_oneMore_R59 F w8 what b l (nI (i + 1)) = some (if what = 0 then nI (arC (vB2 tx mn st N kind) 143).1 else nI (arC (vB2 tx mn st N kind) 143).2, w2) ∧ (∀ i, i ≠ mn → B2 i = q_A w0 49 i) ∧ fr0 (q_sA w0 49 B2) w2 := by
      intro b l hbl
      exact m_one_R hL hP h6 h7 h8 what k F (i + 1) w8 (upd B mn (nI i)) b l hB2 (fr0_tr hf2 f8) (by omega) (by omega) (Or.inr ⟨by omega, hbl.1, hbl.2⟩)
    show ∃ w2 B2, f_X11_oneMore_B59 (f_X11_oneMore_R59 F) w what best least (nI i) = _ ∧ _
    unfold f_X11_oneMore_B59 f_X11_oneMore_B108 f_X11_oneMore_B123
    rw [if_neg (by rw [z_le, c144, nI_toInt (by omega)]; omega), i6, st_lit _ _ _ _ _ _ (by omega) (by omega), e49, m_evb hPM2, z_cl, i6b, hset, e8, z_cl]
    simp only [z_bn, nI_1]
    rcases hst with ⟨q1, q2, q3⟩ | ⟨q1, q2, q3⟩
    · subst q1
      have hn : ¬ least ≤ nI (vB2 tx mn st N kind 0) := by rw [q3, z_le, nI_toInt (by omega), show (1000000 : Int32).toInt = 1000000 by decide]; omega
      rw [if_neg hn, if_neg hn]
      exact next _ _ ⟨rfl, rfl⟩
    · obtain ⟨j, hj⟩ : ∃ j, i = j + 1 := ⟨i - 1, by omega⟩
      have ok := arC_ok (vB2 tx mn st N kind) j
      have hb2 := vB2_le tx mn st N kind (arC (vB2 tx mn st N kind) j).1
      rw [show i - 1 = j by omega] at q2 q3
      have e2 : arC (vB2 tx mn st N kind) i = if vB2 tx mn st N kind i < (arC (vB2 tx mn st N kind) j).2 then (i, vB2 tx mn st N kind i) else arC (vB2 tx mn st N kind) j := by rw [hj]; rfl
      by_cases hc : vB2 tx mn st N kind i < (arC (vB2 tx mn st N kind) j).2
      · rw [if_pos hc] at e2
        have hn : ¬ least ≤ nI (vB2 tx mn st N kind i) := by rw [q3, z_le, nI_toInt (by omega), nI_toInt (by omega)]; omega
        rw [if_neg hn, if_neg hn]
        exact next _ _ ⟨by rw [e2], by rw [e2]⟩
      · rw [if_neg hc] at e2
        have hn : least ≤ nI (vB2 tx mn st N kind i) := by rw [q3, z_le, nI_toInt (by omega), nI_toInt (by omega)]; omega
        rw [if_pos hn, if_pos hn]
        exact next _ _ ⟨by rw [e2, q2], by rw [e2, q3]⟩
theorem p_oneMore : j_oneMore := by
  intro a b w hJ
  show ∃ r w1 w2, f_X10_oneMore w a b = some (r, w1) ∧ f_X11_oneMore w1 a b = some (r, w2) ∧ Jn w2
  obtain ⟨tx, hL⟩ := lSt_of hJ
  obtain ⟨mn, st, N, hC, hM, -⟩ := PN_of hJ
  have h7 := hC.2.2.1
  have h8 := hC.2.2.2.1
  have hfit : fitP 1 a ↔ 0 ≤ a.toInt ∧ a.toInt ≤ 2 := by
    unfold fitP
    rw [show (1 : Int32).toInt.toNat = 1 by decide, show jlo 1 = 0 from rfl, show jhi 1 = 2 from rfl]
    have : (0 ≤ (1 : Int32).toInt ∧ (1 : Int32).toInt < 8) := by decide
    exact ⟨fun q => q.2, fun q => ⟨this, q⟩⟩
  by_cases ha : 0 ≤ a.toInt ∧ a.toInt ≤ 2
  · by_cases hb : 0 ≤ b.toInt ∧ b.toInt < 2
    · obtain ⟨kind, hq⟩ : ∃ s, s = a.toInt.toNat := ⟨_, rfl⟩
      have ea : a = nI kind := by rw [hq]; exact z_nI _ ha.1
      have hk : kind ≤ 2 := by omega
      obtain ⟨w1, e1, f1, hd⟩ := s_weigh hL hC (a := 0) (b := 11) (by omega) (by omega)
      have hC1 := PC_fr1 f1 hC
      have hL1 := lSt_fr1 f1 hL
      have hd1 : ∀ s h, s < st → h < 12 → dn tx mn N w1 s h := fun s h q1 q2 => hd s h q1 (by omega) (by omega)
      obtain ⟨w2, e2, f2⟩ := s_bestC kind 144 q_fuel 0 w1 0 2147483647 hL1 hC1 hd1 (by omega) (by rw [q_fuel_eq]; omega) (Or.inl ⟨rfl, rfl, rfl⟩)
      obtain ⟨P, hPd⟩ : ∃ P, P = arC (vB2 tx mn st N kind) 143 := ⟨_, rfl⟩
      have ok := arC_ok (vB2 tx mn st N kind) 143
      rw [← hPd] at e2 ok
      have cls : ∃ w4, f_X10_oneMore w a b = some (if b = 0 then nI P.1 else nI P.2, w4) ∧ fr1 w w4 := by
        unfold f_X10_oneMore f_X7_bestCell
        rw [p_fits_t (hfit.mpr ha), z_cl, if_neg n10, p_choice, z_cl, c2, bd_t hb.1 hb.2, if_neg n10, show f_X7_weigh w 0 11 = _ from e1, z_cl, ea, show f_X7_bestCell_R15 q_fuel w1 (nI kind) 0 2147483647 0 = _ from e2, z_cl]
        by_cases hz : b = 0
        · rw [if_pos hz, if_pos hz]
          exact ⟨w2, rfl, fr1_tr f1 (fr1_0 f2)⟩
        · rw [if_neg hz, if_neg hz]
          obtain ⟨w4, e4, f4⟩ := s_beside (lSt_fr f2 hL1) (PC_fr f2 hC1) (fun s h q1 q2 => dn_fr f2 (hd1 s h q1 q2)) kind P.1
          rw [← ok.2] at e4
          rw [e4, z_cl]
          exact ⟨w4, rfl, fr1_tr f1 (fr1_0 (fr0_tr f2 f4))⟩
      obtain ⟨w4, e4, f4⟩ := cls
      have hL4 := lSt_fr1 f4 hL
      have hM4 := PM_fr1 f4 hM
      have i6 := hM4.1
      obtain ⟨w0, hw0⟩ : ∃ w0, w0 = q_sA w4 49 (upd (upd (q_A w4 49) (8 + mn) (nI kind)) (16 + mn) 1) := ⟨_, rfl⟩
      have hPM : ∀ c B, c < 144 → (∀ i, i ≠ mn → B i = q_A w0 49 i) → PM mn (mn + 1) st (updM N mn kind c) (q_sA w0 49 (upd B mn (nI c))) := by
        intro c B hc hB
        obtain ⟨p1, p2, p3, p4, p5, p6⟩ := id hM4
        refine ⟨by rw [hw0]; exact p1, by rw [hw0]; exact p2, p3, p4, by omega, fun i hi => ?_⟩
        show upd B mn (nI c) i = nI (updM N mn kind c i) ∧ updM N mn kind c i ≤ hiN (i / 8)
        unfold updM updN
        unfold upd
        by_cases q0 : i = mn
        · rw [if_pos q0, if_pos q0, q0, show mn / 8 = 0 by omega]
          exact ⟨rfl, by show c ≤ 143; omega⟩
        · rw [if_neg q0, if_neg q0, hB i q0, hw0, g_AA, if_pos rfl]
          unfold upd
          by_cases q16 : i = 16 + mn
          · rw [if_pos q16, if_pos q16, q16, show (16 + mn) / 8 = 2 by omega]
            exact ⟨rfl, by show 1 ≤ 4; omega⟩
          · rw [if_neg q16, if_neg q16]
            by_cases q8 : i = 8 + mn
            · rw [if_pos q8, if_pos q8, q8, show (8 + mn) / 8 = 1 by omega]
              exact ⟨rfl, by show kind ≤ 2; omega⟩
            · rw [if_neg q8, if_neg q8]
              refine p6 i ?_
              rcases hi with ⟨z1, z2⟩ | ⟨z1, z2, z3⟩ | z1 | ⟨z1, z2, z3⟩
              · exact Or.inl ⟨z1, by omega⟩
              · exact Or.inr (Or.inl ⟨z1, z2, z3⟩)
              · exact Or.inr (Or.inr (Or.inl z1))
              · exact Or.inr (Or.inr (Or.inr ⟨z1, z2, z3⟩))
      have i60 : q_I w0 48 6 = nI mn := by rw [hw0]; exact i6
      have hL0 : lSt tx w0 := by rw [hw0]; exact lSt_sA hL4 49 _ (by omega)
      obtain ⟨w5, B2, e5, hB2, f5⟩ := m_one_R (tx := tx) (N := N) (kind := kind) hL0 hPM i60 h7 h8 b 144 q_fuel 0 w0 (q_A w0 49) 0 1000000 (fun _ _ => rfl) (by rw [sA_self]; exact fr0_rf _) (by omega) (by rw [q_fuel_eq]; omega) (Or.inl ⟨rfl, rfl, rfl⟩)
      rw [← hPd] at e5
      refine ⟨_, w4, w5, e4, ?_, ?_⟩
      · unfold f_X11_oneMore
        rw [p_within32, z_cl, d0, d2, bd_t ha.1 ha.2, if_neg n10, m_w01, z_cl, bd_t hb.1 hb.2, if_neg n10, i6, show (8 : Int32) + nI mn = nI (8 + mn) from nI_add 8 mn, st_lit _ _ _ _ _ _ (by omega) (by omega)]
        rw [show q_I (q_sA w4 49 (upd (q_A w4 49) (8 + mn) a)) 48 6 = nI mn from i6, show (16 : Int32) + nI mn = nI (16 + mn) from nI_add 16 mn, st_lit _ _ _ _ _ _ (by omega) (by omega), sA_two, g_AA, if_pos rfl, ea, ← hw0]
        exact e5
      · refine Jn_fr0 ?_ f5
        rw [hw0, sA_two]
        refine Jn_49 (Jn_fr1 hJ f4) (fun i hi => ?_)
        have t11 : (q_I w4 1 1).toInt = (mn : Int) := by rw [fr1_I f4 1 1 (by omega), hC.1, nI_toInt (by omega)]
        have hi2 : i ≠ mn ∧ i ≠ 8 + mn ∧ i ≠ 16 + mn := by
          rcases hi with ⟨z1, z2⟩ | ⟨z1, z2, z3⟩ | z1
          · rw [t11] at z2; omega
          · omega
          · omega
        rw [hB2 i hi2.1, hw0, g_AA, if_pos rfl]
        unfold upd
        rw [if_neg hi2.2.2, if_neg hi2.2.1]
    · refine ⟨-1, w, w, ?_, ?_, hJ⟩
      · unfold f_X10_oneMore
        rw [p_fits_t (hfit.mpr ha), z_cl, if_neg n10, p_choice, z_cl, c2, bd_f hb, if_pos rfl]
      · unfold f_X11_oneMore
        rw [p_within32, z_cl, d0, d2, bd_t ha.1 ha.2, if_neg n10, m_w01, z_cl, bd_f hb, if_pos rfl]
  · refine ⟨-1, w, w, ?_, ?_, hJ⟩
    · unfold f_X10_oneMore
      rw [p_fits_f (fun q => ha (hfit.mp q)), z_cl, if_pos rfl]
    · unfold f_X11_oneMore
      rw [p_within32, z_cl, d0, d2, bd_f ha, if_pos rfl]
