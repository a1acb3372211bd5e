/-! by turns: the class's last places -/
def apN (a b : Nat) : Nat := ((a % 12 - b % 12) + (b % 12 - a % 12)) + ((a / 12 - b / 12) + (b / 12 - a / 12))
theorem ab_12 : ∀ p : Nat, p < 12 → ∀ q : Nat, q < 12 → (if 0 ≤ nI p - nI q then nI p - nI q else 0 - (nI p - nI q)) = nI ((p - q) + (q - p)) := by decide +kernel
theorem r12 {a : Nat} (ha : a < 144) : q_rem (nI a) 12 = nI (a % 12) := i_rem (b := 12) (by omega) (by omega)
theorem d12n {a : Nat} (ha : a < 144) : nI a / 12 = nI (a / 12) := i_div (b := 12) (by omega) (by omega)
theorem s_apart (w : qW) {a b : Nat} (ha : a < 144) (hb : b < 144) : f_X9_apart w (nI a) (nI b) = some (nI (apN a b), w) := by
  unfold f_X9_apart
  rw [r12 ha, r12 hb, d12n ha, d12n hb, ab_12 _ (by omega) _ (by omega), ab_12 _ (by omega) _ (by omega), z_bn, z_bn, nI_add]
  rfl
theorem apN_le (a b : Nat) (ha : a < 144) (hb : b < 144) : apN a b ≤ 22 := by
  unfold apN
  omega
theorem apN_tri (a b c : Nat) : apN a c ≤ apN a b + apN b c := by
  unfold apN
  omega
theorem apN_0 (a : Nat) : apN a a = 0 := by
  unfold apN
  omega
theorem apN_stp : ∀ c : Nat, c < 144 → ∀ k : Nat, k < 5 → stOk c k = true → apN (stp c k) c ≤ 1 := by decide +kernel
theorem q_rf_T {β : Type} {id : Nat} (k : Nat → Option β) (h : id = 22 ∨ id = 23) : q_rf id 1728 k = k id := by
  unfold q_rf
  rcases h with h | h
  · subst h; rw [if_pos (show q_shp[22]? = some (Sum.inr (Sum.inl 1728)) from rfl)]
  · subst h; rw [if_pos (show q_shp[23]? = some (Sum.inr (Sum.inl 1728)) from rfl)]
theorem frC_T (w : qW) (o : Nat) (f : Nat → Int32) (ho : o = 22 ∨ o = 23) : frC w (q_sA w o f) := ⟨⟨fun _ => rfl, rfl, fun _ _ _ _ => rfl, fun p hp => by unfold scrB at hp; rw [g_AA, if_neg (by omega)]⟩, rfl⟩
theorem st_big {β : Type} (w : qW) (o n k : Nat) (v : Int32) (c : qW → Option β) (h : k < n) (hn : n < 100000) : q_st w o n (nI k) v c = c (q_sA w o (upd (q_A w o) k v)) := by
  rw [z_st _ _ _ _ _ _ (by rw [nI_toInt (by omega)]; omega), nI_toInt (by omega)]
  rfl
theorem ld_big {α β : Type} (f : Nat → α) (n k : Nat) (c : α → Option β) (h : k < n) (hn : n < 100000) : q_ld f n (nI k) c = c (f k) := by
  rw [z_ld _ _ _ _ (by rw [nI_toInt (by omega)]; omega), nI_toInt (by omega)]
  rfl
theorem n12c (c y : Nat) (hc : c < 144) (hy : y < 12) : (12 : Int32) * nI c + nI y = nI (12 * c + y) := by
  rw [show (12 : Int32) * nI c = nI (12 * c) from i_mul (a := 12) (by omega) (by omega) (by omega), nI_add]
def tF (w : qW) (id : Nat) (V : Nat → Nat) : Prop := ∀ j, j < 1728 → q_A w id j = nI (V j) ∧ V j < 4096
def mkV (mk : Nat → Bool) (x : Nat) (V : Nat → Nat) (i j : Nat) : Nat := if i ≤ j / 12 ∧ j % 12 = x / 12 ∧ mk (j / 12) = true then V j ||| 2 ^ (x % 12) else V j
theorem ms_R {tx : Option (List lw_Ln)} {mn st : Nat} {N : Nat → Nat} {m x h R fr kd id : Nat} {lacks : Int32} (hm : m < mn) (hx : x < 144) (hh : h < 12) (hR : R ≤ 100) (hfr : fr < 144) (hid : id = 22 ∨ id = 23) (mk : Nat → Bool) (hmk : ∀ c, c < 144 → mk c = (decide (apN c fr ≤ R) && decide (lacks ≤ nI (s5 tx (N 56) c kd (N (16 + m)) m x h)))) : ∀ (k F i : Nat) (w : qW) (V : Nat → Nat), lSt tx w → PC mn st N w → q_R w 21 2 = id → tF w id V → i + k = 144 → k < F → ∃ w2, f_X9_markSeat_R25 F w (nI m) (nI x) (nI h) (nI R) lacks (nI fr) (nI kd) (nI i) = some ((), w2) ∧ frC w w2 ∧ tF w2 id (mkV mk x V i)
  | 0, F + 1, i, w, V, hL, hP, hq, hV, h1, _ => by
    have hi : i = 144 := by omega
    subst hi
    refine ⟨w, ?_, frC_rf w, fun j hj => ?_⟩
    · show f_X9_markSeat_B25 (f_X9_markSeat_R25 F) w (nI m) (nI x) (nI h) (nI R) lacks (nI fr) (nI kd) (nI 144) = _
      unfold f_X9_markSeat_B25
      rw [if_pos (by decide)]
    · unfold mkV
      rw [if_neg (by omega)]
      exact hV j hj
  | k + 1, F + 1, i, w, V, hL, hP, hq, hV, h1, h2 => by
    have hap := apN_le i fr (by omega) hfr
    have skip : mk i = false → ∀ (w2 : qW), tF w2 id (mkV mk x V (i + 1)) → tF w2 id (mkV mk x V i) := by
      intro hf w2 h j hj
      have e : mkV mk x V i j = mkV mk x V (i + 1) j := by
        unfold mkV
        by_cases hc : i ≤ j / 12 ∧ j % 12 = x / 12 ∧ mk (j / 12) = true
        · have hne : j / 12 ≠ i := fun q => by rw [q, hf] at hc; exact no_ft hc.2.2
          rw [if_pos hc, if_pos ⟨by omega, hc.2⟩]
        · rw [if_neg hc, if_neg (fun q => hc ⟨by omega, q.2⟩)]
      rw [e]
      exact h j hj
    show ∃ w2, f_X9_markSeat_B25 (f_X9_markSeat_R25 F) w (nI m) (nI x) (nI h) (nI R) lacks (nI fr) (nI kd) (nI i) = _ ∧ _
    unfold f_X9_markSeat_B25 f_X9_markSeat_B88
    rw [if_neg (by rw [z_le, c144, nI_toInt (by omega)]; omega), s_apart w (by omega) hfr, z_cl]
    simp only [z_bn, nI_1]
    by_cases g1 : apN i fr ≤ R
    · rw [if_neg (by rw [z_lt, nI_toInt (by omega), nI_toInt (by omega)]; omega)]
      obtain ⟨w4, e4, f4⟩ := s_ifHe hL hP hm hh i kd x
      have hV4 : tF w4 id V := fun j hj => by rw [fr0_A f4 id (by omega)]; exact hV j hj
      have hq4 : q_R w4 21 2 = id := by rw [f4.1]; exact hq
      rw [e4, z_cl]
      by_cases g2 : nI (s5 tx (N 56) i kd (N (16 + m)) m x h) < lacks
      · have hf : mk i = false := by
          rw [hmk i (by omega), decide_eq_false (show ¬ lacks ≤ nI (s5 tx (N 56) i kd (N (16 + m)) m x h) by rw [z_le]; rw [z_lt] at g2; omega), Bool.and_false]
        obtain ⟨w2, a1, a2, a3⟩ := ms_R hm hx hh hR hfr hid mk hmk k F (i + 1) w4 V (lSt_fr f4 hL) (PC_fr f4 hP) hq4 hV4 (by omega) (by omega)
        rw [if_pos g2]
        exact ⟨w2, a1, frC_tr (frC_0 f4) a2, skip hf w2 a3⟩
      · have ht : mk i = true := by
          rw [hmk i (by omega), decide_eq_true g1, decide_eq_true (show lacks ≤ nI (s5 tx (N 56) i kd (N (16 + m)) m x h) by rw [z_le]; rw [z_lt] at g2; omega)]
          rfl
        have hv := hV4 (12 * i + x / 12) (by omega)
        have hp := p2_12 x
        obtain ⟨w9, hw9⟩ : ∃ w9, w9 = q_sA w4 id (upd (q_A w4 id) (12 * i + x / 12) (nI (V (12 * i + x / 12) ||| 2 ^ (x % 12)))) := ⟨_, rfl⟩
        have f9 : frC w w9 := frC_tr (frC_0 f4) (by rw [hw9]; exact frC_T w4 id _ hid)
        have hV9 : tF w9 id (fun j => if j = 12 * i + x / 12 then V j ||| 2 ^ (x % 12) else V j) := by
          intro j hj
          rw [hw9, g_AA, if_pos rfl]
          unfold upd
          by_cases hji : j = 12 * i + x / 12
          · rw [if_pos hji]
            simp only [if_pos hji]
            rw [hji]
            exact ⟨rfl, Nat.or_lt_two_pow (n := 12) hv.2 hp⟩
          · rw [if_neg hji]
            simp only [if_neg hji]
            exact hV4 j hj
        obtain ⟨w2, a1, a2, a3⟩ := ms_R hm hx hh hR hfr hid mk hmk k F (i + 1) w9 _ (lSt_frB f9.1 hL) (PC_frB f9.1 hP) (by rw [f9.2]; exact hq) hV9 (by omega) (by omega)
        rw [if_neg g2, hq4, q_rf_T _ hid, d12n hx, n12c i (x / 12) (by omega) (by omega), r12 hx, sh1p (x % 12) (by omega), ld_big _ _ _ _ (by omega) (by omega), hv.1, i_or (by omega) (by omega), st_big _ _ _ _ _ _ (by omega) (by omega), ← hw9]
        refine ⟨w2, a1, frC_tr f9 a2, fun j hj => ?_⟩
        have e : mkV mk x V i j = mkV mk x (fun j => if j = 12 * i + x / 12 then V j ||| 2 ^ (x % 12) else V j) (i + 1) j := by
          unfold mkV
          by_cases hji : j = 12 * i + x / 12
          · have hj12 : j / 12 = i := by omega
            rw [if_pos ⟨by omega, by omega, by rw [hj12]; exact ht⟩, if_neg (by omega)]
            simp only [if_pos hji]
          · simp only [if_neg hji]
            by_cases hc : i ≤ j / 12 ∧ j % 12 = x / 12 ∧ mk (j / 12) = true
            · rw [if_pos hc, if_pos ⟨by omega, hc.2⟩]
            · rw [if_neg hc, if_neg (fun q => hc ⟨by omega, q.2⟩)]
        rw [e]
        exact a3 j hj
    · have hf : mk i = false := by rw [hmk i (by omega), decide_eq_false g1]; rfl
      obtain ⟨w2, a1, a2, a3⟩ := ms_R hm hx hh hR hfr hid mk hmk k F (i + 1) w V hL hP hq hV (by omega) (by omega)
      rw [if_pos (by rw [z_lt, nI_toInt (by omega), nI_toInt (by omega)]; omega)]
      exact ⟨w2, a1, a2, skip hf w2 a3⟩
/-- whether the sitter is served, he in c, the sitter in x -/
def bsV (tx : Option (List lw_Ln)) (mn : Nat) (N : Nat → Nat) (m p h c x : Nat) : Bool := decide (N (48 + p) ≤ (sm (gv tx mn N x h) mn - gv tx mn N x h m) + s5 tx (N 56) c (N (8 + m)) (N (16 + m)) m x h)
theorem bsV_eq {tx : Option (List lw_Ln)} {mn : Nat} {N : Nat → Nat} {m p h c x : Nat} (h7 : mn ≤ 7) (hm : m < mn) (hp : p < 8) : svS tx (updN (updN N m c) (32 + p) x) (evb mn) p h = bsV tx mn N m p h c x := by
  unfold svS bsV
  rw [updN_y, updN_n (show 48 + p ≠ 32 + p by omega), updN_n (show 48 + p ≠ m by omega), evb_sm h7]
  have h1 := sm_chg (g := gv tx mn N x h) (g2 := gv tx mn (updN (updN N m c) (32 + p) x) x h) (m := m) (fun j hj => by
    unfold gv
    by_cases hjm : j < mn
    · rw [if_pos hjm, if_pos hjm]
      apply sN_congr
      · rw [updN_n (by omega), updN_n (by omega)]
      · rw [updN_n (by omega), updN_n (by omega)]
      · rw [updN_n (by omega), updN_n (by omega)]
      · rw [updN_n (by omega), updN_n (by omega)]
    · rw [if_neg hjm, if_neg hjm]) mn hm
  have h2 : gv tx mn (updN (updN N m c) (32 + p) x) x h m = s5 tx (N 56) c (N (8 + m)) (N (16 + m)) m x h := by
    unfold gv sN
    rw [if_pos hm, updN_n (show 56 ≠ 32 + p by omega), updN_n (show 56 ≠ m by omega), updN_n (show m ≠ 32 + p by omega), updN_y, updN_n (show 8 + m ≠ 32 + p by omega), updN_n (show 8 + m ≠ m by omega), updN_n (show 16 + m ≠ 32 + p by omega), updN_n (show 16 + m ≠ m by omega)]
  have h3 := gv_sm (g := gv tx mn N x h) mn m hm
  rw [h2] at h1
  rw [show sm (gv tx mn (updN (updN N m c) (32 + p) x) x h) mn = sm (gv tx mn N x h) mn - gv tx mn N x h m + s5 tx (N 56) c (N (8 + m)) (N (16 + m)) m x h by omega]
def lpB (tx : Option (List lw_Ln)) (mn : Nat) (N : Nat → Nat) (m p h R i c x : Nat) : Bool := decide (x < i ∧ apN x (N (32 + p)) ≤ R ∧ apN c (N m) ≤ R) && bsV tx mn N m p h c x
def lpV (tx : Option (List lw_Ln)) (mn : Nat) (N : Nat → Nat) (m p h R i : Nat) (V : Nat → Nat) : Prop := ∀ c x, c < 144 → x < 144 → (V (12 * c + x / 12)).testBit (x % 12) = lpB tx mn N m p h R i c x
theorem lp_R {tx : Option (List lw_Ln)} {mn st : Nat} {N : Nat → Nat} {m p h R id : Nat} (hm : m < mn) (hp : p < st) (hh : h < 12) (hR : R ≤ 100) (hid : id = 22 ∨ id = 23) : ∀ (k F i : Nat) (w : qW) (V : Nat → Nat), lSt tx w → PC mn st N w → q_R w 21 2 = id → tF w id V → lpV tx mn N m p h R i V → i + k = 144 → k < F → ∃ w2 V2, f_X9_lastPlaces_R11 F w (nI m) (nI p) (nI h) (nI R) (nI i) = some ((), w2) ∧ frC w w2 ∧ tF w2 id V2 ∧ lpV tx mn N m p h R 144 V2
  | 0, F + 1, i, w, V, hL, hP, hq, hV, hB, h1, _ => by
    have hi : i = 144 := by omega
    subst hi
    refine ⟨w, V, ?_, frC_rf w, hV, hB⟩
    show f_X9_lastPlaces_B11 (f_X9_lastPlaces_R11 F) w (nI m) (nI p) (nI h) (nI R) (nI 144) = _
    unfold f_X9_lastPlaces_B11
    rw [if_pos (by decide)]
  | k + 1, F + 1, i, w, V, hL, hP, hq, hV, hB, h1, h2 => by
    have h7 := hP.2.2.1
    have h8 := hP.2.2.2.1
    have hl := hiN_le hP hp
    have hN0 : N m ≤ 143 := by
      have := (hP.2.2.2.2 m (Or.inl ⟨by omega, by omega⟩)).2
      rw [show m / 8 = 0 by omega] at this
      exact this
    have hap := apN_le i (N (32 + p)) (by omega) (by omega)
    show ∃ w2 V2, f_X9_lastPlaces_B11 (f_X9_lastPlaces_R11 F) w (nI m) (nI p) (nI h) (nI R) (nI i) = _ ∧ _
    unfold f_X9_lastPlaces_B11 f_X9_lastPlaces_B85
    rw [if_neg (by rw [z_le, c144, nI_toInt (by omega)]; omega), show f_X4_get w (nI p) 4 = _ from s_get hP 4 (by omega) hp, z_cl, show 8 * 4 + p = 32 + p by omega, s_apart w (by omega) (by omega), z_cl]
    simp only [z_bn, nI_1]
    by_cases g1 : apN i (N (32 + p)) ≤ R
    · rw [if_neg (by rw [z_lt, nI_toInt (by omega), nI_toInt (by omega)]; omega)]
      obtain ⟨w6, e6, f6⟩ := s_byAll hL hP (cell := i) hh
      have hP6 := PC_fr f6 hP
      obtain ⟨w8, e8, f8⟩ := s_byMan (lSt_fr f6 hL) hP6 (m := m) (cell := i) (by omega) hh
      have f68 := fr0_tr f6 f8
      have hP8 := PC_fr f68 hP
      have hb := sm_le (g := gv tx mn N i h) (fun m => gv_le ..) mn
      have hb2 := gv_sm (g := gv tx mn N i h) mn m hm
      obtain ⟨O, hO⟩ : ∃ O, O = sm (gv tx mn N i h) mn - gv tx mn N i h m := ⟨_, rfl⟩
      have tl : (nI (N (48 + p)) - nI O).toInt = (N (48 + p) : Int) - (O : Int) := by
        rw [t_sub _ _ (by rw [nI_toInt (by omega), nI_toInt (by omega)]; omega) (by rw [nI_toInt (by omega), nI_toInt (by omega)]; omega), nI_toInt (by omega), nI_toInt (by omega)]
      have hmk : ∀ c, c < 144 → (decide (apN c (N m) ≤ R) && bsV tx mn N m p h c i) = (decide (apN c (N m) ≤ R) && decide (nI (N (48 + p)) - nI O ≤ nI (s5 tx (N 56) c (N (8 + m)) (N (16 + m)) m i h))) := by
        intro c _
        have h5 := s5_le tx (N 56) c (N (8 + m)) (N (16 + m)) m i h
        congr 1
        unfold bsV
        rw [← hO]
        by_cases hc : N (48 + p) ≤ O + s5 tx (N 56) c (N (8 + m)) (N (16 + m)) m i h
        · rw [decide_eq_true hc, decide_eq_true (by rw [z_le, tl, nI_toInt (by omega)]; omega)]
        · rw [decide_eq_false hc, decide_eq_false (by rw [z_le, tl, nI_toInt (by omega)]; omega)]
      obtain ⟨w13, a1, a2, a3⟩ := ms_R (tx := tx) (N := N) (kd := N (8 + m)) (lacks := nI (N (48 + p)) - nI O) hm (x := i) (by omega) hh hR (fr := N m) (by omega) hid (fun c => decide (apN c (N m) ≤ R) && bsV tx mn N m p h c i) hmk 144 q_fuel 0 w8 V (lSt_fr f68 hL) hP8 (by rw [f68.1]; exact hq) (fun j hj => by rw [fr0_A f68 id (by omega)]; exact hV j hj) (by omega) (by rw [q_fuel_eq]; omega)
      have f13 := frC_tr (frC_0 f68) a2
      have hB2 : lpV tx mn N m p h R (i + 1) (mkV (fun c => decide (apN c (N m) ≤ R) && bsV tx mn N m p h c i) i V 0) := by
        intro c x hc hx
        have b0 := hB c x hc hx
        unfold mkV
        rw [show (12 * c + x / 12) / 12 = c by omega, show (12 * c + x / 12) % 12 = x / 12 by omega]
        show (if 0 ≤ c ∧ x / 12 = i / 12 ∧ (decide (apN c (N m) ≤ R) && bsV tx mn N m p h c i) = true then V (12 * c + x / 12) ||| 2 ^ (i % 12) else V (12 * c + x / 12)).testBit (x % 12) = _
        unfold lpB at b0 ⊢
        by_cases hxi : x = i
        · subst hxi
          rw [decide_eq_false (by omega), Bool.false_and] at b0
          by_cases hz : apN c (N m) ≤ R
          · rw [decide_eq_true (show x < x + 1 ∧ apN x (N (32 + p)) ≤ R ∧ apN c (N m) ≤ R by omega), Bool.true_and]
            cases hv : bsV tx mn N m p h c x with
            | true =>
              rw [if_pos ⟨Nat.zero_le _, rfl, by rw [decide_eq_true hz]; rfl⟩, Nat.testBit_or, Nat.testBit_two_pow, decide_eq_true rfl, Bool.or_true]
            | false =>
              rw [if_neg (fun q => by have := q.2.2; rw [Bool.and_false] at this; exact no_ft this), b0]
          · rw [decide_eq_false (show ¬ (x < x + 1 ∧ apN x (N (32 + p)) ≤ R ∧ apN c (N m) ≤ R) by omega), Bool.false_and, if_neg (fun q => by have := q.2.2; rw [decide_eq_false hz] at this; exact no_ft this), b0]
        · have ed : decide (x < i + 1 ∧ apN x (N (32 + p)) ≤ R ∧ apN c (N m) ≤ R) = decide (x < i ∧ apN x (N (32 + p)) ≤ R ∧ apN c (N m) ≤ R) := by
            by_cases hz : x < i ∧ apN x (N (32 + p)) ≤ R ∧ apN c (N m) ≤ R
            · rw [decide_eq_true hz, decide_eq_true (by omega)]
            · rw [decide_eq_false hz, decide_eq_false (by omega)]
          rw [ed, ← b0]
          by_cases hz : 0 ≤ c ∧ x / 12 = i / 12 ∧ (decide (apN c (N m) ≤ R) && bsV tx mn N m p h c i) = true
          · rw [if_pos hz, Nat.testBit_or, Nat.testBit_two_pow, decide_eq_false (by omega), Bool.or_false]
          · rw [if_neg hz]
      obtain ⟨w2, V2, c1, c2, c3, c4⟩ := lp_R hm hp hh hR hid k F (i + 1) w13 _ (lSt_frB f13.1 hL) (PC_frB f13.1 hP) (by rw [f13.2]; exact hq) a3 hB2 (by omega) (by omega)
      refine ⟨w2, V2, ?_, frC_tr f13 c2, c3, c4⟩
      rw [e6, z_cl, e8, z_cl, i_sub hb2 (by omega), ← hO, show f_X4_get w8 (nI p) 6 = _ from s_get hP8 6 (by omega) hp, z_cl, show 8 * 6 + p = 48 + p by omega]
      unfold f_X9_markSeat
      rw [show f_X4_get w8 (nI m) 0 = _ from s_getm hP8 0 (by omega) hm, z_cl, show f_X4_get w8 (nI m) 1 = _ from s_getm hP8 1 (by omega) hm, z_cl, show 8 * 0 + m = m by omega, show 8 * 1 + m = 8 + m by omega, show f_X9_markSeat_R25 q_fuel w8 (nI m) (nI i) (nI h) (nI R) (nI (N (48 + p)) - nI O) (nI (N m)) (nI (N (8 + m))) 0 = _ from a1, z_cl]
      exact c1
    · have hB2 : lpV tx mn N m p h R (i + 1) V := by
        intro c x hc hx
        rw [hB c x hc hx]
        unfold lpB
        by_cases hxi : x = i
        · subst hxi
          rw [decide_eq_false (by omega), decide_eq_false (show ¬ (x < x + 1 ∧ apN x (N (32 + p)) ≤ R ∧ apN c (N m) ≤ R) by omega)]
        · by_cases hz : x < i ∧ apN x (N (32 + p)) ≤ R ∧ apN c (N m) ≤ R
          · rw [decide_eq_true hz, decide_eq_true (by omega)]
          · rw [decide_eq_false hz, decide_eq_false (by omega)]
      rw [if_pos (by rw [z_lt, nI_toInt (by omega), nI_toInt (by omega)]; omega)]
      exact lp_R hm hp hh hR hid k F (i + 1) w V hL hP hq hV hB2 (by omega) (by omega)
theorem s_lastPlaces {tx : Option (List lw_Ln)} {w : qW} {mn st : Nat} {N : Nat → Nat} {m p h R id : Nat} (hL : lSt tx w) (hP : PC mn st N w) (hq : q_R w 21 2 = id) (hm : m < mn) (hp : p < st) (hh : h < 12) (hR : R ≤ 100) (hid : id = 22 ∨ id = 23) : ∃ w2 V2, f_X9_lastPlaces w (nI m) (nI p) (nI h) (nI R) = some ((), w2) ∧ frC w w2 ∧ tF w2 id V2 ∧ lpV tx mn N m p h R 144 V2 := by
  obtain ⟨w4, hw4⟩ : ∃ w4, w4 = q_sA w id (fil (fun _ => 0) (q_A w id) 0 1728) := ⟨_, rfl⟩
  have f4 : frC w w4 := by rw [hw4]; exact frC_T w id _ hid
  obtain ⟨w2, V2, c1, c2, c3, c4⟩ := lp_R (tx := tx) (N := N) (h := h) hm hp hh hR hid 144 q_fuel 0 w4 (fun _ => 0) (lSt_frB f4.1 hL) (PC_frB f4.1 hP) (by rw [f4.2]; exact hq) (fun j hj => by
    rw [hw4, g_AA, if_pos rfl]
    unfold fil
    rw [if_pos (by omega)]
    exact ⟨rfl, by show 0 < 4096; omega⟩) (fun c x _ _ => by
    unfold lpB
    rw [decide_eq_false (by omega), Nat.zero_testBit]
    rfl) (by omega) (by rw [q_fuel_eq]; omega)
  refine ⟨w2, V2, ?_, frC_tr f4 c2, c3, c4⟩
  unfold f_X9_lastPlaces
  rw [hq, q_rf_T _ hid, s_fill 1728 id 0 (by omega) w, z_cl, ← hw4]
  exact c1
