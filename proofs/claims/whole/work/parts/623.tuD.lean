/-! by turns: what the class's rows are worth -/
theorem st0 : ∀ x : Nat, x < 144 → stOk x 0 = decide (12 ≤ x) ∧ (12 ≤ x → stp x 0 = x - 12) := by decide +kernel
theorem st1 : ∀ x : Nat, x < 144 → stOk x 1 = decide (x % 12 < 11) ∧ (x % 12 < 11 → stp x 1 = x + 1) := by decide +kernel
theorem st2 : ∀ x : Nat, x < 144 → stOk x 2 = decide (x < 132) ∧ (x < 132 → stp x 2 = x + 12) := by decide +kernel
theorem st3 : ∀ x : Nat, x < 144 → stOk x 3 = decide (0 < x % 12) ∧ (0 < x % 12 → stp x 3 = x - 1) := by decide +kernel
theorem bt_4095 {b : Nat} (hb : b < 12) : (4095 : Nat).testBit b = true := by
  rw [show (4095 : Nat) = 2 ^ 12 - 1 from rfl, Nat.testBit_two_pow_sub_one]
  exact decide_eq_true hb
theorem sit_bt {V : Nat → Nat} {c x : Nat} (hx : x < 144) : ((sitV V (12 * c + x / 12)).testBit (x % 12) = true) ↔ ∀ way, way < 5 → stOk x way = true → (V (12 * c + stp x way / 12)).testBit (stp x way % 12) = true := by
  have hb : x % 12 < 12 := by omega
  have hj : (12 * c + x / 12) % 12 = x / 12 := by omega
  obtain ⟨a0, b0⟩ := st0 x hx
  obtain ⟨a1, b1⟩ := st1 x hx
  obtain ⟨a2, b2⟩ := st2 x hx
  obtain ⟨a3, b3⟩ := st3 x hx
  obtain ⟨a4, b4⟩ := stp_4 hx
  have e3 : ((V (12 * c + x / 12) <<< 1 ||| 1).testBit (x % 12) = true) ↔ (0 < x % 12 → (V (12 * c + x / 12)).testBit (x % 12 - 1) = true) := by
    rw [Nat.testBit_or, Nat.testBit_shiftLeft, show (1 : Nat) = 2 ^ 0 from rfl, Nat.testBit_two_pow]
    by_cases h : 0 < x % 12
    · rw [decide_eq_true (show x % 12 ≥ 2 ^ 0 by rw [Nat.pow_zero]; omega), Bool.true_and, decide_eq_false (by omega), Bool.or_false, Nat.pow_zero]
      exact ⟨fun q _ => q, fun q => q h⟩
    · rw [decide_eq_true (show 0 = x % 12 by omega), Bool.or_true]
      exact ⟨fun _ q => absurd q h, fun _ => rfl⟩
  have e1 : ((V (12 * c + x / 12) >>> 1 ||| 2048).testBit (x % 12) = true) ↔ (x % 12 < 11 → (V (12 * c + x / 12)).testBit (x % 12 + 1) = true) := by
    rw [Nat.testBit_or, Nat.testBit_shiftRight, show (2048 : Nat) = 2 ^ 11 from rfl, Nat.testBit_two_pow, Nat.add_comm 1]
    by_cases h : x % 12 < 11
    · rw [decide_eq_false (show ¬ 11 = x % 12 by omega), Bool.or_false]
      exact ⟨fun q _ => q, fun q => q h⟩
    · rw [decide_eq_true (show 11 = x % 12 by omega), Bool.or_true]
      exact ⟨fun _ q => absurd q h, fun _ => rfl⟩
  have e0 : ((if x / 12 = 0 then 4095 else V (12 * c + x / 12 - 1)).testBit (x % 12) = true) ↔ (12 ≤ x → (V (12 * c + x / 12 - 1)).testBit (x % 12) = true) := by
    by_cases h : x / 12 = 0
    · rw [if_pos h]
      exact ⟨fun _ q => by omega, fun _ => bt_4095 hb⟩
    · rw [if_neg h]
      exact ⟨fun q _ => q, fun q => q (by omega)⟩
  have e2 : ((if 11 ≤ x / 12 then 4095 else V (12 * c + x / 12 + 1)).testBit (x % 12) = true) ↔ (x < 132 → (V (12 * c + x / 12 + 1)).testBit (x % 12) = true) := by
    by_cases h : 11 ≤ x / 12
    · rw [if_pos h]
      exact ⟨fun _ q => by omega, fun _ => bt_4095 hb⟩
    · rw [if_neg h]
      exact ⟨fun q _ => q, fun q => q (by omega)⟩
  unfold sitV
  rw [hj, Nat.testBit_and, Nat.testBit_and, Nat.testBit_and, Nat.testBit_and, Bool.and_eq_true, Bool.and_eq_true, Bool.and_eq_true, Bool.and_eq_true, e0, e1, e2, e3]
  constructor
  · rintro ⟨⟨⟨⟨q4, q3⟩, q1⟩, q0⟩, q2⟩ way hw hok
    have hway : way = 0 ∨ way = 1 ∨ way = 2 ∨ way = 3 ∨ way = 4 := by omega
    rcases hway with rfl | rfl | rfl | rfl | rfl
    · rw [a0] at hok
      have h := of_decide_eq_true hok
      rw [b0 h, show (x - 12) / 12 = x / 12 - 1 by omega, show (x - 12) % 12 = x % 12 by omega, show 12 * c + (x / 12 - 1) = 12 * c + x / 12 - 1 by omega]
      exact q0 h
    · rw [a1] at hok
      have h := of_decide_eq_true hok
      rw [b1 h, show (x + 1) / 12 = x / 12 by omega, show (x + 1) % 12 = x % 12 + 1 by omega]
      exact q1 h
    · rw [a2] at hok
      have h := of_decide_eq_true hok
      rw [b2 h, show (x + 12) / 12 = x / 12 + 1 by omega, show (x + 12) % 12 = x % 12 by omega]
      exact q2 h
    · rw [a3] at hok
      have h := of_decide_eq_true hok
      rw [b3 h, show (x - 1) / 12 = x / 12 by omega, show (x - 1) % 12 = x % 12 - 1 by omega]
      exact q3 h
    · rw [b4]
      exact q4
  · intro q
    refine ⟨⟨⟨⟨?_, fun h => ?_⟩, fun h => ?_⟩, fun h => ?_⟩, fun h => ?_⟩
    · have := q 4 (by omega) a4
      rw [b4] at this
      exact this
    · have := q 3 (by omega) (by rw [a3]; exact decide_eq_true h)
      rw [b3 h, show (x - 1) / 12 = x / 12 by omega, show (x - 1) % 12 = x % 12 - 1 by omega] at this
      exact this
    · have := q 1 (by omega) (by rw [a1]; exact decide_eq_true h)
      rw [b1 h, show (x + 1) / 12 = x / 12 by omega, show (x + 1) % 12 = x % 12 + 1 by omega] at this
      exact this
    · have := q 0 (by omega) (by rw [a0]; exact decide_eq_true h)
      rw [b0 h, show (x - 12) / 12 = x / 12 - 1 by omega, show (x - 12) % 12 = x % 12 by omega, show 12 * c + (x / 12 - 1) = 12 * c + x / 12 - 1 by omega] at this
      exact this
    · have := q 2 (by omega) (by rw [a2]; exact decide_eq_true h)
      rw [b2 h, show (x + 12) / 12 = x / 12 + 1 by omega, show (x + 12) % 12 = x % 12 by omega] at this
      exact this
theorem updN_yy (N : Nat → Nat) (x u v : Nat) : updN (updN N x u) x v = updN N x v := by
  funext i
  unfold updN
  by_cases h : i = x
  · rw [if_pos h, if_pos h]
  · rw [if_neg h, if_neg h, if_neg h]
theorem updN_sw (N : Nat → Nat) {x y : Nat} (h : x ≠ y) (u v : Nat) : updN (updN N x u) y v = updN (updN N y v) x u := by
  funext i
  unfold updN
  by_cases h1 : i = x
  · rw [if_neg (by omega), if_pos h1, if_pos h1]
  · rw [if_neg h1, if_neg h1]
theorem updN_id (N : Nat → Nat) (x : Nat) : updN N x (N x) = N := by
  funext i
  unfold updN
  by_cases h : i = x
  · rw [if_pos h, h]
  · rw [if_neg h]
def exV (tx : Option (List lw_Ln)) (mn m p h : Nat) (N : Nat → Nat) (n j : Nat) (V : Nat → Nat) : Prop := ∀ c x, c < 144 → x < 144 → apN c (N m) ≤ (j + 1) / 2 → apN x (N (32 + p)) ≤ j / 2 → (V (12 * c + x / 12)).testBit (x % 12) = vl tx mn m p h (n - j) j (updN (updN N m c) (32 + p) x)
theorem ex_n {tx : Option (List lw_Ln)} {mn m p h n : Nat} {N V : Nat → Nat} (h7 : mn ≤ 7) (hm : m < mn) (hp : p < 8) (hV : lpV tx mn N m p h ((n + 1) / 2) 144 V) : exV tx mn m p h N n n V := by
  intro c x hc hx h1 h2
  rw [hV c x hc hx, Nat.sub_self]
  unfold lpB
  rw [decide_eq_true (show x < 144 ∧ apN x (N (32 + p)) ≤ (n + 1) / 2 ∧ apN c (N m) ≤ (n + 1) / 2 by omega), Bool.true_and]
  exact (bsV_eq h7 hm hp).symm
theorem ex_sit {tx : Option (List lw_Ln)} {mn m p h n j : Nat} {N V : Nat → Nat} (hm : m < 8) (hj : j % 2 = 1) (hjn : j < n) (hV : exV tx mn m p h N n (j + 1) V) : exV tx mn m p h N n j (sitV V) := by
  intro c x hc hx h1 h2
  apply Bool.eq_iff_iff.mpr
  rw [sit_bt hx]
  obtain ⟨r, hr⟩ : ∃ r, n - j = r + 1 := ⟨n - j - 1, by omega⟩
  rw [hr]
  have ev : vl tx mn m p h (r + 1) j (updN (updN N m c) (32 + p) x) = !fnd (fun way => stOk x way && !vl tx mn m p h r (j + 1) (updN (updN N m c) (32 + p) (stp x way))) 5 0 := by
    show (if j % 2 = 0 then _ else _) = _
    rw [if_neg (by omega), updN_y]
    simp only [updN_yy]
  rw [ev]
  have key : ∀ way, way < 5 → stOk x way = true → (V (12 * c + stp x way / 12)).testBit (stp x way % 12) = vl tx mn m p h r (j + 1) (updN (updN N m c) (32 + p) (stp x way)) := by
    intro way hw hok
    have t1 := (stp_t hx hw hok).2
    have t2 := apN_stp x hx way hw hok
    have t3 := apN_tri (stp x way) x (N (32 + p))
    have := hV c (stp x way) hc t1 (by omega) (by omega)
    rw [show n - (j + 1) = r by omega] at this
    exact this
  constructor
  · intro q
    cases hf : fnd (fun way => stOk x way && !vl tx mn m p h r (j + 1) (updN (updN N m c) (32 + p) (stp x way))) 5 0 with
    | false => rfl
    | true =>
      obtain ⟨way, g1, g2, g3⟩ := (fnd_iff _ 5 0).mp hf
      have g3 : (stOk x way && !vl tx mn m p h r (j + 1) (updN (updN N m c) (32 + p) (stp x way))) = true := g3
      rw [Bool.and_eq_true] at g3
      have := q way (by omega) g3.1
      rw [key way (by omega) g3.1] at this
      rw [this] at g3
      exact no_ft g3.2
  · intro q way hw hok
    rw [key way hw hok]
    cases hv : vl tx mn m p h r (j + 1) (updN (updN N m c) (32 + p) (stp x way)) with
    | true => rfl
    | false =>
      have : fnd (fun way => stOk x way && !vl tx mn m p h r (j + 1) (updN (updN N m c) (32 + p) (stp x way))) 5 0 = true := (fnd_iff _ 5 0).mpr ⟨way, by omega, by omega, by show (stOk x way && !vl tx mn m p h r (j + 1) (updN (updN N m c) (32 + p) (stp x way))) = true; rw [hok, hv]; rfl⟩
      rw [this] at q
      exact no_ft q
theorem ex_man {tx : Option (List lw_Ln)} {mn m p h n j : Nat} {N V : Nat → Nat} (hm : m < 8) (hj : j % 2 = 0) (hjn : j < n) (hV : exV tx mn m p h N n (j + 1) V) : exV tx mn m p h N n j (manV (N m) ((n + 1) / 2) V) := by
  intro c x hc hx h1 h2
  apply Bool.eq_iff_iff.mpr
  unfold manV
  rw [show (12 * c + x / 12) / 12 = c by omega, show (12 * c + x / 12) % 12 = x / 12 by omega, orV_bt]
  obtain ⟨r, hr⟩ : ∃ r, n - j = r + 1 := ⟨n - j - 1, by omega⟩
  rw [hr]
  have ev : vl tx mn m p h (r + 1) j (updN (updN N m c) (32 + p) x) = fnd (fun way => stOk c way && vl tx mn m p h r (j + 1) (updN (updN N m (stp c way)) (32 + p) x)) 5 0 := by
    show (if j % 2 = 0 then _ else _) = _
    rw [if_pos hj, updN_n (show m ≠ 32 + p by omega), updN_y]
    have e : ∀ u, updN (updN (updN N m c) (32 + p) x) m u = updN (updN N m u) (32 + p) x := by
      intro u
      rw [updN_sw N (show m ≠ 32 + p by omega) c x, updN_yy, updN_sw N (show m ≠ 32 + p by omega) u x]
    simp only [e]
  rw [ev, fnd_iff]
  have key : ∀ way, way < 5 → stOk c way = true → (manF (N m) ((n + 1) / 2) V c (x / 12) way).testBit (x % 12) = vl tx mn m p h r (j + 1) (updN (updN N m (stp c way)) (32 + p) x) := by
    intro way hw hok
    have t1 := (stp_t hc hw hok).2
    have t2 := apN_stp c hc way hw hok
    have t3 := apN_tri (stp c way) c (N m)
    have := hV (stp c way) x t1 hx (by omega) (by omega)
    rw [show n - (j + 1) = r by omega] at this
    unfold manF
    rw [hok, decide_eq_true (show apN (stp c way) (N m) ≤ (n + 1) / 2 by omega)]
    exact this
  constructor
  · rintro ⟨way, hw, q⟩
    cases hok : stOk c way with
    | true =>
      rw [key way hw hok] at q
      exact ⟨way, by omega, by omega, by show (stOk c way && vl tx mn m p h r (j + 1) (updN (updN N m (stp c way)) (32 + p) x)) = true; rw [hok, q]; rfl⟩
    | false =>
      unfold manF at q
      rw [hok, Bool.false_and, if_neg (show ¬ false = true by decide), Nat.zero_testBit] at q
      exact no_ft q
  · rintro ⟨way, g1, g2, g3⟩
    have g3 : (stOk c way && vl tx mn m p h r (j + 1) (updN (updN N m (stp c way)) (32 + p) x)) = true := g3
    rw [Bool.and_eq_true] at g3
    exact ⟨way, by omega, by rw [key way (by omega) g3.1]; exact g3.2⟩
theorem frB_R21 (w : qW) (k v : Nat) : frB w (q_sR w 21 k v) := ⟨fun k2 => by rw [g_RR, if_neg (by omega)], rfl, fun _ _ _ _ => rfl, fun _ _ => rfl⟩
theorem sw_76 {w : qW} {a b : Nat} (ha : prs a b) (h2 : q_R w 21 2 = a) (h3 : q_R w 21 3 = b) (B : Nat → Int32) (k45 : qW → Int32 → Int32 → Int32 → Int32 → Option (Int32 × qW)) (l5 l6 l7 : Int32) (mv : Nat) (hmv : mv < 1000) : ∃ w6, f_X9_winningStep_B76 k45 (q_sA w b B) l5 l6 l7 (nI (mv + 1)) = k45 w6 l5 l6 l7 (nI mv) ∧ frB w w6 ∧ q_R w6 21 2 = b ∧ q_R w6 21 3 = a ∧ q_A w6 b = B := by
  have r2 : q_R (q_sA w b B) 21 2 = a := h2
  have r3 : q_R (q_sA w b B) 21 3 = b := h3
  refine ⟨q_sR (q_sR (q_sA w b B) 21 2 b) 21 3 a, ?_, frB_tr (frC_T w b B (prs_b ha)).1 (frB_tr (frB_R21 _ 2 b) (frB_R21 _ 3 a)), rfl, rfl, ?_⟩
  · unfold f_X9_winningStep_B76
    rw [r2, q_rf_T _ (prs_a ha), r3, q_rf_T _ (prs_b ha), z_bn, z_bn, z_bn, nI_m1 mv hmv]
  · show q_A (q_sA w b B) b = B
    rw [g_AA, if_pos rfl]
theorem wi_R {tx : Option (List lw_Ln)} {mn m p h n : Nat} {N : Nat → Nat} (hm : m < 8) (hfr : N m < 144) (hn : n ≤ 4) (seat : Int32) : ∀ (mv F : Nat) (w : qW) (a b : Nat) (V : Nat → Nat), prs a b → q_R w 21 2 = a → q_R w 21 3 = b → tR (N m) ((n + 1) / 2) (q_A w a) V → exV tx mn m p h N n (mv + 1) V → mv + 1 ≤ n → mv < F → ∃ w2 a2 b2 V2, f_X9_winningStep_R45 F w (nI (N m)) seat (nI ((n + 1) / 2)) (nI mv) = f_X9_winningStep_R115 q_fuel w2 (nI (N m)) seat (nI 5) 0 ∧ frB w w2 ∧ prs a2 b2 ∧ q_R w2 21 2 = a2 ∧ q_R w2 21 3 = b2 ∧ tR (N m) ((n + 1) / 2) (q_A w2 a2) V2 ∧ exV tx mn m p h N n 1 V2
  | 0, F + 1, w, a, b, V, ha, h2, h3, hV, hE, _, _ => by
    refine ⟨w, a, b, V, ?_, frB_rf w, ha, h2, h3, hV, hE⟩
    show f_X9_winningStep_B45 (f_X9_winningStep_R45 F) w (nI (N m)) seat (nI ((n + 1) / 2)) (nI 0) = _
    unfold f_X9_winningStep_B45
    rw [if_pos (by decide), z_bn]
    rfl
  | mv + 1, F + 1, w, a, b, V, ha, h2, h3, hV, hE, hmn, hF => by
    have hrem : q_rem (nI (mv + 1)) 2 = nI ((mv + 1) % 2) := i_rem (b := 2) (by omega) (by omega)
    have ha2 : prs b a := by unfold prs at ha ⊢; omega
    have qself : q_sA w b (q_A w b) = w := sA_self w b
    show ∃ w2 a2 b2 V2, f_X9_winningStep_B45 (f_X9_winningStep_R45 F) w (nI (N m)) seat (nI ((n + 1) / 2)) (nI (mv + 1)) = _ ∧ _
    unfold f_X9_winningStep_B45
    rw [if_neg (by rw [z_le, c0, nI_toInt (by omega)]; omega), hrem]
    by_cases hp2 : (mv + 1) % 2 = 0
    · obtain ⟨B2, e1, -, e3⟩ := mm_out ha h2 h3 hV hfr (by omega) 144 q_fuel 0 (q_A w b) (by omega) (by rw [q_fuel_eq]; omega)
      rw [qself] at e1
      obtain ⟨w6, s1, s2, s3, s4, s5⟩ := sw_76 ha h2 h3 B2 (f_X9_winningStep_R45 F) (nI (N m)) seat (nI ((n + 1) / 2)) mv (by omega)
      have hV6 : tR (N m) ((n + 1) / 2) (q_A w6 b) (manV (N m) ((n + 1) / 2) V) := by
        intro c y hc hd hy
        rw [s5]
        refine ⟨e3 c y (by omega) hc hd hy, ?_⟩
        unfold manV
        rw [show (12 * c + y) / 12 = c by omega, show (12 * c + y) % 12 = y by omega]
        exact orV_lt 5 (fun i hi => manF_lt hV hc hy hi)
      obtain ⟨w2, a2, b2, V2, g1, g2, g3⟩ := wi_R hm hfr hn seat mv F w6 b a _ ha2 s3 s4 hV6 (ex_man hm hp2 (by omega) hE) (by omega) (by omega)
      refine ⟨w2, a2, b2, V2, ?_, frB_tr s2 g2, g3⟩
      rw [hp2, if_pos nI_0]
      unfold f_X9_manMoves
      rw [show f_X9_manMoves_R2 q_fuel w (nI (N m)) (nI ((n + 1) / 2)) 0 = _ from e1, z_cl, s1]
      exact g1
    · obtain ⟨B2, e1, -, e3⟩ := si_out ha h2 h3 hV hfr (by omega) 144 q_fuel 0 (q_A w b) (by omega) (by rw [q_fuel_eq]; omega)
      rw [qself] at e1
      obtain ⟨w6, s1, s2, s3, s4, s5⟩ := sw_76 ha h2 h3 B2 (f_X9_winningStep_R45 F) (nI (N m)) seat (nI ((n + 1) / 2)) mv (by omega)
      have hV6 : tR (N m) ((n + 1) / 2) (q_A w6 b) (sitV V) := by
        intro c y hc hd hy
        rw [s5]
        refine ⟨e3 c y (by omega) hc hd hy, ?_⟩
        have := sitV_le V (12 * c + y)
        have := (hV c y hc hd hy).2
        omega
      obtain ⟨w2, a2, b2, V2, g1, g2, g3⟩ := wi_R hm hfr hn seat mv F w6 b a _ ha2 s3 s4 hV6 (ex_sit hm (by omega) (by omega) hE) (by omega) (by omega)
      refine ⟨w2, a2, b2, V2, ?_, frB_tr s2 g2, g3⟩
      rw [if_neg (by rw [z_eq, c0, nI_toInt (by omega)]; omega)]
      unfold f_X9_sitterMoves
      rw [show f_X9_sitterMoves_R2 q_fuel w (nI (N m)) (nI ((n + 1) / 2)) 0 = _ from e1, z_cl, s1]
      exact g1
def ordW : Nat → Nat
  | 0 => 4
  | j + 1 => j
theorem qT_ord : ∀ i : Nat, i < 5 → q_T 2 i = nI (ordW i) ∧ ordW i < 5 := by decide +kernel
def fsW (f : Nat → Bool) : Nat → Nat → Int32
  | 0, _ => -1
  | k + 1, i => if f (ordW i) then nI (ordW i) else fsW f k (i + 1)
theorem ws_way {w : qW} {fr R seat a : Nat} {V : Nat → Nat} (h2 : q_R w 21 2 = a) (ha : a = 22 ∨ a = 23) (hV : tR fr R (q_A w a) V) (hfr : fr < 144) (hseat : seat < 144) (hR : 1 ≤ R) : ∀ (k F i : Nat), i + k = 5 → k < F → f_X9_winningStep_R115 F w (nI fr) (nI seat) (nI 5) (nI i) = some (fsW (fun way => stOk fr way && (V (12 * stp fr way + seat / 12)).testBit (seat % 12)) k i, w)
  | 0, F + 1, i, h1, _ => by
    show f_X9_winningStep_B115 (f_X9_winningStep_R115 F) w (nI fr) (nI seat) (nI 5) (nI i) = some (-1, w)
    unfold f_X9_winningStep_B115
    rw [if_pos (nI_le (by omega) (by omega))]
  | k + 1, F + 1, i, h1, hF => by
    obtain ⟨t1, t2⟩ := qT_ord i (by omega)
    have ih := ws_way h2 ha hV hfr hseat hR k F (i + 1) (by omega) (by omega)
    show f_X9_winningStep_B115 (f_X9_winningStep_R115 F) w (nI fr) (nI seat) (nI 5) (nI i) = some (if (stOk fr (ordW i) && (V (12 * stp fr (ordW i) + seat / 12)).testBit (seat % 12)) = true then nI (ordW i) else fsW _ k (i + 1), w)
    unfold f_X9_winningStep_B115 f_X9_winningStep_B173
    rw [if_neg (nI_ge (by omega) (by omega)), ld_lit _ _ _ _ (show i < q_Tn 2 by show i < 5; omega) (by omega), t1, p_cellAfter, z_cl]
    simp only [z_bn, nI_1]
    cases ho : stOk fr (ordW i) with
    | false =>
      rw [stp_f hfr t2 ho, if_pos (by decide), Bool.false_and, if_neg (show ¬ false = true by decide)]
      exact ih
    | true =>
      obtain ⟨e1, e2⟩ := stp_t hfr t2 ho
      have e3 := apN_stp fr hfr (ordW i) t2 ho
      have hv := hV (stp fr (ordW i)) (seat / 12) e2 (by omega) (by omega)
      rw [e1, if_neg (nI_pos (by omega)), h2, q_rf_T _ ha, d12n hseat, n12c _ _ e2 (by omega), ld_big _ _ _ _ (by omega) (by omega), hv.1, r12 hseat, bt_12 hv.2 (by omega), Bool.true_and]
      cases hb : (V (12 * stp fr (ordW i) + seat / 12)).testBit (seat % 12) with
      | false =>
        rw [if_neg (show ¬ false = true by decide), if_pos (by decide), if_neg (show ¬ false = true by decide)]
        exact ih
      | true =>
        rw [if_pos rfl, if_neg (by decide), if_pos rfl]
theorem fsW_congr {f g : Nat → Bool} (h : ∀ i, i < 5 → f i = g i) : ∀ k i, i + k ≤ 5 → fsW f k i = fsW g k i
  | 0, _, _ => rfl
  | k + 1, i, hk => by
    have t := (qT_ord i (by omega)).2
    show (if f (ordW i) then nI (ordW i) else fsW f k (i + 1)) = (if g (ordW i) then nI (ordW i) else fsW g k (i + 1))
    rw [h _ t, fsW_congr h k (i + 1) (by omega)]
theorem s_winning {tx : Option (List lw_Ln)} {w : qW} {mn st : Nat} {N : Nat → Nat} {m p h n : Nat} (hL : lSt tx w) (hP : PC mn st N w) (hR : jR w) (hm : m < mn) (hp : p < st) (hh : h < 12) (hn1 : 1 ≤ n) (hn : n ≤ 4) : ∃ w2, f_X9_winningStep w (nI m) (nI p) (nI h) (nI n) = some (fsW (fun way => stOk (N m) way && vl tx mn m p h (n - 1) 1 (updN N m (stp (N m) way))) 5 0, w2) ∧ frB w w2 ∧ jR w2 := by
  have h7 := hP.2.2.1
  have h8 := hP.2.2.2.1
  have hl := hiN_le hP hp
  have hN0 : N m ≤ 143 := by
    have := (hP.2.2.2.2 m (Or.inl ⟨by omega, by omega⟩)).2
    rw [show m / 8 = 0 by omega] at this
    exact this
  obtain ⟨a, b, ha, h2, h3⟩ : ∃ a b, prs a b ∧ q_R w 21 2 = a ∧ q_R w 21 3 = b := by
    rcases hR with ⟨q1, q2⟩ | ⟨q1, q2⟩
    · exact ⟨22, 23, Or.inl ⟨rfl, rfl⟩, q1, q2⟩
    · exact ⟨23, 22, Or.inr ⟨rfl, rfl⟩, q1, q2⟩
  obtain ⟨w7, V, e7, f7, v7, b7⟩ := s_lastPlaces (R := (n + 1) / 2) hL hP h2 hm hp hh (by omega) (prs_a ha)
  have hV7 : tR (N m) ((n + 1) / 2) (q_A w7 a) V := fun c y hc _ hy => v7 (12 * c + y) (by omega)
  obtain ⟨w2, a2, b2, V2, g1, g2, g3, g4, g5, g6, g7⟩ := wi_R (tx := tx) (mn := mn) (h := h) (m := m) (p := p) (N := N) (by omega) (by omega) hn (nI (N (32 + p))) (n - 1) q_fuel w7 a b V ha (by rw [f7.2]; exact h2) (by rw [f7.2]; exact h3) hV7 (by rw [show n - 1 + 1 = n by omega]; exact ex_n h7 hm (by omega) b7) (by omega) (by rw [q_fuel_eq]; omega)
  have e5 := ws_way g4 (prs_a g3) g6 (seat := N (32 + p)) (by omega) (by omega) (by omega) 5 q_fuel 0 (by omega) (by rw [q_fuel_eq]; omega)
  have ec : fsW (fun way => stOk (N m) way && (V2 (12 * stp (N m) way + N (32 + p) / 12)).testBit (N (32 + p) % 12)) 5 0 = fsW (fun way => stOk (N m) way && vl tx mn m p h (n - 1) 1 (updN N m (stp (N m) way))) 5 0 := by
    apply fsW_congr _ 5 0 (by omega)
    intro way hw
    show (stOk (N m) way && _) = (stOk (N m) way && _)
    cases ho : stOk (N m) way with
    | false => rfl
    | true =>
      have t1 := (stp_t (show N m < 144 by omega) hw ho).2
      have t2 := apN_stp (N m) (by omega) way hw ho
      have t3 := apN_0 (N (32 + p))
      have := g7 (stp (N m) way) (N (32 + p)) t1 (by omega) (by omega) (by omega)
      rw [this]
      have eu : updN (updN N m (stp (N m) way)) (32 + p) (N (32 + p)) = updN N m (stp (N m) way) := by
        have := updN_id (updN N m (stp (N m) way)) (32 + p)
        rw [updN_n (show 32 + p ≠ m by omega)] at this
        exact this
      rw [eu]
  rw [ec] at e5
  refine ⟨w2, ?_, frB_tr f7.1 g2, ?_⟩
  · unfold f_X9_winningStep
    rw [show f_X4_get w (nI m) 0 = _ from s_getm hP 0 (by omega) hm, z_cl, show f_X4_get w (nI p) 4 = _ from s_get hP 4 (by omega) hp, z_cl, show 8 * 0 + m = m by omega, show 8 * 4 + p = 32 + p by omega, nI_1, show nI (n + 1) / 2 = nI ((n + 1) / 2) from i_div (b := 2) (by omega) (by omega), z_bn, e7, z_cl, z_bn, show nI n - 1 = nI (n - 1) from i_sub (b := 1) (by omega) (by omega), g1]
    exact e5
  · unfold prs at g3
    unfold jR
    rw [g4, g5]
    exact g3
