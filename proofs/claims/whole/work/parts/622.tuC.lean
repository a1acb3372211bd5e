/-! by turns: the class's moves -/
def tR (fr R : Nat) (A : Nat → Int32) (V : Nat → Nat) : Prop := ∀ c y, c < 144 → apN c fr ≤ R → y < 12 → A (12 * c + y) = nI (V (12 * c + y)) ∧ V (12 * c + y) < 4096
theorem shl1a : ∀ a : Nat, a < 64 → ∀ b : Nat, b < 64 → nI (64 * a + b) <<< ((1 : Int32) &&& 31) = nI ((64 * a + b) <<< 1) := by decide +kernel
theorem shl1 {v : Nat} (hv : v < 4096) : nI v <<< ((1 : Int32) &&& 31) = nI (v <<< 1) := by
  have := shl1a (v / 64) (by omega) (v % 64) (by omega)
  rw [show 64 * (v / 64) + v % 64 = v by omega] at this
  exact this
theorem shr1a : ∀ a : Nat, a < 64 → ∀ b : Nat, b < 64 → nI (64 * a + b) >>> ((1 : Int32) &&& 31) = nI ((64 * a + b) >>> 1) := by decide +kernel
theorem shr1 {v : Nat} (hv : v < 4096) : nI v >>> ((1 : Int32) &&& 31) = nI (v >>> 1) := by
  have := shr1a (v / 64) (by omega) (v % 64) (by omega)
  rw [show 64 * (v / 64) + v % 64 = v by omega] at this
  exact this
def sitV (V : Nat → Nat) (j : Nat) : Nat := (((V j &&& (V j <<< 1 ||| 1)) &&& (V j >>> 1 ||| 2048)) &&& (if j % 12 = 0 then 4095 else V (j - 1))) &&& (if 11 ≤ j % 12 then 4095 else V (j + 1))
theorem sitV_le (V : Nat → Nat) (j : Nat) : sitV V j ≤ V j := Nat.le_trans Nat.and_le_left (Nat.le_trans Nat.and_le_left (Nat.le_trans Nat.and_le_left Nat.and_le_left))
def prs (a b : Nat) : Prop := (a = 22 ∧ b = 23) ∨ (a = 23 ∧ b = 22)
theorem prs_a {a b : Nat} (h : prs a b) : a = 22 ∨ a = 23 := by unfold prs at h; omega
theorem prs_b {a b : Nat} (h : prs a b) : b = 22 ∨ b = 23 := by unfold prs at h; omega
theorem prs_n {a b : Nat} (h : prs a b) : a ≠ b := by unfold prs at h; omega
theorem si_in {w : qW} {fr R a b c : Nat} {V : Nat → Nat} (ha : prs a b) (h2 : q_R w 21 2 = a) (h3 : q_R w 21 3 = b) (hV : tR fr R (q_A w a) V) (hc : c < 144) (hd : apN c fr ≤ R) (k2 : qW → Int32 → Int32 → Int32 → Option (Unit × qW)) : ∀ (k F y : Nat) (B : Nat → Int32), y + k = 12 → k < F → ∃ B2, f_X9_sitterMoves_R24 k2 F (q_sA w b B) (nI fr) (nI R) (nI c) (nI y) = k2 (q_sA w b B2) (nI fr) (nI R) (nI (c + 1)) ∧ ∀ j, B2 j = if 12 * c + y ≤ j ∧ j < 12 * c + 12 then nI (sitV V j) else B j
  | 0, F + 1, y, B, h1, _ => by
    have hy : y = 12 := by omega
    subst hy
    refine ⟨B, ?_, fun j => by rw [if_neg (by omega)]⟩
    show f_X9_sitterMoves_B24 k2 (f_X9_sitterMoves_R24 k2 F) (q_sA w b B) (nI fr) (nI R) (nI c) (nI 12) = _
    unfold f_X9_sitterMoves_B24 f_X9_sitterMoves_B151
    rw [if_pos (by decide), z_bn, nI_1]
  | k + 1, F + 1, y, B, h1, hF => by
    have r2 : q_R (q_sA w b B) 21 2 = a := h2
    have r3 : q_R (q_sA w b B) 21 3 = b := h3
    have qa : q_A (q_sA w b B) a = q_A w a := by rw [g_AA, if_neg (prs_n ha)]
    have qb : q_A (q_sA w b B) b = B := by rw [g_AA, if_pos rfl]
    obtain ⟨v1, v2⟩ := hV c y hc hd (by omega)
    obtain ⟨v, hv⟩ : ∃ v, v = V (12 * c + y) := ⟨_, rfl⟩
    rw [← hv] at v1 v2
    have l1 : v <<< 1 < 2 ^ 13 := by rw [Nat.shiftLeft_eq]; omega
    have l2 : v <<< 1 ||| 1 < 2 ^ 13 := Nat.or_lt_two_pow l1 (by omega)
    have l3 : v >>> 1 < 2 ^ 12 := by rw [Nat.shiftRight_eq_div_pow]; omega
    have l4 : v >>> 1 ||| 2048 < 2 ^ 12 := Nat.or_lt_two_pow l3 (by omega)
    have e117 : ∀ U D : Nat, U < 4096 → D < 4096 → f_X9_sitterMoves_B117 k2 (f_X9_sitterMoves_R24 k2 F) (q_sA w b B) (nI fr) (nI R) (nI c) (nI y) (nI v) (nI (v <<< 1 ||| 1)) (nI (v >>> 1 ||| 2048)) (nI U) (nI D) = f_X9_sitterMoves_R24 k2 F (q_sA w b (upd B (12 * c + y) (nI ((((v &&& (v <<< 1 ||| 1)) &&& (v >>> 1 ||| 2048)) &&& U) &&& D)))) (nI fr) (nI R) (nI c) (nI (y + 1)) := by
      intro U D hU hD
      have a1 : v &&& (v <<< 1 ||| 1) ≤ v := Nat.and_le_left
      have a2 : (v &&& (v <<< 1 ||| 1)) &&& (v >>> 1 ||| 2048) ≤ v &&& (v <<< 1 ||| 1) := Nat.and_le_left
      have a3 : ((v &&& (v <<< 1 ||| 1)) &&& (v >>> 1 ||| 2048)) &&& U ≤ (v &&& (v <<< 1 ||| 1)) &&& (v >>> 1 ||| 2048) := Nat.and_le_left
      unfold f_X9_sitterMoves_B117
      rw [r3, q_rf_T _ (prs_b ha), n12c c y hc (by omega), i_and (by omega) (by omega), i_and (by omega) (by omega), i_and (by omega) (by omega), i_and (by omega) (by omega), st_big _ _ _ _ _ _ (by omega) (by omega), qb, sA_two, z_bn, nI_1]
    have e88 : ∀ U : Nat, f_X9_sitterMoves_B88 k2 (f_X9_sitterMoves_R24 k2 F) (q_sA w b B) (nI fr) (nI R) (nI c) (nI y) (nI v) (nI (v <<< 1 ||| 1)) (nI (v >>> 1 ||| 2048)) (nI U) = f_X9_sitterMoves_B117 k2 (f_X9_sitterMoves_R24 k2 F) (q_sA w b B) (nI fr) (nI R) (nI c) (nI y) (nI v) (nI (v <<< 1 ||| 1)) (nI (v >>> 1 ||| 2048)) (nI U) (nI (if 11 ≤ (12 * c + y) % 12 then 4095 else V (12 * c + y + 1))) := by
      intro U
      unfold f_X9_sitterMoves_B88
      rw [show (12 * c + y) % 12 = y by omega]
      by_cases hy : 11 ≤ y
      · rw [if_pos (by rw [z_le, nI_toInt (by omega), show (11 : Int32).toInt = 11 by decide]; omega), if_pos hy]
        rfl
      · rw [if_neg (by rw [z_le, nI_toInt (by omega), show (11 : Int32).toInt = 11 by decide]; omega), if_neg hy, r2, q_rf_T _ (prs_a ha), n12c c y hc (by omega), nI_1, ld_big _ _ _ _ (by omega) (by omega), qa, show 12 * c + y + 1 = 12 * c + (y + 1) by omega, (hV c (y + 1) hc hd (by omega)).1]
    have hD : (if 11 ≤ (12 * c + y) % 12 then 4095 else V (12 * c + y + 1)) < 4096 := by
      rw [show (12 * c + y) % 12 = y by omega]
      by_cases hy : 11 ≤ y
      · rw [if_pos hy]; omega
      · rw [if_neg hy]; exact (hV c (y + 1) hc hd (by omega)).2
    obtain ⟨B2, g1, g2⟩ := si_in ha h2 h3 hV hc hd k2 k F (y + 1) (upd B (12 * c + y) (nI (sitV V (12 * c + y)))) (by omega) (by omega)
    refine ⟨B2, ?_, fun j => ?_⟩
    · show f_X9_sitterMoves_B24 k2 (f_X9_sitterMoves_R24 k2 F) (q_sA w b B) (nI fr) (nI R) (nI c) (nI y) = _
      unfold f_X9_sitterMoves_B24
      rw [if_neg (by rw [z_le, c12, nI_toInt (by omega)]; omega), r2, q_rf_T _ (prs_a ha), n12c c y hc (by omega), ld_big _ _ _ _ (by omega) (by omega), qa, v1, z_bn, z_bn, shl1 v2, shr1 v2, show nI (v <<< 1) ||| (1 : Int32) = nI (v <<< 1 ||| 1) from i_or (a := v <<< 1) (b := 1) (by omega) (by omega), show nI (v >>> 1) ||| (2048 : Int32) = nI (v >>> 1 ||| 2048) from i_or (a := v >>> 1) (b := 2048) (by omega) (by omega)]
      have es : sitV V (12 * c + y) = ((((v &&& (v <<< 1 ||| 1)) &&& (v >>> 1 ||| 2048)) &&& (if (12 * c + y) % 12 = 0 then 4095 else V (12 * c + y - 1))) &&& (if 11 ≤ (12 * c + y) % 12 then 4095 else V (12 * c + y + 1))) := by rw [hv]; rfl
      by_cases hy : y = 0
      · rw [if_pos (by rw [z_le, nI_toInt (by omega), c0]; omega), show (4095 : Int32) = nI 4095 from rfl, e88, e117 _ _ (by omega) hD]
        rw [if_pos (by omega)] at es
        rw [es] at g1
        exact g1
      · have hu := hV c (y - 1) hc hd (by omega)
        rw [show 12 * c + (y - 1) = 12 * c + y - 1 by omega] at hu
        rw [if_neg (by rw [z_le, nI_toInt (by omega), c0]; omega), q_rf_T _ (prs_a ha), show nI (12 * c + y) - 1 = nI (12 * c + y - 1) from i_sub (b := 1) (by omega) (by omega), ld_big _ _ _ _ (by omega) (by omega), qa, hu.1, e88, e117 _ _ hu.2 hD]
        rw [if_neg (by omega)] at es
        rw [es] at g1
        exact g1
    · rw [g2]
      unfold upd
      by_cases hj : j = 12 * c + y
      · rw [if_neg (by omega), if_pos hj, if_pos (by omega), hj]
      · rw [if_neg hj]
        by_cases hz : 12 * c + y ≤ j ∧ j < 12 * c + 12
        · rw [if_pos hz, if_pos (by omega)]
        · rw [if_neg hz, if_neg (by omega)]
theorem si_out {w : qW} {fr R a b : Nat} {V : Nat → Nat} (ha : prs a b) (h2 : q_R w 21 2 = a) (h3 : q_R w 21 3 = b) (hV : tR fr R (q_A w a) V) (hfr : fr < 144) (hR : R ≤ 100) : ∀ (k F c : Nat) (B : Nat → Int32), c + k = 144 → k < F → ∃ B2, f_X9_sitterMoves_R2 F (q_sA w b B) (nI fr) (nI R) (nI c) = some ((), q_sA w b B2) ∧ (∀ j, j < 12 * c → B2 j = B j) ∧ ∀ c2 y, c ≤ c2 → c2 < 144 → apN c2 fr ≤ R → y < 12 → B2 (12 * c2 + y) = nI (sitV V (12 * c2 + y))
  | 0, F + 1, c, B, h1, _ => by
    have hc : c = 144 := by omega
    subst hc
    refine ⟨B, ?_, fun _ _ => rfl, fun c2 y q1 q2 => by omega⟩
    show f_X9_sitterMoves_B2 (f_X9_sitterMoves_R2 F) (q_sA w b B) (nI fr) (nI R) (nI 144) = _
    unfold f_X9_sitterMoves_B2
    rw [if_pos (by decide)]
  | k + 1, F + 1, c, B, h1, hF => by
    have hap := apN_le c fr (by omega) hfr
    show ∃ B2, f_X9_sitterMoves_B2 (f_X9_sitterMoves_R2 F) (q_sA w b B) (nI fr) (nI R) (nI c) = _ ∧ _
    unfold f_X9_sitterMoves_B2 f_X9_sitterMoves_B151
    rw [if_neg (by rw [z_le, c144, nI_toInt (by omega)]; omega), s_apart _ (by omega) hfr, z_cl]
    by_cases hd : apN c fr ≤ R
    · obtain ⟨B3, e1, e2⟩ := si_in ha h2 h3 hV (by omega) hd (f_X9_sitterMoves_R2 F) 12 q_fuel 0 B (by omega) (by rw [q_fuel_eq]; omega)
      obtain ⟨B2, g1, g2, g3⟩ := si_out ha h2 h3 hV hfr hR k F (c + 1) B3 (by omega) (by omega)
      rw [if_pos (by rw [z_le, nI_toInt (by omega), nI_toInt (by omega)]; omega), show f_X9_sitterMoves_R24 (f_X9_sitterMoves_R2 F) q_fuel (q_sA w b B) (nI fr) (nI R) (nI c) 0 = _ from e1]
      refine ⟨B2, g1, fun j hj => ?_, fun c2 y q1 q2 q3 q4 => ?_⟩
      · rw [g2 j (by omega), e2, if_neg (by omega)]
      · by_cases hcc : c2 = c
        · subst hcc
          rw [g2 _ (by omega), e2, if_pos (by omega)]
        · exact g3 c2 y (by omega) q2 q3 q4
    · obtain ⟨B2, g1, g2, g3⟩ := si_out ha h2 h3 hV hfr hR k F (c + 1) B (by omega) (by omega)
      rw [if_neg (by rw [z_le, nI_toInt (by omega), nI_toInt (by omega)]; omega), z_bn, nI_1]
      refine ⟨B2, g1, fun j hj => g2 j (by omega), fun c2 y q1 q2 q3 q4 => ?_⟩
      have hcc : c2 ≠ c := fun q => hd (by rw [← q]; exact q3)
      exact g3 c2 y (by omega) q2 q3 q4
def orV (f : Nat → Nat) : Nat → Nat
  | 0 => 0
  | k + 1 => orV f k ||| f k
theorem orV_lt {f : Nat → Nat} : ∀ k, (∀ i, i < k → f i < 4096) → orV f k < 4096
  | 0, _ => by show 0 < 4096; omega
  | k + 1, h => Nat.or_lt_two_pow (n := 12) (orV_lt k (fun i hi => h i (by omega))) (h k (by omega))
theorem orV_bt {f : Nat → Nat} {b : Nat} : ∀ k, ((orV f k).testBit b = true) ↔ ∃ i, i < k ∧ (f i).testBit b = true
  | 0 => ⟨fun q => by rw [show orV f 0 = 0 from rfl, Nat.zero_testBit] at q; exact no_ft q, fun ⟨i, hi, _⟩ => by omega⟩
  | k + 1 => by
    have ih := orV_bt (f := f) (b := b) k
    show ((orV f k ||| f k).testBit b = true) ↔ _
    rw [Nat.testBit_or, Bool.or_eq_true, ih]
    constructor
    · rintro (⟨i, h1, h2⟩ | q)
      · exact ⟨i, by omega, h2⟩
      · exact ⟨k, by omega, q⟩
    · rintro ⟨i, h1, h2⟩
      by_cases hi : i = k
      · rw [hi] at h2; exact Or.inr h2
      · exact Or.inl ⟨i, by omega, h2⟩
def manF (fr R : Nat) (V : Nat → Nat) (c y way : Nat) : Nat := if (stOk c way && decide (apN (stp c way) fr ≤ R)) = true then V (12 * stp c way + y) else 0
def manV (fr R : Nat) (V : Nat → Nat) (j : Nat) : Nat := orV (manF fr R V (j / 12) (j % 12)) 5
theorem manF_lt {fr R : Nat} {A : Nat → Int32} {V : Nat → Nat} (hV : tR fr R A V) {c y way : Nat} (hc : c < 144) (hy : y < 12) (hw : way < 5) : manF fr R V c y way < 4096 := by
  unfold manF
  by_cases h : (stOk c way && decide (apN (stp c way) fr ≤ R)) = true
  · rw [if_pos h]
    rw [Bool.and_eq_true] at h
    exact (hV (stp c way) y (stp_t hc hw h.1).2 (of_decide_eq_true h.2) hy).2
  · rw [if_neg h]; omega
theorem mm_way {w : qW} {fr R a b c y : Nat} {V : Nat → Nat} (ha : prs a b) (h2 : q_R w 21 2 = a) (h3 : q_R w 21 3 = b) (hV : tR fr R (q_A w a) V) (hfr : fr < 144) (hR : R ≤ 100) (hc : c < 144) (hy : y < 12) (k2 : qW → Int32 → Int32 → Int32 → Option (Unit × qW)) (k24 : qW → Int32 → Int32 → Int32 → Int32 → Option (Unit × qW)) (B : Nat → Int32) : ∀ (k F i : Nat), i + k = 5 → k < F → f_X9_manMoves_R37 k2 k24 F (q_sA w b B) (nI fr) (nI R) (nI c) (nI y) (nI (orV (manF fr R V c y) i)) (nI i) = k24 (q_sA w b (upd B (12 * c + y) (nI (orV (manF fr R V c y) 5)))) (nI fr) (nI R) (nI c) (nI (y + 1))
  | 0, F + 1, i, h1, _ => by
    have hi : i = 5 := by omega
    subst hi
    have r3 : q_R (q_sA w b B) 21 3 = b := h3
    have qb : q_A (q_sA w b B) b = B := by rw [g_AA, if_pos rfl]
    show f_X9_manMoves_B37 k2 k24 (f_X9_manMoves_R37 k2 k24 F) (q_sA w b B) (nI fr) (nI R) (nI c) (nI y) _ (nI 5) = _
    unfold f_X9_manMoves_B37
    rw [if_pos (by decide), r3, q_rf_T _ (prs_b ha), n12c c y hc hy, st_big _ _ _ _ _ _ (by omega) (by omega), qb, sA_two, z_bn, nI_1]
  | k + 1, F + 1, i, h1, hF => by
    have r2 : q_R (q_sA w b B) 21 2 = a := h2
    have qa : q_A (q_sA w b B) a = q_A w a := by rw [g_AA, if_neg (prs_n ha)]
    have ih := mm_way ha h2 h3 hV hfr hR hc hy k2 k24 B k F (i + 1) (by omega) (by omega)
    have es : orV (manF fr R V c y) (i + 1) = orV (manF fr R V c y) i ||| manF fr R V c y i := rfl
    have hlt := orV_lt (f := manF fr R V c y) i (fun j hj => manF_lt hV hc hy (by omega))
    show f_X9_manMoves_B37 k2 k24 (f_X9_manMoves_R37 k2 k24 F) (q_sA w b B) (nI fr) (nI R) (nI c) (nI y) _ (nI i) = _
    unfold f_X9_manMoves_B37 f_X9_manMoves_B84
    rw [if_neg (by rw [z_lt, c4, nI_toInt (by omega)]; omega), p_cellAfter, z_cl]
    simp only [z_bn, nI_1]
    cases ho : stOk c i with
    | false =>
      have em : manF fr R V c y i = 0 := by unfold manF; rw [ho]; rfl
      rw [es, em, Nat.or_zero] at ih
      rw [stp_f hc (by omega) ho, if_pos (by decide)]
      exact ih
    | true =>
      obtain ⟨e1, e2⟩ := stp_t hc (by omega) ho
      have hap := apN_le (stp c i) fr e2 hfr
      rw [e1, if_neg (nI_pos (by omega)), s_apart _ e2 hfr, z_cl]
      by_cases hd : apN (stp c i) fr ≤ R
      · have hv := hV (stp c i) y e2 hd hy
        have em : manF fr R V c y i = V (12 * stp c i + y) := by unfold manF; rw [ho, decide_eq_true hd]; rfl
        rw [es, em] at ih
        rw [if_neg (by rw [z_lt, nI_toInt (by omega), nI_toInt (by omega)]; omega), r2, q_rf_T _ (prs_a ha), n12c _ y e2 hy, ld_big _ _ _ _ (by omega) (by omega), qa, hv.1, i_or (by omega) (by omega)]
        exact ih
      · have em : manF fr R V c y i = 0 := by unfold manF; rw [ho, decide_eq_false hd]; rfl
        rw [es, em, Nat.or_zero] at ih
        rw [if_pos (by rw [z_lt, nI_toInt (by omega), nI_toInt (by omega)]; omega)]
        exact ih
theorem mm_in {w : qW} {fr R a b c : Nat} {V : Nat → Nat} (ha : prs a b) (h2 : q_R w 21 2 = a) (h3 : q_R w 21 3 = b) (hV : tR fr R (q_A w a) V) (hfr : fr < 144) (hR : R ≤ 100) (hc : c < 144) (k2 : qW → Int32 → Int32 → Int32 → Option (Unit × qW)) : ∀ (k F y : Nat) (B : Nat → Int32), y + k = 12 → k < F → ∃ B2, f_X9_manMoves_R24 k2 F (q_sA w b B) (nI fr) (nI R) (nI c) (nI y) = k2 (q_sA w b B2) (nI fr) (nI R) (nI (c + 1)) ∧ ∀ j, B2 j = if 12 * c + y ≤ j ∧ j < 12 * c + 12 then nI (manV fr R V j) else B j
  | 0, F + 1, y, B, h1, _ => by
    have hy : y = 12 := by omega
    subst hy
    refine ⟨B, ?_, fun j => by rw [if_neg (by omega)]⟩
    show f_X9_manMoves_B24 k2 (f_X9_manMoves_R24 k2 F) (q_sA w b B) (nI fr) (nI R) (nI c) (nI 12) = _
    unfold f_X9_manMoves_B24 f_X9_manMoves_B110
    rw [if_pos (by decide), z_bn, nI_1]
  | k + 1, F + 1, y, B, h1, hF => by
    have e1 := mm_way ha h2 h3 hV hfr hR hc (y := y) (by omega) k2 (f_X9_manMoves_R24 k2 F) B 5 q_fuel 0 (by omega) (by rw [q_fuel_eq]; omega)
    have em : manV fr R V (12 * c + y) = orV (manF fr R V c y) 5 := by
      unfold manV
      rw [show (12 * c + y) / 12 = c by omega, show (12 * c + y) % 12 = y by omega]
    rw [← em] at e1
    obtain ⟨B2, g1, g2⟩ := mm_in ha h2 h3 hV hfr hR hc k2 k F (y + 1) (upd B (12 * c + y) (nI (manV fr R V (12 * c + y)))) (by omega) (by omega)
    refine ⟨B2, ?_, fun j => ?_⟩
    · show f_X9_manMoves_B24 k2 (f_X9_manMoves_R24 k2 F) (q_sA w b B) (nI fr) (nI R) (nI c) (nI y) = _
      unfold f_X9_manMoves_B24
      rw [if_neg (by rw [z_le, c12, nI_toInt (by omega)]; omega), show f_X9_manMoves_R37 k2 (f_X9_manMoves_R24 k2 F) q_fuel (q_sA w b B) (nI fr) (nI R) (nI c) (nI y) 0 0 = _ from e1]
      exact g1
    · rw [g2]
      unfold upd
      by_cases hj : j = 12 * c + y
      · rw [if_neg (by omega), if_pos hj, if_pos (by omega), hj]
      · rw [if_neg hj]
        by_cases hz : 12 * c + y ≤ j ∧ j < 12 * c + 12
        · rw [if_pos hz, if_pos (by omega)]
        · rw [if_neg hz, if_neg (by omega)]
theorem mm_out {w : qW} {fr R a b : Nat} {V : Nat → Nat} (ha : prs a b) (h2 : q_R w 21 2 = a) (h3 : q_R w 21 3 = b) (hV : tR fr R (q_A w a) V) (hfr : fr < 144) (hR : R ≤ 100) : ∀ (k F c : Nat) (B : Nat → Int32), c + k = 144 → k < F → ∃ B2, f_X9_manMoves_R2 F (q_sA w b B) (nI fr) (nI R) (nI c) = some ((), q_sA w b B2) ∧ (∀ j, j < 12 * c → B2 j = B j) ∧ ∀ c2 y, c ≤ c2 → c2 < 144 → apN c2 fr ≤ R → y < 12 → B2 (12 * c2 + y) = nI (manV fr R V (12 * c2 + y))
  | 0, F + 1, c, B, h1, _ => by
    have hc : c = 144 := by omega
    subst hc
    refine ⟨B, ?_, fun _ _ => rfl, fun c2 y q1 q2 => by omega⟩
    show f_X9_manMoves_B2 (f_X9_manMoves_R2 F) (q_sA w b B) (nI fr) (nI R) (nI 144) = _
    unfold f_X9_manMoves_B2
    rw [if_pos (by decide)]
  | k + 1, F + 1, c, B, h1, hF => by
    have hap := apN_le c fr (by omega) hfr
    show ∃ B2, f_X9_manMoves_B2 (f_X9_manMoves_R2 F) (q_sA w b B) (nI fr) (nI R) (nI c) = _ ∧ _
    unfold f_X9_manMoves_B2 f_X9_manMoves_B110
    rw [if_neg (by rw [z_le, c144, nI_toInt (by omega)]; omega), s_apart _ (by omega) hfr, z_cl]
    by_cases hd : apN c fr ≤ R
    · obtain ⟨B3, e1, e2⟩ := mm_in ha h2 h3 hV hfr hR (c := c) (by omega) (f_X9_manMoves_R2 F) 12 q_fuel 0 B (by omega) (by rw [q_fuel_eq]; omega)
      obtain ⟨B2, g1, g2, g3⟩ := mm_out ha h2 h3 hV hfr hR k F (c + 1) B3 (by omega) (by omega)
      rw [if_pos (by rw [z_le, nI_toInt (by omega), nI_toInt (by omega)]; omega), show f_X9_manMoves_R24 (f_X9_manMoves_R2 F) q_fuel (q_sA w b B) (nI fr) (nI R) (nI c) 0 = _ from e1]
      refine ⟨B2, g1, fun j hj => ?_, fun c2 y q1 q2 q3 q4 => ?_⟩
      · rw [g2 j (by omega), e2, if_neg (by omega)]
      · by_cases hcc : c2 = c
        · subst hcc
          rw [g2 _ (by omega), e2, if_pos (by omega)]
        · exact g3 c2 y (by omega) q2 q3 q4
    · obtain ⟨B2, g1, g2, g3⟩ := mm_out ha h2 h3 hV hfr hR k F (c + 1) B (by omega) (by omega)
      rw [if_neg (by rw [z_le, nI_toInt (by omega), nI_toInt (by omega)]; omega), z_bn, nI_1]
      refine ⟨B2, g1, fun j hj => g2 j (by omega), fun c2 y q1 q2 q3 q4 => ?_⟩
      have hcc : c2 ≠ c := fun q => hd (by rw [← q]; exact q3)
      exact g3 c2 y (by omega) q2 q3 q4
