/-! enough, roster: what each set of men fails -/
def w13 (w : qW) (A B : Nat → Int32) : qW := q_sA (q_sA w 13 A) 14 B
theorem w13_A (w : qW) (A B : Nat → Int32) : q_A (w13 w A B) 13 = A := rfl
theorem w13_B (w : qW) (A B : Nat → Int32) : q_A (w13 w A B) 14 = B := rfl
theorem w13_st13 {β : Type} (w : qW) (A B : Nat → Int32) (j : Nat) (v : Int32) (c : qW → Option β) (h : j < 128) : q_st (w13 w A B) 13 128 (nI j) v c = c (w13 w (upd A j v) B) := by
  rw [st_lit _ _ _ _ _ _ h (by omega), w13_A]
  unfold w13
  rw [sA_comm _ 14 13 _ _ (by omega), sA_two]
theorem w13_st14 {β : Type} (w : qW) (A B : Nat → Int32) (j : Nat) (v : Int32) (c : qW → Option β) (h : j < 128) : q_st (w13 w A B) 14 128 (nI j) v c = c (w13 w A (upd B j v)) := by
  rw [st_lit _ _ _ _ _ _ h (by omega), w13_B]
  unfold w13
  rw [sA_two]
theorem fr1_13 (w : qW) (A B : Nat → Int32) : fr1 w (w13 w A B) := fr1_tr (fr1_sA w 13 A (by omega)) (fr1_sA _ 14 B (by omega))
theorem PC_13 {mn st : Nat} {N : Nat → Nat} {w : qW} (h : PC mn st N w) (A B : Nat → Int32) : PC mn st N (w13 w A B) := h
theorem sh1p : ∀ m : Nat, m < 12 → (1 : Int32) <<< (nI m &&& 31) = nI (2 ^ m) := by decide +kernel
theorem or_p : ∀ m : Nat, m < 8 → ∀ r : Nat, r < 2 ^ m → nI (2 ^ m) ||| nI r = nI (2 ^ m + r) := by decide +kernel
theorem i_or {a b : Nat} (ha : a < 2 ^ 31) (hb : b < 2 ^ 31) : nI a ||| nI b = nI (a ||| b) := by
  apply Int32.toBitVec_inj.mp
  apply BitVec.eq_of_toNat_eq
  have e1 : (nI a).toBitVec.toNat = a := by
    show (BitVec.ofNat 32 a).toNat = a
    rw [BitVec.toNat_ofNat, Nat.mod_eq_of_lt (by omega)]
  have e2 : (nI b).toBitVec.toNat = b := by
    show (BitVec.ofNat 32 b).toNat = b
    rw [BitVec.toNat_ofNat, Nat.mod_eq_of_lt (by omega)]
  have e4 : a ||| b < 2 ^ 31 := Nat.or_lt_two_pow ha hb
  have e5 : (nI (a ||| b)).toBitVec.toNat = a ||| b := by
    show (BitVec.ofNat 32 (a ||| b)).toNat = a ||| b
    rw [BitVec.toNat_ofNat, Nat.mod_eq_of_lt (by omega)]
  rw [Int32.toBitVec_or, BitVec.toNat_or, e1, e2, e5]
theorem smS_low {g : Nat → Nat} {set m : Nat} (h : set < 2 ^ m) : smS g set (m + 1) = smS g set m := by
  show smS g set m + (if set.testBit m then g m else 0) = _
  rw [Nat.testBit_lt_two_pow h]
  rfl
theorem smS_add {g : Nat → Nat} {r m : Nat} (h : r < 2 ^ m) : smS g (2 ^ m + r) (m + 1) = smS g r m + g m := by
  show smS g (2 ^ m + r) m + (if (2 ^ m + r).testBit m then g m else 0) = _
  rw [Nat.testBit_two_pow_add_eq, Nat.testBit_lt_two_pow h]
  rw [smS_congr (g := g) (g2 := g) (s := 2 ^ m + r) (s2 := r) m (fun j hj => by rw [Nat.testBit_two_pow_add_gt hj])]
  rfl
theorem mf_in {tx : Option (List lw_Ln)} {mn : Nat} {N : Nat → Nat} {w : qW} {s h m : Nat} (hs : s < 8) (hh : h < 12) (hm : m < 7) (hd : dn tx mn N w s h) (B : Nat → Int32) (k9 : qW → Int32 → Int32 → Option (Unit × qW)) : ∀ (k F r : Nat) (A : Nat → Int32), r + k = 2 ^ m → k < F → (∀ set, set < 2 ^ m + r → A set = nI (smS (gv tx mn N (N (32 + s)) h) set (m + 1))) → ∃ A2, f_X7_markFails_R22 k9 F (w13 w A B) (nI (12 * s + h)) (nI m) (nI r) = k9 (w13 w A2 B) (nI (12 * s + h)) (nI (m + 1)) ∧ ∀ set, set < 2 ^ (m + 1) → A2 set = nI (smS (gv tx mn N (N (32 + s)) h) set (m + 1))
  | 0, F + 1, r, A, h1, _, hA => by
    have hp : 2 ^ (m + 1) = 2 ^ m + 2 ^ m := by rw [Nat.pow_succ]; omega
    have h128 : 2 ^ m ≤ 128 := p2_128 (by omega)
    refine ⟨A, ?_, fun set hset => hA set (by omega)⟩
    show f_X7_markFails_B22 k9 (f_X7_markFails_R22 k9 F) (w13 w A B) (nI (12 * s + h)) (nI m) (nI r) = _
    unfold f_X7_markFails_B22
    rw [sh1p m (by omega), if_pos (by rw [z_le, nI_toInt (by omega), nI_toInt (by omega)]; omega), z_bn, nI_1]
  | k + 1, F + 1, r, A, h1, h2, hA => by
    have h128 : 2 ^ m ≤ 64 := Nat.pow_le_pow_right (n := 2) (by omega) (show m ≤ 6 by omega)
    have hr : r < 2 ^ m := by omega
    have hb := smS_le (g := gv tx mn N (N (32 + s)) h) (fun m => gv_le ..) r m
    obtain ⟨A2, g1, g2⟩ := mf_in hs hh hm hd B k9 k F (r + 1) (upd A (2 ^ m + r) (nI (smS (gv tx mn N (N (32 + s)) h) (2 ^ m + r) (m + 1)))) (by omega) (by omega) (fun set hset => by
      unfold upd
      by_cases hq : set = 2 ^ m + r
      · rw [if_pos hq, hq]
      · rw [if_neg hq]; exact hA set (by omega))
    refine ⟨A2, ?_, g2⟩
    show f_X7_markFails_B22 k9 (f_X7_markFails_R22 k9 F) (w13 w A B) (nI (12 * s + h)) (nI m) (nI r) = _
    unfold f_X7_markFails_B22
    have q12 : q_A (w13 w A B) 12 (7 * (12 * s + h) + m) = nI (gv tx mn N (N (32 + s)) h m) := hd.2 m hm
    rw [sh1p m (by omega), if_neg (by rw [z_le, nI_toInt (by omega), nI_toInt (by omega)]; omega), ld_lit _ _ _ _ (by omega) (by omega), w13_A, hA r (by omega), n7 _ _ (by omega) (by omega), ld_lit _ _ _ _ (by omega) (by omega), q12, or_p m (by omega) r hr, w13_st13 _ _ _ _ _ _ (by omega), z_bn, nI_1, nI_add, smS_low hr, ← smS_add hr]
    exact g1
theorem mf_mid {tx : Option (List lw_Ln)} {mn st : Nat} {N : Nat → Nat} {w : qW} {s h : Nat} (hP : PC mn st N w) (hs : s < st) (hh : h < 12) (hd : dn tx mn N w s h) (B : Nat → Int32) : ∀ (k F m : Nat) (A : Nat → Int32), m + k = mn → k < F → (∀ set, set < 2 ^ m → A set = nI (smS (gv tx mn N (N (32 + s)) h) set m)) → ∃ A2, f_X7_markFails_R9 F (w13 w A B) (nI (12 * s + h)) (nI m) = f_X7_markFails_R77 q_fuel (w13 w A2 B) (nI (12 * s + h)) (nI (N (48 + s))) 0 ∧ ∀ set, set < 2 ^ mn → A2 set = nI (smS (gv tx mn N (N (32 + s)) h) set mn)
  | 0, F + 1, m, A, h1, _, hA => by
    have h7 := hP.2.2.1
    have hm : m = mn := by omega
    refine ⟨A, ?_, fun set hset => by have := hA set (by rw [hm]; exact hset); rw [this, hm]⟩
    show f_X7_markFails_B9 (f_X7_markFails_R9 F) (w13 w A B) (nI (12 * s + h)) (nI m) = _
    unfold f_X7_markFails_B9
    rw [(PC_13 hP A B).1, if_pos (nI_le (by omega) (by omega)), s_least (PC_13 hP A B) hs hh, z_cl]
  | k + 1, F + 1, m, A, h1, h2, hA => by
    have h7 := hP.2.2.1
    have h8 := hP.2.2.2.1
    have h128 : 2 ^ m ≤ 128 := p2_128 (by omega)
    obtain ⟨A3, e1, e2⟩ := mf_in (tx := tx) (N := N) (s := s) (h := h) (m := m) (by omega) hh (by omega) hd B (f_X7_markFails_R9 F) (2 ^ m) q_fuel 0 A (by omega) (by rw [q_fuel_eq]; omega) (fun set hset => by rw [smS_low (by omega)]; exact hA set (by omega))
    obtain ⟨A2, g1, g2⟩ := mf_mid hP hs hh hd B k F (m + 1) A3 (by omega) (by omega) e2
    refine ⟨A2, ?_, g2⟩
    show f_X7_markFails_B9 (f_X7_markFails_R9 F) (w13 w A B) (nI (12 * s + h)) (nI m) = _
    unfold f_X7_markFails_B9
    rw [(PC_13 hP A B).1, if_neg (nI_ge (by omega) (by omega)), show f_X7_markFails_R22 (f_X7_markFails_R9 F) q_fuel (w13 w A B) (nI (12 * s + h)) (nI m) 0 = _ from e1]
    exact g1
theorem mf_out {mn st : Nat} {N : Nat → Nat} {w : qW} {s h L : Nat} {G : Nat → Nat} (hP : PC mn st N w) (hs : s < 8) (hh : h < 12) (hL : L ≤ 12) (hG : ∀ x, G x ≤ 1000) (A : Nat → Int32) (hA : ∀ set, set < 2 ^ mn → A set = nI (G set)) : ∀ (k F i : Nat) (B : Nat → Int32), i + k = 2 ^ mn → k < F → ∃ B2, f_X7_markFails_R77 F (w13 w A B) (nI (12 * s + h)) (nI L) (nI i) = some ((), w13 w A B2) ∧ ∀ set, B2 set = if i ≤ set ∧ set < 2 ^ mn ∧ G set < L then B set ||| nI (2 ^ h) else B set
  | 0, F + 1, i, B, h1, _ => by
    have h128 := p2_128 hP.2.2.1
    have hev := evb_1 mn
    refine ⟨B, ?_, fun set => by rw [if_neg (by omega)]⟩
    show f_X7_markFails_B77 (f_X7_markFails_R77 F) (w13 w A B) (nI (12 * s + h)) (nI L) (nI i) = _
    unfold f_X7_markFails_B77
    rw [s_evb (PC_13 hP A B), z_cl, if_pos (by rw [z_lt, nI_toInt (by omega), nI_toInt (by omega)]; omega)]
  | k + 1, F + 1, i, B, h1, h2 => by
    have h128 := p2_128 hP.2.2.1
    have hev := evb_1 mn
    have hGi := hG i
    by_cases hc : G i < L
    · obtain ⟨B2, g1, g2⟩ := mf_out hP hs hh hL hG A hA k F (i + 1) (upd B i (B i ||| nI (2 ^ h))) (by omega) (by omega)
      refine ⟨B2, ?_, fun set => ?_⟩
      · show f_X7_markFails_B77 (f_X7_markFails_R77 F) (w13 w A B) (nI (12 * s + h)) (nI L) (nI i) = _
        unfold f_X7_markFails_B77 f_X7_markFails_B113
        rw [s_evb (PC_13 hP A B), z_cl, if_neg (by rw [z_lt, nI_toInt (by omega), nI_toInt (by omega)]; omega), ld_lit _ _ _ _ (by omega) (by omega), w13_A, hA i (by omega), if_neg (by rw [z_le, nI_toInt (by omega), nI_toInt (by omega)]; omega), ld_lit _ _ _ _ (by omega) (by omega), w13_B, i_12r s h hs hh, sh1p h hh, w13_st14 _ _ _ _ _ _ (by omega), z_bn, nI_1]
        exact g1
      · rw [g2]
        unfold upd
        by_cases hq : set = i
        · rw [if_neg (by omega), if_pos hq, hq, if_pos ⟨Nat.le_refl i, by omega, hc⟩]
        · rw [if_neg hq]
          by_cases hx : i ≤ set ∧ set < 2 ^ mn ∧ G set < L
          · rw [if_pos hx, if_pos (by omega)]
          · rw [if_neg hx, if_neg (by omega)]
    · obtain ⟨B2, g1, g2⟩ := mf_out hP hs hh hL hG A hA k F (i + 1) B (by omega) (by omega)
      refine ⟨B2, ?_, fun set => ?_⟩
      · show f_X7_markFails_B77 (f_X7_markFails_R77 F) (w13 w A B) (nI (12 * s + h)) (nI L) (nI i) = _
        unfold f_X7_markFails_B77 f_X7_markFails_B113
        rw [s_evb (PC_13 hP A B), z_cl, if_neg (by rw [z_lt, nI_toInt (by omega), nI_toInt (by omega)]; omega), ld_lit _ _ _ _ (by omega) (by omega), w13_A, hA i (by omega), if_pos (by rw [z_le, nI_toInt (by omega), nI_toInt (by omega)]; omega), z_bn, nI_1]
        exact g1
      · rw [g2]
        by_cases hx : i ≤ set ∧ set < 2 ^ mn ∧ G set < L
        · have hne : set ≠ i := fun q => hc (by rw [← q]; exact hx.2.2)
          rw [if_pos hx, if_pos (by omega)]
        · rw [if_neg hx, if_neg (by omega)]
theorem s_mark {tx : Option (List lw_Ln)} {mn st : Nat} {N : Nat → Nat} {w : qW} {s h : Nat} (hP : PC mn st N w) (hs : s < st) (hh : h < 12) (hd : dn tx mn N w s h) (A B : Nat → Int32) : ∃ A2 B2, f_X7_markFails (w13 w A B) (nI (12 * s + h)) = some ((), w13 w A2 B2) ∧ ∀ set, set < 2 ^ mn → B2 set = if svS tx N set s h = true then B set else B set ||| nI (2 ^ h) := by
  have h7 := hP.2.2.1
  have h8 := hP.2.2.2.1
  have h128 := p2_128 h7
  have hl := (hiN_le hP hs).2.2
  obtain ⟨A2, e1, e2⟩ := mf_mid (tx := tx) hP hs hh hd B mn q_fuel 0 (upd A 0 0) (by omega) (by rw [q_fuel_eq]; omega) (fun set hset => by
    have : set = 0 := by rw [Nat.pow_zero] at hset; omega
    rw [this]
    rfl)
  obtain ⟨B2, g1, g2⟩ := mf_out (L := N (48 + s)) (G := fun set => smS (gv tx mn N (N (32 + s)) h) set mn) hP (s := s) (by omega) hh hl (fun x => by have := smS_le (g := gv tx mn N (N (32 + s)) h) (fun m => gv_le ..) x mn; show smS (gv tx mn N (N (32 + s)) h) x mn ≤ 1000; omega) A2 e2 (2 ^ mn) q_fuel 0 B (by omega) (by rw [q_fuel_eq]; omega)
  refine ⟨A2, B2, ?_, fun set hset => ?_⟩
  · unfold f_X7_markFails
    rw [show q_st (w13 w A B) 13 128 0 0 (fun w1 => f_X7_markFails_R9 q_fuel w1 (nI (12 * s + h)) 0) = _ from w13_st13 w A B 0 0 _ (by omega), show f_X7_markFails_R9 q_fuel (w13 w (upd A 0 0) B) (nI (12 * s + h)) 0 = _ from e1]
    exact g1
  · rw [g2]
    unfold svS
    show (if 0 ≤ set ∧ set < 2 ^ mn ∧ smS (gv tx mn N (N (32 + s)) h) set mn < N (48 + s) then _ else _) = _
    rw [smS_gv h7 hset]
    by_cases hc : N (48 + s) ≤ smS (sN tx N (N (32 + s)) h) set 8
    · rw [decide_eq_true hc, if_pos rfl, if_neg (by omega)]
    · rw [decide_eq_false hc, if_neg (show ¬ false = true by decide), if_pos (by omega)]
def flr (bad : Nat → Bool) : Nat → Nat
  | 0 => 0
  | k + 1 => if bad k then flr bad k ||| 2 ^ (k % 12) else flr bad k
theorem p2_12 (k : Nat) : 2 ^ (k % 12) < 4096 := by
  have : 2 ^ (k % 12) ≤ 2 ^ 11 := Nat.pow_le_pow_right (by omega) (by omega)
  omega
theorem flr_lt (bad : Nat → Bool) : ∀ k, flr bad k < 4096
  | 0 => by show 0 < 4096; omega
  | k + 1 => by
    have ih := flr_lt bad k
    show (if bad k then flr bad k ||| 2 ^ (k % 12) else flr bad k) < 4096
    by_cases h : bad k
    · rw [if_pos h]; exact Nat.or_lt_two_pow (n := 12) ih (p2_12 k)
    · rw [if_neg h]; exact ih
theorem flr_0 (bad : Nat → Bool) : ∀ k, (flr bad k = 0) ↔ ∀ p, p < k → bad p = false
  | 0 => ⟨fun _ p hp => by omega, fun _ => rfl⟩
  | k + 1 => by
    have ih := flr_0 bad k
    have hpos : 0 < 2 ^ (k % 12) := Nat.two_pow_pos _
    cases hb : bad k with
    | true =>
      have e : flr bad (k + 1) = flr bad k ||| 2 ^ (k % 12) := by show (if bad k then _ else _) = _; rw [hb]; rfl
      rw [e]
      have := Nat.right_le_or (n := flr bad k) (m := 2 ^ (k % 12))
      exact ⟨fun q => by omega, fun q => by rw [q k (by omega)] at hb; exact no_ft hb⟩
    | false =>
      have e : flr bad (k + 1) = flr bad k := by show (if bad k then _ else _) = _; rw [hb]; rfl
      rw [e, ih]
      exact ⟨fun q p hp => by
        by_cases hpk : p = k
        · rw [hpk]; exact hb
        · exact q p (by omega), fun q p hp => q p (by omega)⟩
theorem flr_bt (bad : Nat → Bool) (h : Nat) : ∀ k, ((flr bad k).testBit h = false) ↔ ∀ p, p < k → p % 12 = h → bad p = false
  | 0 => ⟨fun _ p hp => by omega, fun _ => Nat.zero_testBit h⟩
  | k + 1 => by
    have ih := flr_bt bad h k
    cases hb : bad k with
    | true =>
      have e : flr bad (k + 1) = flr bad k ||| 2 ^ (k % 12) := by show (if bad k then _ else _) = _; rw [hb]; rfl
      rw [e, Nat.testBit_or, Nat.testBit_two_pow]
      by_cases hk : k % 12 = h
      · rw [decide_eq_true hk, Bool.or_true]
        exact ⟨fun q => no_ft q.symm, fun q => by rw [q k (by omega) hk] at hb; exact no_ft hb⟩
      · rw [decide_eq_false hk, Bool.or_false, ih]
        exact ⟨fun q p hp hph => by
          by_cases hpk : p = k
          · rw [hpk] at hph; exact absurd hph hk
          · exact q p (by omega) hph, fun q p hp => q p (by omega)⟩
    | false =>
      have e : flr bad (k + 1) = flr bad k := by show (if bad k then _ else _) = _; rw [hb]; rfl
      rw [e, ih]
      exact ⟨fun q p hp hph => by
        by_cases hpk : p = k
        · rw [hpk]; exact hb
        · exact q p (by omega) hph, fun q p hp => q p (by omega)⟩
def bdP (tx : Option (List lw_Ln)) (mn : Nat) (N : Nat → Nat) (set p : Nat) : Bool := wnt N (p / 12) (p % 12) && (svd tx mn N (p / 12) (p % 12) && !svS tx N set (p / 12) (p % 12))
def fld (tx : Option (List lw_Ln)) (mn st : Nat) (N : Nat → Nat) (set : Nat) : Nat := flr (bdP tx mn N set) (12 * st)
theorem ws_R {tx : Option (List lw_Ln)} {mn st : Nat} {N : Nat → Nat} {w : qW} (hP : PC mn st N w) (hd : ∀ s h, s < st → h < 12 → dn tx mn N w s h) : ∀ (k F i : Nat) (A B : Nat → Int32), i + k = 12 * st → k < F → (∀ set, set < 2 ^ mn → B set = nI (flr (bdP tx mn N set) i)) → ∃ A2 B2, f_X7_weighSets_R17 F (w13 w A B) (nI i) = some ((), w13 w A2 B2) ∧ ∀ set, set < 2 ^ mn → B2 set = nI (flr (bdP tx mn N set) (12 * st))
  | 0, F + 1, i, A, B, h1, _, hB => by
    have h8 := hP.2.2.2.1
    have hi : i = 12 * st := by omega
    refine ⟨A, B, ?_, fun set hset => by rw [← hi]; exact hB set hset⟩
    show f_X7_weighSets_B17 (f_X7_weighSets_R17 F) (w13 w A B) (nI i) = _
    unfold f_X7_weighSets_B17
    rw [(PC_13 hP A B).2.1, show (12 : Int32) * nI st = nI (12 * st) from i_mul (a := 12) (by omega) (by omega) (by omega), if_pos (nI_le (by omega) (by omega))]
  | k + 1, F + 1, i, A, B, h1, h2, hB => by
    have h8 := hP.2.2.2.1
    obtain ⟨s, h, hi, hs, hh⟩ : ∃ s h, i = 12 * s + h ∧ s < st ∧ h < 12 := ⟨i / 12, i % 12, by omega, by omega, by omega⟩
    have is : i / 12 = s := by omega
    have ih : i % 12 = h := by omega
    have ebd : ∀ set, bdP tx mn N set i = (wnt N s h && (svd tx mn N s h && !svS tx N set s h)) := fun set => by unfold bdP; rw [is, ih]
    have es : ∀ set, flr (bdP tx mn N set) (i + 1) = if (wnt N s h && (svd tx mn N s h && !svS tx N set s h)) = true then flr (bdP tx mn N set) i ||| 2 ^ h else flr (bdP tx mn N set) i := fun set => by
      show (if bdP tx mn N set i then _ else _) = _
      rw [ebd, ih]
    have hd13 : dn tx mn N (w13 w A B) s h := hd s h hs hh
    have e1 : f_X7_isWanted (w13 w A B) (nI i) = some (b2i (wnt N s h), w13 w A B) := by rw [hi]; exact s_wanted (PC_13 hP A B) hs hh
    have e2 : f_X7_isServed (w13 w A B) (nI i) = some (b2i (svd tx mn N s h), w13 w A B) := by rw [hi]; exact s_served (PC_13 hP A B) hs hh hd13
    show ∃ A2 B2, f_X7_weighSets_B17 (f_X7_weighSets_R17 F) (w13 w A B) (nI i) = _ ∧ _
    unfold f_X7_weighSets_B17 f_X7_weighSets_B52
    rw [(PC_13 hP A B).2.1, show (12 : Int32) * nI st = nI (12 * st) from i_mul (a := 12) (by omega) (by omega) (by omega), if_neg (nI_ge (by omega) (by omega)), e1, z_cl, e2]
    simp only [z_bn, z_cl, nI_1]
    cases hw : wnt N s h with
    | false =>
      rw [if_pos bz]
      exact ws_R hP hd k F (i + 1) A B (by omega) (by omega) (fun set hset => by rw [es, hw]; exact hB set hset)
    | true =>
      rw [if_neg bnz]
      cases hv : svd tx mn N s h with
      | false =>
        rw [if_pos bz]
        exact ws_R hP hd k F (i + 1) A B (by omega) (by omega) (fun set hset => by rw [es, hw, hv]; exact hB set hset)
      | true =>
        obtain ⟨A3, B3, m1, m2⟩ := s_mark hP hs hh (hd s h hs hh) A B
        rw [if_neg bnz, hi, m1, z_cl, ← hi]
        refine ws_R hP hd k F (i + 1) A3 B3 (by omega) (by omega) (fun set hset => ?_)
        rw [es, hw, hv, m2 set hset, hB set hset]
        have hp := p2_12 h
        rw [show h % 12 = h by omega] at hp
        have hlt := flr_lt (bdP tx mn N set) i
        cases hx : svS tx N set s h with
        | true => rw [if_pos rfl]; rfl
        | false => rw [if_neg (show ¬ false = true by decide), i_or (by omega) (by omega)]; rfl
theorem s_weighSets {tx : Option (List lw_Ln)} {w : qW} {mn st : Nat} {N : Nat → Nat} (hL : lSt tx w) (hP : PC mn st N w) : ∃ w2, f_X7_weighSets w = some ((), w2) ∧ fr1 w w2 ∧ ∀ set, set < 2 ^ mn → q_A w2 14 set = nI (fld tx mn st N set) := by
  have h8 := hP.2.2.2.1
  have h128 := p2_128 hP.2.2.1
  obtain ⟨w1, e1, f1, hd⟩ := s_weigh hL hP (a := 0) (b := 11) (by omega) (by omega)
  have hP1 := PC_fr1 f1 hP
  have e0 : q_sA w1 14 (fil (fun _ => 0) (q_A w1 14) 0 128) = w13 w1 (q_A w1 13) (fil (fun _ => 0) (q_A w1 14) 0 128) := by
    unfold w13
    rw [sA_self]
  obtain ⟨A2, B2, g1, g2⟩ := ws_R hP1 (fun s h hs hh => hd s h hs (by omega) (by omega)) (12 * st) q_fuel 0 (q_A w1 13) (fil (fun _ => 0) (q_A w1 14) 0 128) (by omega) (by rw [q_fuel_eq]; omega) (fun set hset => by
    unfold fil
    rw [if_pos (by omega)]
    rfl)
  refine ⟨w13 w1 A2 B2, ?_, fr1_tr f1 (fr1_13 w1 A2 B2), g2⟩
  unfold f_X7_weighSets
  rw [show f_X7_weigh w 0 11 = _ from e1, z_cl, s_fill 128 14 0 (by omega) w1, z_cl, e0]
  exact g1
