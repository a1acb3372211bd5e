/-! books: who -/
def wmS (tx : Option (List lw_Ln)) (mn : Nat) (N : Nat → Nat) (E : Nat → Int64) (h T : Nat) (w : qW) : Prop := ∀ i, i < T → ∀ m, m < mn → q_A w 20 (7 * i + m) = nI (gv tx mn N (bcl E i) h m)
theorem n7b (i m : Nat) (hi : i < 96) (hm : m < 7) : nI i * 7 + nI m = nI (7 * i + m) := by
  rw [show nI i * 7 = nI (i * 7) from i_mul (b := 7) (by omega) (by omega) (by omega), nI_add, Nat.mul_comm]
theorem wm_in {tx : Option (List lw_Ln)} {mn st : Nat} {N : Nat → Nat} {E : Nat → Int64} {h T i : Nat} {br : Bool} (hh : h < 12) (hT : T ≤ 20) (hi : i < T) (k2 : qW → Int32 → Int32 → Option (Unit × qW)) : ∀ (k F m : Nat) (w : qW), lSt tx w → PC mn st N w → bkS E T br w → m + k = mn → k < F → (∀ j, j < m → q_A w 20 (7 * i + j) = nI (gv tx mn N (bcl E i) h j)) → ∃ w2, f_X0_weighMen_R12 k2 F w (nI h) (nI i) (nI m) = k2 w2 (nI h) (nI (i + 1)) ∧ frC w w2 ∧ bkS E T br w2 ∧ (∀ j, j < mn → q_A w2 20 (7 * i + j) = nI (gv tx mn N (bcl E i) h j)) ∧ ∀ x, ¬ (7 * i ≤ x ∧ x < 7 * i + 7) → q_A w2 20 x = q_A w 20 x
  | 0, F + 1, m, w, hL, hP, hB, h1, _, hA => by
    have h7 := hP.2.2.1
    refine ⟨w, ?_, frC_rf w, hB, fun j hj => hA j (by omega), fun _ _ => rfl⟩
    show f_X0_weighMen_B12 k2 (f_X0_weighMen_R12 k2 F) w (nI h) (nI i) (nI m) = _
    unfold f_X0_weighMen_B12
    rw [hP.1, if_pos (nI_le (by omega) (by omega)), z_bn, nI_1]
  | k + 1, F + 1, m, w, hL, hP, hB, h1, h2, hA => by
    have h7 := hP.2.2.1
    obtain ⟨b1, b2, b3⟩ := id hB
    obtain ⟨w4, e4, f4⟩ := s_byMan hL hP (m := m) (cell := bcl E i) (by omega) hh
    obtain ⟨w5, hw5⟩ : ∃ w5, w5 = q_sA w4 20 (upd (q_A w4 20) (7 * i + m) (nI (gv tx mn N (bcl E i) h m))) := ⟨_, rfl⟩
    have f5 : frC w w5 := frC_tr (frC_0 f4) (by rw [hw5]; exact frC_A w4 20 _ (by omega))
    have hB5 : bkS E T br w5 := by
      have := bkS_fr f4 hB
      rw [hw5]
      exact this
    have q20 : ∀ x, q_A w5 20 x = if x = 7 * i + m then nI (gv tx mn N (bcl E i) h m) else q_A w 20 x := by
      intro x
      rw [hw5, g_AA, if_pos rfl, fr0_A f4 20 (by omega)]
      rfl
    obtain ⟨w2, g1, g2, g3, g4, g5⟩ := wm_in hh hT hi k2 k F (m + 1) w5 (lSt_frB f5.1 hL) (PC_frB f5.1 hP) hB5 (by omega) (by omega) (fun j hj => by
      rw [q20]
      by_cases hjm : j = m
      · rw [if_pos (by omega), hjm]
      · rw [if_neg (by omega)]; exact hA j (by omega))
    refine ⟨w2, ?_, frC_tr f5 g2, g3, g4, fun x hx => ?_⟩
    · show f_X0_weighMen_B12 k2 (f_X0_weighMen_R12 k2 F) w (nI h) (nI i) (nI m) = _
      unfold f_X0_weighMen_B12
      rw [hP.1, if_neg (nI_ge (by omega) (by omega)), ld_lit _ _ _ _ (by omega) (by omega), (b3 i hi).1, e4, z_cl, n7b i m (by omega) (by omega), st_lit _ _ _ _ _ _ (by omega) (by omega), z_bn, nI_1, ← hw5]
      exact g1
    · rw [g5 x hx, q20, if_neg (by omega)]
theorem wm_out {tx : Option (List lw_Ln)} {mn st : Nat} {N : Nat → Nat} {E : Nat → Int64} {h T : Nat} {br : Bool} (hh : h < 12) (hT : T ≤ 20) : ∀ (k F i : Nat) (w : qW), lSt tx w → PC mn st N w → bkS E T br w → wmS tx mn N E h i w → i + k = T → k < F → ∃ w2, f_X0_weighMen_R2 F w (nI h) (nI i) = some ((), w2) ∧ frC w w2 ∧ bkS E T br w2 ∧ wmS tx mn N E h T w2
  | 0, F + 1, i, w, hL, hP, hB, hA, h1, _ => by
    have hi : i = T := by omega
    subst hi
    refine ⟨w, ?_, frC_rf w, hB, hA⟩
    show f_X0_weighMen_B2 (f_X0_weighMen_R2 F) w (nI h) (nI i) = _
    unfold f_X0_weighMen_B2
    rw [hB.1, if_pos (nI_le (by omega) (by omega))]
  | k + 1, F + 1, i, w, hL, hP, hB, hA, h1, h2 => by
    have h7 := hP.2.2.1
    obtain ⟨w3, e1, e2, e3, e4, e5⟩ := wm_in (tx := tx) (N := N) (mn := mn) hh hT (i := i) (by omega) (f_X0_weighMen_R2 F) mn q_fuel 0 w hL hP hB (by omega) (by rw [q_fuel_eq]; omega) (fun j hj => by omega)
    obtain ⟨w2, g1, g2, g3, g4⟩ := wm_out hh hT k F (i + 1) w3 (lSt_frB e2.1 hL) (PC_frB e2.1 hP) e3 (fun i2 hi2 m hm => by
      by_cases hq : i2 = i
      · rw [hq]; exact e4 m hm
      · rw [e5 _ (by omega)]; exact hA i2 (by omega) m hm) (by omega) (by omega)
    refine ⟨w2, ?_, frC_tr e2 g2, g3, g4⟩
    show f_X0_weighMen_B2 (f_X0_weighMen_R2 F) w (nI h) (nI i) = _
    unfold f_X0_weighMen_B2
    rw [hB.1, if_neg (nI_ge (by omega) (by omega))]
    rw [nI_0] at e1
    rw [e1]
    exact g1
theorem s_weighMen {tx : Option (List lw_Ln)} {w : qW} {mn st : Nat} {N : Nat → Nat} {E : Nat → Int64} {h T : Nat} {br : Bool} (hL : lSt tx w) (hP : PC mn st N w) (hB : bkS E T br w) (hh : h < 12) (hT : T ≤ 20) : ∃ w2, f_X0_weighMen w (nI h) = some ((), w2) ∧ frC w w2 ∧ bkS E T br w2 ∧ wmS tx mn N E h T w2 := wm_out hh hT T q_fuel 0 w hL hP hB (fun i hi => by omega) (by omega) (by rw [q_fuel_eq]; omega)
theorem set_ok {mn set : Nat} (h : set < 2 ^ mn) : ∀ m, m < 8 → set.testBit m = true → m < mn := by
  intro m _ hb
  rcases Nat.lt_or_ge m mn with q | q
  · exact q
  · have h3 : 2 ^ mn ≤ 2 ^ m := Nat.pow_le_pow_right (by omega) q
    rw [Nat.testBit_lt_two_pow (by omega)] at hb
    exact no_ft hb
theorem p2_128 {mn : Nat} (h : mn ≤ 7) : 2 ^ mn ≤ 128 := Nat.pow_le_pow_right (by omega) h
theorem smS_gv {tx : Option (List lw_Ln)} {mn : Nat} {N : Nat → Nat} {c h set : Nat} (hm : mn ≤ 7) (hs : set < 2 ^ mn) : smS (gv tx mn N c h) set mn = smS (sN tx N c h) set 8 := by
  have a : smS (gv tx mn N c h) set mn = smS (sN tx N c h) set mn := by
    apply smS_congr
    intro m hmm
    unfold gv
    rw [if_pos hmm]
  have b : ∀ j k, k = mn + j → k ≤ 8 → smS (sN tx N c h) set k = smS (sN tx N c h) set mn := by
    intro j
    induction j with
    | zero => intro k hk _; rw [hk, Nat.add_zero]
    | succ j ih =>
      intro k hk h8
      subst hk
      show smS (sN tx N c h) set (mn + j) + (if set.testBit (mn + j) then sN tx N c h (mn + j) else 0) = _
      rw [ih _ rfl (by omega), if_neg (fun q => by have := set_ok hs (mn + j) (by omega) q; omega), Nat.add_zero]
  rw [a, b (8 - mn) 8 (by omega) (by omega)]
def vS (tx : Option (List lw_Ln)) (N : Nat → Nat) (E : Nat → Int64) (h set i : Nat) : Nat := min (smS (sN tx N (bcl E i) h) set 8) 12
theorem fs_in {tx : Option (List lw_Ln)} {w : qW} {mn st : Nat} {N : Nat → Nat} {E : Nat → Int64} {h T i set : Nat} {br : Bool} (hP : PC mn st N w) (hB : bkS E T br w) (hW : wmS tx mn N E h T w) (hT : T ≤ 20) (hi : i < T) (hs : set < 2 ^ mn) (hE : ∀ i, i < 60 → -128 ≤ (E i).toInt ∧ (E i).toInt ≤ 127) (k2 : qW → Int32 → Int32 → Option (Int32 × qW)) : ∀ (k F m : Nat), m + k = mn → k < F → f_X0_fitsSet_R15 k2 F w (nI set) (nI i) (nI (smS (gv tx mn N (bcl E i) h) set m)) (nI m) = if tdk E (vS tx N E h set) i then k2 w (nI set) (nI (i + 1)) else some (0, w)
  | 0, F + 1, m, h1, _ => by
    have h7 := hP.2.2.1
    obtain ⟨b1, b2, b3⟩ := id hB
    have hm : m = mn := by omega
    subst hm
    have hle := smS_le (g := gv tx m N (bcl E i) h) (fun m => gv_le ..) set m
    have hv : vS tx N E h set i ≤ 12 := Nat.min_le_right ..
    have hte := told_eq (E := E) (V := vS tx N E h set) (i := i) (by omega) (hE _ (by omega)).1 (hE _ (by omega)).2
    show f_X0_fitsSet_B15 k2 (f_X0_fitsSet_R15 k2 F) w (nI set) (nI i) _ (nI m) = _
    unfold f_X0_fitsSet_B15
    rw [hP.1, if_pos (nI_le (by omega) (by omega)), z_bn, n_min (by omega), smS_gv h7 hs, ld_lit _ _ _ _ (by omega) (by omega), (b3 i hi).2, z_bn, nI_1]
    have hte : (nI (min (smS (sN tx N (bcl E i) h) set 8) 12) = Int64.toInt32 (E (3 * i + 2))) ↔ tdk E (vS tx N E h set) i = true := hte
    by_cases hc : nI (min (smS (sN tx N (bcl E i) h) set 8) 12) = Int64.toInt32 (E (3 * i + 2))
    · rw [if_pos hc, if_pos (hte.mp hc)]
    · rw [if_neg hc, if_neg (fun q => hc (hte.mpr q))]
      rfl
  | k + 1, F + 1, m, h1, h2 => by
    have h7 := hP.2.2.1
    have h128 := p2_128 h7
    have ih := fs_in hP hB hW hT hi hs hE k2 k F (m + 1) (by omega) (by omega)
    have es : smS (gv tx mn N (bcl E i) h) set (m + 1) = smS (gv tx mn N (bcl E i) h) set m + (if set.testBit m then gv tx mn N (bcl E i) h m else 0) := rfl
    rw [es] at ih
    show f_X0_fitsSet_B15 k2 (f_X0_fitsSet_R15 k2 F) w (nI set) (nI i) _ (nI m) = _
    unfold f_X0_fitsSet_B15 f_X0_fitsSet_B51
    rw [hP.1, if_neg (nI_ge (by omega) (by omega)), bt_8 set (by omega) m (by omega)]
    simp only [z_bn, nI_1]
    cases hb : set.testBit m with
    | true =>
      rw [hb] at ih
      rw [if_pos rfl, if_neg (by decide), n7b i m (by omega) (by omega), ld_lit _ _ _ _ (by omega) (by omega), hW i hi m (by omega), nI_add]
      exact ih
    | false =>
      rw [hb] at ih
      rw [if_neg (show ¬ false = true by decide), if_pos (by decide)]
      exact ih
theorem fs_out {tx : Option (List lw_Ln)} {w : qW} {mn st : Nat} {N : Nat → Nat} {E : Nat → Int64} {h T set : Nat} {br : Bool} (hP : PC mn st N w) (hB : bkS E T br w) (hW : wmS tx mn N E h T w) (hT : T ≤ 20) (hs : set < 2 ^ mn) (hE : ∀ i, i < 60 → -128 ≤ (E i).toInt ∧ (E i).toInt ≤ 127) : ∀ (k F i : Nat), i + k = T → k < F → f_X0_fitsSet_R2 F w (nI set) (nI i) = some (b2i (decide (fwv (tdk E (vS tx N E h set)) br T k i = -2)), w)
  | 0, F + 1, i, h1, _ => by
    show f_X0_fitsSet_B2 (f_X0_fitsSet_R2 F) w (nI set) (nI i) = some (b2i (decide ((if br then nI T else -2) = -2)), w)
    unfold f_X0_fitsSet_B2
    rw [hB.1, hB.2.1, if_pos (nI_le (by omega) (by omega))]
    cases br
    · rw [if_pos bz, if_neg (show ¬ false = true by decide), decide_eq_true (show (-2 : Int32) = -2 from rfl)]; rfl
    · rw [if_neg bnz, if_pos rfl, decide_eq_false (nI_ne2 (by omega))]; rfl
  | k + 1, F + 1, i, h1, h2 => by
    have h7 := hP.2.2.1
    have e := fs_in hP hB hW hT (i := i) (by omega) hs hE (f_X0_fitsSet_R2 F) mn q_fuel 0 (by omega) (by rw [q_fuel_eq]; omega)
    have ih := fs_out hP hB hW hT hs hE k F (i + 1) (by omega) (by omega)
    show f_X0_fitsSet_B2 (f_X0_fitsSet_R2 F) w (nI set) (nI i) = some (b2i (decide ((if tdk E (vS tx N E h set) i then fwv (tdk E (vS tx N E h set)) br T k (i + 1) else nI i) = -2)), w)
    unfold f_X0_fitsSet_B2
    rw [hB.1, if_neg (nI_ge (by omega) (by omega)), show f_X0_fitsSet_R15 (f_X0_fitsSet_R2 F) q_fuel w (nI set) (nI i) 0 0 = _ from e]
    by_cases hc : tdk E (vS tx N E h set) i = true
    · rw [if_pos hc, if_pos hc]; exact ih
    · rw [if_neg hc, if_neg hc, decide_eq_false (nI_ne2 (by omega))]; rfl
def fitS (tx : Option (List lw_Ln)) (N : Nat → Nat) (E : Nat → Int64) (h T : Nat) (br : Bool) (set : Nat) : Bool := decide (fwv (tdk E (vS tx N E h set)) br T T 0 = -2)
theorem s_fitsSet {tx : Option (List lw_Ln)} {w : qW} {mn st : Nat} {N : Nat → Nat} {E : Nat → Int64} {h T set : Nat} {br : Bool} (hP : PC mn st N w) (hB : bkS E T br w) (hW : wmS tx mn N E h T w) (hT : T ≤ 20) (hs : set < 2 ^ mn) (hE : ∀ i, i < 60 → -128 ≤ (E i).toInt ∧ (E i).toInt ≤ 127) : f_X0_fitsSet w (nI set) = some (b2i (fitS tx N E h T br set), w) := fs_out hP hB hW hT hs hE T q_fuel 0 (by omega) (by rw [q_fuel_eq]; omega)
theorem evb_1 (mn : Nat) : evb mn + 1 = 2 ^ mn := by
  have : 0 < 2 ^ mn := Nat.two_pow_pos mn
  unfold evb
  omega
theorem s_sets {tx : Option (List lw_Ln)} {w : qW} {mn st : Nat} {N : Nat → Nat} {E : Nat → Int64} {h T : Nat} {br : Bool} (hP : PC mn st N w) (hB : bkS E T br w) (hW : wmS tx mn N E h T w) (hT : T ≤ 20) (hE : ∀ i, i < 60 → -128 ≤ (E i).toInt ∧ (E i).toInt ≤ 127) : ∀ (k F i : Nat), i + k = 2 ^ mn → k < F → f_X0_setsThatFit_R4 F w (nI (cntF (fitS tx N E h T br) i)) (nI i) = some (nI (cntF (fitS tx N E h T br) (2 ^ mn)), w)
  | 0, F + 1, i, h1, _ => by
    have h128 := p2_128 hP.2.2.1
    have hev := evb_1 mn
    show f_X0_setsThatFit_B4 (f_X0_setsThatFit_R4 F) w _ (nI i) = _
    unfold f_X0_setsThatFit_B4
    rw [s_evb hP, z_cl, if_pos (by rw [z_lt, nI_toInt (by omega), nI_toInt (by omega)]; omega), show i = 2 ^ mn by omega]
  | k + 1, F + 1, i, h1, h2 => by
    have h128 := p2_128 hP.2.2.1
    have hev := evb_1 mn
    have ih := s_sets hP hB hW hT hE k F (i + 1) (by omega) (by omega)
    show f_X0_setsThatFit_B4 (f_X0_setsThatFit_R4 F) w _ (nI i) = _
    unfold f_X0_setsThatFit_B4 f_X0_setsThatFit_B26
    rw [s_evb hP, z_cl, if_neg (by rw [z_lt, nI_toInt (by omega), nI_toInt (by omega)]; omega), s_fitsSet hP hB hW hT (by omega) hE, z_cl]
    simp only [z_bn, nI_1]
    cases hv : fitS tx N E h T br i with
    | true => rw [cntF_y hv] at ih; rw [if_neg bnz]; exact ih
    | false => rw [cntF_n hv] at ih; rw [if_pos bz]; exact ih
theorem s_leastS {tx : Option (List lw_Ln)} {w : qW} {mn st : Nat} {N : Nat → Nat} {E : Nat → Int64} {h T : Nat} {br : Bool} (hP : PC mn st N w) (hB : bkS E T br w) (hW : wmS tx mn N E h T w) (hT : T ≤ 20) (hE : ∀ i, i < 60 → -128 ≤ (E i).toInt ∧ (E i).toInt ≤ 127) : ∀ (k F i : Nat), i + k = 2 ^ mn → k < F → cntF (fitS tx N E h T br) i = 0 → f_X0_leastSetThatFits_R2 F w (nI i) = some (fsF (fitS tx N E h T br) (2 ^ mn), w)
  | 0, F + 1, i, h1, _, h0 => by
    have h128 := p2_128 hP.2.2.1
    have hev := evb_1 mn
    have hi : i = 2 ^ mn := by omega
    show f_X0_leastSetThatFits_B2 (f_X0_leastSetThatFits_R2 F) w (nI i) = _
    unfold f_X0_leastSetThatFits_B2
    rw [s_evb hP, z_cl, if_pos (by rw [z_lt, nI_toInt (by omega), nI_toInt (by omega)]; omega), ← hi, fsF_0 i h0]
  | k + 1, F + 1, i, h1, h2, h0 => by
    have h128 := p2_128 hP.2.2.1
    have hev := evb_1 mn
    show f_X0_leastSetThatFits_B2 (f_X0_leastSetThatFits_R2 F) w (nI i) = _
    unfold f_X0_leastSetThatFits_B2
    rw [s_evb hP, z_cl, if_neg (by rw [z_lt, nI_toInt (by omega), nI_toInt (by omega)]; omega), s_fitsSet hP hB hW hT (by omega) hE, z_cl]
    simp only [z_bn, nI_1]
    cases hv : fitS tx N E h T br i with
    | true =>
      have := (fsF_hit hv h0 k).1
      rw [show i + 1 + k = 2 ^ mn by omega] at this
      rw [if_neg bnz, this]
    | false =>
      rw [if_pos bz]
      exact s_leastS hP hB hW hT hE k F (i + 1) (by omega) (by omega) (by rw [cntF_n hv]; exact h0)
def surF (f : Nat → Bool) (e : Nat) : Nat → Nat
  | 0 => e
  | k + 1 => if f k then surF f e k &&& k else surF f e k
theorem surF_le (f : Nat → Bool) (e : Nat) : ∀ k, surF f e k ≤ e
  | 0 => Nat.le_refl e
  | k + 1 => by
    show (if f k then surF f e k &&& k else surF f e k) ≤ e
    by_cases h : f k
    · rw [if_pos h]; exact Nat.le_trans Nat.and_le_left (surF_le f e k)
    · rw [if_neg h]; exact surF_le f e k
theorem i_and {a b : Nat} (ha : a < 2 ^ 31) (hb : b < 2 ^ 31) : nI a &&& nI b = nI (a &&& b) := by
  apply Int32.toBitVec_inj.mp
  apply BitVec.eq_of_toNat_eq
  have e1 : (nI a).toBitVec.toNat = a := by
    show (BitVec.ofNat 32 a).toNat = a
    rw [BitVec.toNat_ofNat, Nat.mod_eq_of_lt (by omega)]
  have e2 : (nI b).toBitVec.toNat = b := by
    show (BitVec.ofNat 32 b).toNat = b
    rw [BitVec.toNat_ofNat, Nat.mod_eq_of_lt (by omega)]
  have e4 : a &&& b ≤ a := Nat.and_le_left
  have e5 : (nI (a &&& b)).toBitVec.toNat = a &&& b := by
    show (BitVec.ofNat 32 (a &&& b)).toNat = a &&& b
    rw [BitVec.toNat_ofNat, Nat.mod_eq_of_lt (by omega)]
  rw [Int32.toBitVec_and, BitVec.toNat_and, e1, e2, e5]
theorem s_cert {tx : Option (List lw_Ln)} {w : qW} {mn st : Nat} {N : Nat → Nat} {E : Nat → Int64} {h T : Nat} {br : Bool} (hP : PC mn st N w) (hB : bkS E T br w) (hW : wmS tx mn N E h T w) (hT : T ≤ 20) (hE : ∀ i, i < 60 → -128 ≤ (E i).toInt ∧ (E i).toInt ≤ 127) : ∀ (k F i : Nat) (any : Int32), i + k = 2 ^ mn → k < F → any = (if cntF (fitS tx N E h T br) i = 0 then 0 else 1) → f_X0_certain_R12 F w (nI (surF (fitS tx N E h T br) (evb mn) i)) any (nI i) = some (if cntF (fitS tx N E h T br) (2 ^ mn) = 0 then 0 else nI (surF (fitS tx N E h T br) (evb mn) (2 ^ mn)), w)
  | 0, F + 1, i, any, h1, _, ha => by
    have h128 := p2_128 hP.2.2.1
    have hev := evb_1 mn
    have hi : i = 2 ^ mn := by omega
    show f_X0_certain_B12 (f_X0_certain_R12 F) w _ any (nI i) = _
    unfold f_X0_certain_B12
    rw [s_evb hP, z_cl, if_pos (by rw [z_lt, nI_toInt (by omega), nI_toInt (by omega)]; omega), ← hi, ha]
    by_cases hc : cntF (fitS tx N E h T br) i = 0
    · rw [if_pos hc, if_pos hc, if_pos rfl]
    · rw [if_neg hc, if_neg hc, if_neg (by decide)]
  | k + 1, F + 1, i, any, h1, h2, ha => by
    have h128 := p2_128 hP.2.2.1
    have hev := evb_1 mn
    have hl := surF_le (fitS tx N E h T br) (evb mn) i
    have es : surF (fitS tx N E h T br) (evb mn) (i + 1) = if fitS tx N E h T br i then surF (fitS tx N E h T br) (evb mn) i &&& i else surF (fitS tx N E h T br) (evb mn) i := rfl
    show f_X0_certain_B12 (f_X0_certain_R12 F) w _ any (nI i) = _
    unfold f_X0_certain_B12 f_X0_certain_B37
    rw [s_evb hP, z_cl, if_neg (by rw [z_lt, nI_toInt (by omega), nI_toInt (by omega)]; omega), s_fitsSet hP hB hW hT (by omega) hE, z_cl]
    simp only [z_bn, nI_1]
    cases hv : fitS tx N E h T br i with
    | true =>
      have ih := s_cert hP hB hW hT hE k F (i + 1) 1 (by omega) (by omega) (by rw [cntF_y hv, if_neg (by omega)])
      rw [es, if_pos hv] at ih
      rw [if_neg bnz, i_and (by omega) (by omega)]
      exact ih
    | false =>
      have ih := s_cert hP hB hW hT hE k F (i + 1) any (by omega) (by omega) (by rw [cntF_n hv]; exact ha)
      rw [es, if_neg (by rw [hv]; decide)] at ih
      rw [if_pos bz]
      exact ih
theorem m_who_R {tx : Option (List lw_Ln)} {mn st : Nat} {N : Nat → Nat} {E : Nat → Int64} {d sz h T : Nat} {br : Bool} {what : Int32} (ho : opn E sz T br) (hh : h < 12) : ∀ (k F i : Nat) (w : qW), lSt tx w → PM mn mn st N w → rwS w d sz E → i + k = 2 ^ mn → k < F → rto (f_X11_who_R64 F w (nI d) (nI h) what (nI (cntF (fitS tx N E h T br) i)) (fsF (fitS tx N E h T br) i) (nI (surF (fitS tx N E h T br) (evb mn) i)) (nI i)) (if what = 0 then nI (cntF (fitS tx N E h T br) (2 ^ mn)) else if what = 1 then fsF (fitS tx N E h T br) (2 ^ mn) else if cntF (fitS tx N E h T br) (2 ^ mn) = 0 then 0 else nI (surF (fitS tx N E h T br) (evb mn) (2 ^ mn))) w
  | 0, F + 1, i, w, hL, hP, hr, h1, _ => by
    have h128 := p2_128 hP.2.2.1
    have hev := evb_1 mn
    have hi : i = 2 ^ mn := by omega
    have hcl := cntF_le (fitS tx N E h T br) i
    show rto (f_X11_who_B64 (f_X11_who_R64 F) w (nI d) (nI h) what _ _ _ (nI i)) _ w
    unfold f_X11_who_B64
    rw [m_evb hP, z_cl, if_pos (by rw [z_lt, nI_toInt (by omega), nI_toInt (by omega)]; omega), ← hi]
    refine ⟨w, ?_, fr0_rf w⟩
    by_cases hz : what = 0
    · rw [if_pos hz, if_pos hz]
    · rw [if_neg hz, if_neg hz]
      by_cases hz1 : what = 1
      · rw [if_pos hz1, if_pos hz1]
      · rw [if_neg hz1, if_neg hz1]
        by_cases hc : cntF (fitS tx N E h T br) i = 0
        · rw [if_pos hc, if_pos (by rw [hc]; rfl)]
        · rw [if_neg hc, if_neg (by rw [z_eq, c0, nI_toInt (by omega)]; omega)]
  | k + 1, F + 1, i, w, hL, hP, hr, h1, h2 => by
    have h7 := hP.2.2.1
    have h128 := p2_128 h7
    have hev := evb_1 mn
    have hl := surF_le (fitS tx N E h T br) (evb mn) i
    have hcl := cntF_le (fitS tx N E h T br) i
    have es : surF (fitS tx N E h T br) (evb mn) (i + 1) = if fitS tx N E h T br i then surF (fitS tx N E h T br) (evb mn) i &&& i else surF (fitS tx N E h T br) (evb mn) i := rfl
    have hT := ho.1
    obtain ⟨w4, e4, f4⟩ := m_ff (tx := tx) (N := N) (mn := mn) (mk := mn) (st := st) (set := i) hh (by omega) (set_ok (by omega)) ho T q_fuel 0 w hL hP hr (by omega) (by rw [q_fuel_eq]; omega)
    obtain ⟨w3, e3, f3⟩ := m_who_R (what := what) ho hh k F (i + 1) w4 (lSt_fr f4 hL) (PM_fr f4 hP) (rwS_frB (frB_0 f4) hr) (by omega) (by omega)
    refine ⟨w3, ?_, fr0_tr f4 f3⟩
    show f_X11_who_B64 (f_X11_who_R64 F) w (nI d) (nI h) what _ _ _ (nI i) = _
    unfold f_X11_who_B64 f_X11_who_B98 f_X11_who_B110
    rw [m_evb hP, z_cl, if_neg (by rw [z_lt, nI_toInt (by omega), nI_toInt (by omega)]; omega), show f_X11_firstFalse w (nI d) (nI h) (nI i) = _ from e4, z_cl]
    simp only [z_bn, nI_1]
    have hfit : (fwv (tdk E (fun j => min (smS (sN tx N (bcl E j) h) i 8) 12)) br T T 0 = -2) ↔ fitS tx N E h T br i = true := ⟨fun q => decide_eq_true q, fun q => of_decide_eq_true q⟩
    cases hv : fitS tx N E h T br i with
    | true =>
      have ecf : fsF (fitS tx N E h T br) (i + 1) = if cntF (fitS tx N E h T br) i = 0 then nI i else fsF (fitS tx N E h T br) i := by
        show (if fitS tx N E h T br i then _ else _) = _
        rw [hv]; rfl
      rw [cntF_y hv, ecf, es, if_pos hv] at e3
      rw [if_pos (hfit.mpr hv), i_and (by omega) (by omega)]
      by_cases hz : cntF (fitS tx N E h T br) i = 0
      · rw [if_pos hz] at e3
        rw [if_pos (by rw [hz]; rfl)]
        exact e3
      · rw [if_neg hz] at e3
        rw [if_neg (by rw [z_eq, c0, nI_toInt (by omega)]; omega)]
        exact e3
    | false =>
      rw [cntF_n hv, fsF_n hv, es, if_neg (by rw [hv]; decide)] at e3
      rw [if_neg (fun q => by rw [hfit.mp q] at hv; exact no_ft hv.symm)]
      exact e3
theorem s_whoC {tx : Option (List lw_Ln)} {w : qW} {mn st : Nat} {N : Nat → Nat} {E : Nat → Int64} {h T : Nat} {br : Bool} (hP : PC mn st N w) (hB : bkS E T br w) (hW : wmS tx mn N E h T w) (hT : T ≤ 20) (hE : ∀ i, i < 60 → -128 ≤ (E i).toInt ∧ (E i).toInt ≤ 127) (c : Int32) : (if c = 0 then (q_cl (f_X0_setsThatFit w ) (fun r17 w18 => some (r17, w18))) else (if c = 1 then (q_cl (f_X0_leastSetThatFits w ) (fun r20 w21 => some (r20, w21))) else (q_cl (f_X0_certain w ) (fun r23 w24 => some (r23, w24))))) = some (if c = 0 then nI (cntF (fitS tx N E h T br) (2 ^ mn)) else if c = 1 then fsF (fitS tx N E h T br) (2 ^ mn) else if cntF (fitS tx N E h T br) (2 ^ mn) = 0 then 0 else nI (surF (fitS tx N E h T br) (evb mn) (2 ^ mn)), w) := by
  have h128 := p2_128 hP.2.2.1
  by_cases hz : c = 0
  · have e := s_sets hP hB hW hT hE (2 ^ mn) q_fuel 0 (by omega) (by rw [q_fuel_eq]; omega)
    rw [if_pos hz, if_pos hz]
    unfold f_X0_setsThatFit
    rw [show f_X0_setsThatFit_R4 q_fuel w 0 0 = _ from e, z_cl]
  · rw [if_neg hz, if_neg hz]
    by_cases hz1 : c = 1
    · have e := s_leastS hP hB hW hT hE (2 ^ mn) q_fuel 0 (by omega) (by rw [q_fuel_eq]; omega) rfl
      rw [if_pos hz1, if_pos hz1]
      unfold f_X0_leastSetThatFits
      rw [show f_X0_leastSetThatFits_R2 q_fuel w 0 = _ from e, z_cl]
    · have e := s_cert hP hB hW hT hE (2 ^ mn) q_fuel 0 0 (by omega) (by rw [q_fuel_eq]; omega) rfl
      rw [if_neg hz1, if_neg hz1]
      unfold f_X0_certain
      rw [s_evb hP, z_cl, show f_X0_certain_R12 q_fuel w (nI (evb mn)) 0 0 = _ from e, z_cl]
theorem p_who : j_who := by
  intro a b c w hJ
  show ∃ r w1 w2, f_X10_who w a b c = some (r, w1) ∧ f_X11_who w1 a b c = some (r, w2) ∧ Jn w2
  obtain ⟨tx, hL⟩ := lSt_of hJ
  obtain ⟨mn, st, N, hC, hM, -⟩ := PN_of hJ
  have h7 := hC.2.2.1
  have h128 := p2_128 h7
  by_cases ha : 0 ≤ a.toInt ∧ a.toInt < 6
  · obtain ⟨d, r, ea, hd6, hrow⟩ := row_0 hJ ha
    have eal : 36 + 2 * a.toInt.toNat = 36 + 2 * d := by rw [ea, nI_toInt (by omega)]; omega
    obtain ⟨r0, hr0, hri⟩ : ∃ r0, ¬ r0 = -1 ∧ f_X11_rowIs w a 0 = some (r0, w) := by
      rcases hrow with ⟨r1, r2, r0, r3, r4⟩ | ⟨r3, r4, sz, E, hr⟩
      · exact ⟨r, r2, r4⟩
      · exact ⟨1, by decide, r4 w rfl⟩
    by_cases hb : 0 ≤ b.toInt ∧ b.toInt < 12
    · by_cases g3 : 0 ≤ c.toInt ∧ c.toInt < 3
      · obtain ⟨h, hq⟩ : ∃ s, s = b.toInt.toNat := ⟨_, rfl⟩
        have eb : b = nI h := by rw [hq]; exact z_nI _ hb.1
        have hh : h < 12 := by omega
        have eC : f_X10_who w a b c = q_cl (f_X6_refusalAs w (36 + 2 * d) 0) (fun r9 w10 => if r9 = 0 then (q_cl (f_X0_open w10 (36 + 2 * d)) (fun _ w14 => q_cl (f_X0_weighMen w14 b) (fun _ w16 => if c = 0 then (q_cl (f_X0_setsThatFit w16 ) (fun r17 w18 => some (r17, w18))) else (if c = 1 then (q_cl (f_X0_leastSetThatFits w16 ) (fun r20 w21 => some (r20, w21))) else (q_cl (f_X0_certain w16 ) (fun r23 w24 => some (r23, w24))))))) else (some (r9, w10))) := by
          unfold f_X10_who
          rw [p_isShelf, z_cl, bd_t ha.1 ha.2, if_neg n10, p_isHour, z_cl, bd_t hb.1 hb.2, if_neg n10, p_choice, z_cl, c3, bd_t g3.1 g3.2, if_neg n10]
          simp only [s_al _ _ ha, eal]
        rcases hrow with ⟨r1, r2, r0, r3, r4⟩ | ⟨r3, r4, sz, E, hr⟩
        · refine ⟨r, w, w, ?_, ?_, hJ⟩
          · rw [eC, r3, z_cl, if_neg r0]
          · unfold f_X11_who
            rw [r4, z_cl, if_neg r2, m_isHour, z_cl, bd_t hb.1 hb.2, if_neg n10, m_w02, z_cl, bd_t g3.1 g3.2, if_neg n10, r4, z_cl, if_neg (by rw [z_le]; rw [z_lt] at r1; omega), r4, z_cl]
        · obtain ⟨w1, T, br, o1, f1, o3, o4⟩ := s_open hr
          have hE := fun i (hi : i < 60) => (hr.2.2.2.2.2 i hi).2
          obtain ⟨w2, l1, f2, l3, l4⟩ := s_weighMen (tx := tx) (N := N) (lSt_frB f1.1 hL) (PC_frB f1.1 hC) o3 hh o4.1
          have f12 := frC_tr f1 f2
          have hM2 := PM_frB f12.1 hM
          have e3 := s_whoC (PC_frB f12.1 hC) l3 l4 o4.1 hE c
          obtain ⟨w4, e4, f4⟩ := m_who_R (tx := tx) (N := N) (mn := mn) (what := c) o4 hh (2 ^ mn) q_fuel 0 w2 (lSt_frB f12.1 hL) hM2 (rwS_frB f12.1 hr) (by omega) (by rw [q_fuel_eq]; omega)
          refine ⟨_, w2, w4, (by rw [eC, r3, z_cl, if_pos rfl, o1, z_cl, eb, l1, z_cl]; exact e3), ?_, Jn_fr0 (Jn_frC hJ f12) f4⟩
          · have h63 := frBA f12.1 63 (by omega)
            unfold f_X11_who
            rw [r4 w2 h63, z_cl, if_neg (by decide), m_isHour, z_cl, bd_t hb.1 hb.2, if_neg n10, m_w02, z_cl, bd_t g3.1 g3.2, if_neg n10, r4 w2 h63, z_cl, if_pos (by decide), m_evb hM2, z_cl, ea, eb]
            exact e4
      · refine ⟨-1, w, w, ?_, ?_, hJ⟩
        · unfold f_X10_who
          rw [p_isShelf, z_cl, bd_t ha.1 ha.2, if_neg n10, p_isHour, z_cl, bd_t hb.1 hb.2, if_neg n10, p_choice, z_cl, c3, bd_f g3, if_pos rfl]
        · unfold f_X11_who
          rw [hri, z_cl, if_neg hr0, m_isHour, z_cl, bd_t hb.1 hb.2, if_neg n10, m_w02, z_cl, bd_f g3, if_pos rfl]
    · refine ⟨-1, w, w, ?_, ?_, hJ⟩
      · unfold f_X10_who
        rw [p_isShelf, z_cl, bd_t ha.1 ha.2, if_neg n10, p_isHour, z_cl, bd_f hb, if_pos rfl]
      · unfold f_X11_who
        rw [hri, z_cl, if_neg hr0, m_isHour, z_cl, bd_f hb, if_pos rfl]
  · refine ⟨-1, w, w, ?_, ?_, hJ⟩
    · unfold f_X10_who
      rw [p_isShelf, z_cl, bd_f ha, if_pos rfl]
    · unfold f_X11_who
      rw [p_rowIs_f ha, z_cl, if_pos rfl]
