/-! clouds by draws -/
theorem s_fill_R (nn id : Nat) (v : Int32) (hn : nn ≤ 4000) : ∀ (k F i : Nat) (w : qW), i + k = nn → k < F → f_J7_fill_53178_R5 nn id F w v (nI i) (nI nn) = some ((), q_sA w id (fil (fun _ => v) (q_A w id) i nn))
  | 0, F + 1, i, w, h1, _ => by
    show f_J7_fill_53178_B5 nn id (f_J7_fill_53178_R5 nn id F) w v (nI i) (nI nn) = _
    unfold f_J7_fill_53178_B5
    rw [if_pos (nI_le (by omega) (by omega)), fil_stop (by omega), sA_self]
  | k + 1, F + 1, i, w, h1, h2 => by
    show f_J7_fill_53178_B5 nn id (f_J7_fill_53178_R5 nn id F) w v (nI i) (nI nn) = _
    have t0 : (nI i).toInt = (i : Int) := nI_toInt (by omega)
    unfold f_J7_fill_53178_B5
    rw [if_neg (nI_ge (by omega) (by omega)), z_st _ _ _ _ _ _ (by rw [t0]; omega), z_bn, nI_1, s_fill_R nn id v hn k F (i + 1) _ (by omega) (by omega), t0, sA_two, g_AA, if_pos rfl]
    have := fil_step (F := fun _ => v) (A := q_A w id) (i := i) (n := nn) (by omega)
    rw [show ((i : Int)).toNat = i by omega, this]
theorem s_fill (nn id : Nat) (v : Int32) (hn : nn ≤ 4000) (w : qW) : f_J7_fill_53178 nn w id v = some ((), q_sA w id (fil (fun _ => v) (q_A w id) 0 nn)) := by
  unfold f_J7_fill_53178
  rw [z_bn]
  exact s_fill_R nn id v hn nn q_fuel 0 w (by omega) (by rw [q_fuel_eq]; omega)
def lck (tx : Option (List lw_Ln)) (mn : Nat) (N : Nat → Nat) (s h m : Nat) : Bool := decide (sm (gv tx mn N (N (32 + s)) h) 7 - gv tx mn N (N (32 + s)) h m < N (48 + s))
def cnd (tx : Option (List lw_Ln)) (mn : Nat) (N : Nat → Nat) (c : Nat → Bool) (s h m : Nat) : Bool := c s && (wnt N s h && lck tx mn N s h m)
theorem gv_sm {g : Nat → Nat} : ∀ (k m : Nat), m < k → g m ≤ sm g k
  | 0, m, h => by omega
  | k + 1, m, h => by
    show g m ≤ sm g k + g k
    by_cases hm : m = k
    · subst hm; omega
    · have := gv_sm (g := g) k m (by omega); omega
theorem d_in {tx : Option (List lw_Ln)} {mn st : Nat} {N : Nat → Nat} {w : qW} (hP : PC mn st N w) {s h : Nat} (hs : s < st) (hh : h < 12) (hd : dn tx mn N w s h) (k10 : qW → Int32 → Int32 → Option (Unit × qW)) (l1 : Int32) (cs : Bool) : ∀ (k F i : Nat) (A : Nat → Int32), i + k = 7 → k < F → ∃ A2, f_X7_countLost_R45 k10 F (q_sA w 15 A) l1 (nI (12 * s + h)) (b2i cs) (nI i) = k10 (q_sA w 15 A2) l1 (nI (12 * s + h + 1)) ∧ ∀ h2 j, h2 < 12 → j < 7 → A2 (7 * h2 + j) = if h2 = h ∧ i ≤ j ∧ (cs && (wnt N s h && lck tx mn N s h j)) = true then A (7 * h2 + j) + 1 else A (7 * h2 + j)
  | k, 0, i, A, _, h2 => by omega
  | k, F + 1, i, A, h1, h2 => by
    have h7 := hP.2.2.1
    have h8 := hP.2.2.2.1
    have hPA : PC mn st N (q_sA w 15 A) := hP
    have hl := (hiN_le hP hs).2.2
    show ∃ A2, f_X7_countLost_B45 k10 (f_X7_countLost_R45 k10 F) (q_sA w 15 A) l1 (nI (12 * s + h)) (b2i cs) (nI i) = _ ∧ _
    unfold f_X7_countLost_B45 f_X7_countLost_B116
    cases cs with
    | false =>
      refine ⟨A, by rw [if_pos bz, z_bn, nI_1], fun h2 j _ _ => ?_⟩
      rw [if_neg (fun q => no_ft q.2.2)]
    | true =>
      rw [if_neg bnz, s_wanted hPA hs hh, z_cl]
      cases hw : wnt N s h with
      | false =>
        refine ⟨A, by rw [if_pos bz, z_bn, nI_1], fun h2 j _ _ => ?_⟩
        rw [if_neg (fun q => no_ft q.2.2)]
      | true =>
        rw [if_neg bnz]
        cases k with
        | zero =>
          have hi : i = 7 := by omega
          subst hi
          refine ⟨A, by rw [if_pos (by decide), z_bn, nI_1], fun h2 j _ hj => ?_⟩
          rw [if_neg (by omega)]
        | succ k =>
          have b11 := sm_le (g := gv tx mn N (N (32 + s)) h) (fun m => gv_le ..) 7
          have b12 := gv_sm (g := gv tx mn N (N (32 + s)) h) 7 i (by omega)
          have q11 : q_A (q_sA w 15 A) 11 (12 * s + h) = nI (sm (gv tx mn N (N (32 + s)) h) 7) := hd.1
          have q12 : q_A (q_sA w 15 A) 12 (7 * (12 * s + h) + i) = nI (gv tx mn N (N (32 + s)) h i) := hd.2 i (by omega)
          rw [if_neg (by rw [z_le, c7, nI_toInt (by omega)]; omega), ld_lit _ _ _ _ (by omega) (by omega), q11, n7 _ _ (by omega) (by omega), ld_lit _ _ _ _ (by omega) (by omega), q12, s_least hPA hs hh, z_cl, i_sub b12 (by omega)]
          unfold f_X7_countLost_B110
          rw [z_bn, nI_1, z_bn]
          have el : lck tx mn N s h i = decide (sm (gv tx mn N (N (32 + s)) h) 7 - gv tx mn N (N (32 + s)) h i < N (48 + s)) := rfl
          by_cases hc : sm (gv tx mn N (N (32 + s)) h) 7 - gv tx mn N (N (32 + s)) h i < N (48 + s)
          · rw [decide_eq_true hc] at el
            rw [if_neg (by rw [z_le, nI_toInt (by omega), nI_toInt (by omega)]; omega), i_12r s h (by omega) hh]
            rw [show nI h * 7 + nI i = nI (7 * h + i) from by rw [show nI h * 7 = nI (h * 7) from i_mul (b := 7) (by omega) (by omega) (by omega), nI_add, Nat.mul_comm]]
            rw [ld_lit _ _ _ _ (by omega) (by omega), st_lit _ _ _ _ _ _ (by omega) (by omega), sA_two, z_bn, g_AA, if_pos rfl]
            obtain ⟨A2, g1, g2⟩ := d_in hP hs hh hd k10 l1 true k F (i + 1) (upd A (7 * h + i) (A (7 * h + i) + 1)) (by omega) (by omega)
            refine ⟨A2, ?_, fun h2 j c1 c2 => ?_⟩
            · rw [← g1]
            · rw [g2 h2 j c1 c2, hw]
              unfold upd
              by_cases hx : h2 = h ∧ j = i
              · obtain ⟨x1, x2⟩ := hx
                subst x1; subst x2
                rw [if_neg (by omega), if_pos rfl, if_pos ⟨rfl, Nat.le_refl _, by rw [el]; rfl⟩]
              · rw [if_neg (show ¬ 7 * h2 + j = 7 * h + i by omega)]
                by_cases hy : h2 = h ∧ i + 1 ≤ j ∧ (true && (true && lck tx mn N s h j)) = true
                · rw [if_pos hy, if_pos ⟨hy.1, by omega, hy.2.2⟩]
                · rw [if_neg hy, if_neg (fun q => hy ⟨q.1, by have := q.2.1; omega, q.2.2⟩)]
          · rw [decide_eq_false hc] at el
            rw [if_pos (by rw [z_le, nI_toInt (by omega), nI_toInt (by omega)]; omega)]
            obtain ⟨A2, g1, g2⟩ := d_in hP hs hh hd k10 l1 true k F (i + 1) A (by omega) (by omega)
            refine ⟨A2, g1, fun h2 j c1 c2 => ?_⟩
            rw [g2 h2 j c1 c2, hw]
            by_cases hy : h2 = h ∧ i + 1 ≤ j ∧ (true && (true && lck tx mn N s h j)) = true
            · rw [if_pos hy, if_pos ⟨hy.1, by omega, hy.2.2⟩]
            · refine (if_neg hy).trans (if_neg (fun q => hy ⟨q.1, ?_, q.2.2⟩)).symm
              by_cases hji : j = i
              · subst hji
                have := q.2.2
                rw [el] at this
                exact no_ft this
              · have := q.2.1
                omega
def loN (tx : Option (List lw_Ln)) (mn : Nat) (N : Nat → Nat) (c : Nat → Bool) (i h m : Nat) : Nat := sm (fun q => if q % 12 = h ∧ cnd tx mn N c (q / 12) h m = true then 1 else 0) i
theorem d_out {tx : Option (List lw_Ln)} {mn st : Nat} {N : Nat → Nat} {w : qW} (hP : PC mn st N w) (hd : ∀ s h, s < st → h < 12 → dn tx mn N w s h) (l1 : Int32) (c : Nat → Bool) (hc : ∀ s, s < st → ((l1 < 0 ∨ l1 = nI s) ↔ c s = true)) : ∀ (k F i : Nat) (A : Nat → Int32), i + k = 12 * st → k < F → (∀ h j, h < 12 → j < 7 → A (7 * h + j) = nI (loN tx mn N c i h j)) → ∃ A2, f_X7_countLost_R10 F (q_sA w 15 A) l1 (nI i) = some ((), q_sA w 15 A2) ∧ ∀ h j, h < 12 → j < 7 → A2 (7 * h + j) = nI (loN tx mn N c (12 * st) h j)
  | 0, F + 1, i, A, h1, _, hA => by
    have h8 := hP.2.2.2.1
    refine ⟨A, ?_, ?_⟩
    · show f_X7_countLost_B10 (f_X7_countLost_R10 F) (q_sA w 15 A) l1 (nI i) = _
      unfold f_X7_countLost_B10
      rw [show q_I (q_sA w 15 A) 1 2 = nI st from hP.2.1, show (12 : Int32) * nI st = nI (12 * st) from i_mul (a := 12) (by omega) (by omega) (by omega), if_pos (nI_le (by omega) (by omega))]
    · rw [← show i = 12 * st by omega]; exact hA
  | k + 1, F + 1, i, A, h1, h2, hA => by
    have h8 := hP.2.2.2.1
    obtain ⟨s, h, hi, hs, hh⟩ : ∃ s h, i = 12 * s + h ∧ s < st ∧ h < 12 := ⟨i / 12, i % 12, by omega, by omega, by omega⟩
    obtain ⟨A1, g1, g2⟩ := d_in hP hs hh (hd s h hs hh) (f_X7_countLost_R10 F) l1 (c s) 7 q_fuel 0 A (by omega) (by rw [q_fuel_eq]; omega)
    have hA1 : ∀ h j, h < 12 → j < 7 → A1 (7 * h + j) = nI (loN tx mn N c (i + 1) h j) := by
      intro h2 j c1 c2
      rw [g2 h2 j c1 c2, hA h2 j c1 c2]
      have es : loN tx mn N c (i + 1) h2 j = loN tx mn N c i h2 j + (if i % 12 = h2 ∧ cnd tx mn N c (i / 12) h2 j = true then 1 else 0) := rfl
      rw [es, show i % 12 = h by omega, show i / 12 = s by omega]
      by_cases hx : h = h2 ∧ cnd tx mn N c s h2 j = true
      · obtain ⟨x1, x2⟩ := hx
        subst x1
        rw [if_pos ⟨rfl, Nat.zero_le j, x2⟩, if_pos ⟨rfl, x2⟩, nI_1]
      · rw [if_neg hx, if_neg (fun q => hx ⟨q.1.symm, by rw [q.1]; exact q.2.2⟩)]
        rfl
    obtain ⟨A2, k1, k2⟩ := d_out hP hd l1 c hc k F (i + 1) A1 (by omega) (by omega) hA1
    refine ⟨A2, ?_, k2⟩
    show f_X7_countLost_B10 (f_X7_countLost_R10 F) (q_sA w 15 A) l1 (nI i) = _
    unfold f_X7_countLost_B10 f_X7_countLost_B36 f_X7_countLost_B41
    rw [show q_I (q_sA w 15 A) 1 2 = nI st from hP.2.1, show (12 : Int32) * nI st = nI (12 * st) from i_mul (a := 12) (by omega) (by omega) (by omega), if_neg (nI_ge (by omega) (by omega))]
    have ed : nI i / 12 = nI s := by rw [hi]; exact i_12d s h (by omega) hh
    rw [ed]
    have ek : f_X7_countLost_R45 (f_X7_countLost_R10 F) q_fuel (q_sA w 15 A) l1 (nI i) (b2i (c s)) 0 = some ((), q_sA w 15 A2) := by
      rw [← k1, hi]
      exact g1
    cases hcs : c s with
    | true =>
      rw [hcs] at ek
      rcases (hc s hs).mpr hcs with q | q
      · rw [if_pos q]; exact ek
      · by_cases q2 : l1 < 0
        · rw [if_pos q2]; exact ek
        · rw [if_neg q2, if_pos q]; exact ek
    | false =>
      rw [hcs] at ek
      have nn : ¬ (l1 < 0 ∨ l1 = nI s) := fun q => by rw [(hc s hs).mp q] at hcs; exact no_ft hcs.symm
      rw [if_neg (fun q => nn (Or.inl q)), if_neg (fun q => nn (Or.inr q))]
      exact ek
def loS (tx : Option (List lw_Ln)) (mn : Nat) (N : Nat → Nat) (c : Nat → Bool) (st h m : Nat) : Nat := sm (fun s => if cnd tx mn N c s h m = true then 1 else 0) st
theorem sm_one {h : Nat} {x : Nat} : ∀ k, sm (fun q => if q = h ∧ x = 1 then 1 else 0) k = if h < k ∧ x = 1 then 1 else 0
  | 0 => by rw [if_neg (by omega)]; rfl
  | k + 1 => by
    show sm (fun q => if q = h ∧ x = 1 then 1 else 0) k + (if k = h ∧ x = 1 then 1 else 0) = _
    rw [sm_one k]
    by_cases hx : x = 1
    · by_cases h1 : h < k
      · rw [if_pos ⟨h1, hx⟩, if_neg (by omega), if_pos ⟨by omega, hx⟩]
      · by_cases h2 : k = h
        · rw [if_neg (by omega), if_pos ⟨h2, hx⟩, if_pos ⟨by omega, hx⟩]
        · rw [if_neg (by omega), if_neg (by omega), if_neg (by omega)]
    · rw [if_neg (by omega), if_neg (by omega), if_neg (by omega)]
theorem lo_eq (tx : Option (List lw_Ln)) (mn : Nat) (N : Nat → Nat) (c : Nat → Bool) (st h m : Nat) (hh : h < 12) : loN tx mn N c (12 * st) h m = loS tx mn N c st h m := by
  unfold loN loS
  rw [sm_pairs (fun s q => if q = h ∧ cnd tx mn N c s h m = true then 1 else 0) st]
  apply sm_congr
  intro s _
  cases hx : cnd tx mn N c s h m with
  | true =>
    have := sm_one (h := h) (x := 1) 12
    rw [if_pos ⟨hh, rfl⟩] at this
    rw [if_pos rfl]
    refine Eq.trans (sm_congr 12 ?_) this
    intro q _
    by_cases hq : q = h
    · rw [if_pos ⟨hq, rfl⟩, if_pos ⟨hq, rfl⟩]
    · rw [if_neg (fun z => hq z.1), if_neg (fun z => hq z.1)]
  | false =>
    rw [if_neg (show ¬ false = true by decide)]
    refine Eq.trans (sm_congr (g2 := fun _ => 0) 12 ?_) (sm_zero 12)
    intro q _
    rw [if_neg (fun z => no_ft z.2)]
def zz (seed : Int32) : Nat → Int32
  | 0 => seed
  | d + 1 => zz seed d * 1103515245 + 12345
theorem ush_nn (x : Int32) : ∃ y : Nat, y < 65536 ∧ q_ush x 16 = nI y := by
  refine ⟨x.toUInt32.toNat / 65536, ?_, ?_⟩
  · have := UInt32.toNat_lt x.toUInt32
    omega
  · unfold q_ush
    have e : ((16 : Int32).toUInt32 &&& Int32.toUInt32 31) = 16 := by decide
    rw [e]
    apply Int32.toBitVec_inj.mp
    apply BitVec.eq_of_toNat_eq
    have h1 : (x.toUInt32 >>> (16 : UInt32)).toNat = x.toUInt32.toNat / 65536 := by
      rw [UInt32.toNat_shiftRight]
      show x.toUInt32.toNat >>> (16 % 32) = _
      rw [Nat.shiftRight_eq_div_pow]
    have h2 : (nI (x.toUInt32.toNat / 65536)).toBitVec.toNat = x.toUInt32.toNat / 65536 := by
      show (BitVec.ofNat 32 _).toNat = _
      have := UInt32.toNat_lt x.toUInt32
      rw [BitVec.toNat_ofNat, Nat.mod_eq_of_lt (by omega)]
    rw [h2]
    exact h1
