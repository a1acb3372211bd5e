/-! books: who stood where -/
def cntF (f : Nat → Bool) (k : Nat) : Nat := sm (fun v => if f v then 1 else 0) k
def fsF (f : Nat → Bool) : Nat → Int32
  | 0 => -2
  | k + 1 => if f k then (if cntF f k = 0 then nI k else fsF f k) else fsF f k
theorem cntF_y {f : Nat → Bool} {k : Nat} (h : f k = true) : cntF f (k + 1) = cntF f k + 1 := by
  show cntF f k + (if f k then 1 else 0) = _
  rw [h]; rfl
theorem cntF_n {f : Nat → Bool} {k : Nat} (h : f k = false) : cntF f (k + 1) = cntF f k := by
  show cntF f k + (if f k then 1 else 0) = _
  rw [h]; rfl
theorem fsF_n {f : Nat → Bool} {k : Nat} (h : f k = false) : fsF f (k + 1) = fsF f k := by
  show (if f k then _ else fsF f k) = _
  rw [h]; rfl
theorem fsF_0 {f : Nat → Bool} : ∀ k, cntF f k = 0 → fsF f k = -2
  | 0, _ => rfl
  | k + 1, h => by
    cases hf : f k with
    | true => rw [cntF_y hf] at h; omega
    | false => rw [cntF_n hf] at h; rw [fsF_n hf]; exact fsF_0 k h
theorem fsF_hit {f : Nat → Bool} {i : Nat} (h : f i = true) (h0 : cntF f i = 0) : ∀ j, fsF f (i + 1 + j) = nI i ∧ 0 < cntF f (i + 1 + j)
  | 0 => by
    refine ⟨?_, by show 0 < cntF f (i + 1); rw [cntF_y h]; omega⟩
    show (if f i then (if cntF f i = 0 then nI i else fsF f i) else fsF f i) = nI i
    rw [if_pos h, if_pos h0]
  | j + 1 => by
    have ih := fsF_hit h h0 j
    have e : i + 1 + (j + 1) = (i + 1 + j) + 1 := by omega
    rw [e]
    cases hf : f (i + 1 + j) with
    | true =>
      refine ⟨?_, by rw [cntF_y hf]; omega⟩
      show (if f (i + 1 + j) then (if cntF f (i + 1 + j) = 0 then nI (i + 1 + j) else fsF f (i + 1 + j)) else _) = nI i
      rw [if_pos hf, if_neg (by omega)]
      exact ih.1
    | false => rw [fsF_n hf, cntF_n hf]; exact ih
theorem cntF_le (f : Nat → Bool) (k : Nat) : cntF f k ≤ k := sm_le1 (fun _ => if1 _) k
def othN (tx : Option (List lw_Ln)) (mn : Nat) (N : Nat → Nat) (E : Nat → Int64) (h m i : Nat) : Nat := sm (gv tx mn N (bcl E i) h) mn - gv tx mn N (bcl E i) h m
def otS (tx : Option (List lw_Ln)) (mn : Nat) (N : Nat → Nat) (E : Nat → Int64) (h m T : Nat) (w : qW) : Prop := q_I w 16 8 = nI m ∧ q_I w 16 9 = nI h ∧ ∀ i, i < T → q_A w 19 i = nI (othN tx mn N E h m i)
theorem otS_fr {tx : Option (List lw_Ln)} {mn : Nat} {N : Nat → Nat} {E : Nat → Int64} {h m T : Nat} {w w2 : qW} (hf : fr0 w w2) (ho : otS tx mn N E h m T w) : otS tx mn N E h m T w2 := by
  obtain ⟨h1, h2, h3⟩ := ho
  refine ⟨by rw [fr0_I hf 16 8 (by omega)]; exact h1, by rw [fr0_I hf 16 9 (by omega)]; exact h2, fun i hi => ?_⟩
  rw [fr0_A hf 19 (by omega)]
  exact h3 i hi
theorem s_leave {tx : Option (List lw_Ln)} {mn st : Nat} {N : Nat → Nat} {E : Nat → Int64} {h m T : Nat} {br : Bool} (hh : h < 12) (hm : m < mn) (hT : T ≤ 20) : ∀ (k F i : Nat) (w : qW), lSt tx w → PC mn st N w → bkS E T br w → otS tx mn N E h m i w → i + k = T → k < F → ∃ w2, f_X0_leaveOut_R12 F w (nI m) (nI h) (nI i) = some ((), w2) ∧ frC w w2 ∧ bkS E T br w2 ∧ otS tx mn N E h m T w2
  | 0, F + 1, i, w, hL, hP, hB, hO, h1, _ => by
    have hi : i = T := by omega
    subst hi
    refine ⟨w, ?_, frC_rf w, hB, hO⟩
    show f_X0_leaveOut_B12 (f_X0_leaveOut_R12 F) w (nI m) (nI h) (nI i) = _
    unfold f_X0_leaveOut_B12
    rw [hB.1, if_pos (nI_le (by omega) (by omega))]
  | k + 1, F + 1, i, w, hL, hP, hB, hO, h1, h2 => by
    have h7 := hP.2.2.1
    obtain ⟨b1, b2, b3⟩ := id hB
    obtain ⟨w3, e3, f3⟩ := s_byAll hL hP (cell := bcl E i) hh
    obtain ⟨w6, e6, f6⟩ := s_byMan (lSt_fr f3 hL) (PC_fr f3 hP) (m := m) (cell := bcl E i) (by omega) hh
    have f36 := fr0_tr f3 f6
    have hb := sm_le (g := gv tx mn N (bcl E i) h) (fun m => gv_le ..) mn
    have hb2 := gv_sm (g := gv tx mn N (bcl E i) h) mn m hm
    obtain ⟨w7, hw7⟩ : ∃ w7, w7 = q_sA w6 19 (upd (q_A w6 19) i (nI (othN tx mn N E h m i))) := ⟨_, rfl⟩
    have f7 : frC w w7 := frC_tr (frC_0 f36) (by rw [hw7]; exact frC_A w6 19 _ (by omega))
    have hB7 : bkS E T br w7 := by
      have := bkS_fr f36 hB
      rw [hw7]
      exact this
    have hO7 : otS tx mn N E h m (i + 1) w7 := by
      have q := otS_fr f36 hO
      refine ⟨by rw [hw7]; exact q.1, by rw [hw7]; exact q.2.1, fun j hj => ?_⟩
      rw [hw7, g_AA, if_pos rfl]
      unfold upd
      by_cases hji : j = i
      · rw [if_pos hji, hji]
      · rw [if_neg hji]; exact q.2.2 j (by omega)
    obtain ⟨w2, g1, g2, g3, g4⟩ := s_leave hh hm hT k F (i + 1) w7 (lSt_frB f7.1 hL) (PC_frB f7.1 hP) hB7 hO7 (by omega) (by omega)
    refine ⟨w2, ?_, frC_tr f7 g2, g3, g4⟩
    show f_X0_leaveOut_B12 (f_X0_leaveOut_R12 F) w (nI m) (nI h) (nI i) = _
    unfold f_X0_leaveOut_B12
    rw [b1, if_neg (nI_ge (by omega) (by omega)), ld_lit _ _ _ _ (by omega) (by omega), (b3 i (by omega)).1, e3, z_cl, ld_lit _ _ _ _ (by omega) (by omega), fr0_A f3 17 (by omega), (b3 i (by omega)).1, e6, z_cl, i_sub hb2 (by omega), st_lit _ _ _ _ _ _ (by omega) (by omega), z_bn, nI_1]
    rw [show sm (gv tx mn N (bcl E i) h) mn - gv tx mn N (bcl E i) h m = othN tx mn N E h m i from rfl, ← hw7]
    exact g1
def vH (tx : Option (List lw_Ln)) (mn : Nat) (N : Nat → Nat) (E : Nat → Int64) (h m c kd i : Nat) : Nat := min (othN tx mn N E h m i + s5 tx (N 56) c kd (N (16 + m)) m (bcl E i) h) 12
theorem nI_ne2 {n : Nat} (h : n < 1000) : ¬ nI n = -2 := by
  rw [z_eq, nI_toInt (by omega), show (-2 : Int32).toInt = -2 by decide]
  omega
theorem s_fitsHim {tx : Option (List lw_Ln)} {mn st : Nat} {N : Nat → Nat} {E : Nat → Int64} {h m T : Nat} {br : Bool} (hh : h < 12) (hm : m < mn) (hT : T ≤ 20) (hE : ∀ i, i < 60 → -128 ≤ (E i).toInt ∧ (E i).toInt ≤ 127) (c kd : Nat) : ∀ (k F i : Nat) (w : qW), lSt tx w → PC mn st N w → bkS E T br w → otS tx mn N E h m T w → i + k = T → k < F → rto (f_X0_fitsHim_R2 F w (nI c) (nI kd) (nI i)) (b2i (decide (fwv (tdk E (vH tx mn N E h m c kd)) br T k i = -2))) w
  | 0, F + 1, i, w, hL, hP, hB, hO, h1, _ => by
    show rto (f_X0_fitsHim_B2 (f_X0_fitsHim_R2 F) w (nI c) (nI kd) (nI i)) (b2i (decide ((if br then nI T else -2) = -2))) w
    unfold f_X0_fitsHim_B2
    rw [hB.1, hB.2.1, if_pos (nI_le (by omega) (by omega))]
    refine ⟨w, ?_, fr0_rf w⟩
    cases br
    · rw [if_pos bz, if_neg (show ¬ false = true by decide), decide_eq_true (show (-2 : Int32) = -2 from rfl)]; rfl
    · rw [if_neg bnz, if_pos rfl, decide_eq_false (nI_ne2 (by omega))]; rfl
  | k + 1, F + 1, i, w, hL, hP, hB, hO, h1, h2 => by
    have h7 := hP.2.2.1
    obtain ⟨b1, b2, b3⟩ := id hB
    obtain ⟨p1, p2, p3⟩ := id hO
    show rto (f_X0_fitsHim_B2 (f_X0_fitsHim_R2 F) w (nI c) (nI kd) (nI i)) (b2i (decide ((if tdk E (vH tx mn N E h m c kd) i then fwv (tdk E (vH tx mn N E h m c kd)) br T k (i + 1) else nI i) = -2))) w
    obtain ⟨w4, e4, f4⟩ := s_ifHe hL hP hm hh c kd (bcl E i)
    have hb := sm_le (g := gv tx mn N (bcl E i) h) (fun m => gv_le ..) mn
    have ho : othN tx mn N E h m i ≤ sm (gv tx mn N (bcl E i) h) mn := Nat.sub_le ..
    have h5 := s5_le tx (N 56) c kd (N (16 + m)) m (bcl E i) h
    have hV : vH tx mn N E h m c kd i ≤ 12 := Nat.min_le_right ..
    have hte := told_eq (E := E) (V := vH tx mn N E h m c kd) (i := i) (by omega) (hE _ (by omega)).1 (hE _ (by omega)).2
    unfold f_X0_fitsHim_B2
    rw [b1, if_neg (nI_ge (by omega) (by omega)), ld_lit _ _ _ _ (by omega) (by omega), p3 i (by omega), ld_lit _ _ _ _ (by omega) (by omega), (b3 i (by omega)).1, p1, p2, e4, z_cl, z_bn, nI_add, z_bn, n_min (by omega), ld_lit _ _ _ _ (by omega) (by omega), fr0_A f4 18 (by omega), (b3 i (by omega)).2, z_bn, nI_1]
    have hte : (nI (min (othN tx mn N E h m i + s5 tx (N 56) c kd (N (16 + m)) m (bcl E i) h) 12) = Int64.toInt32 (E (3 * i + 2))) ↔ tdk E (vH tx mn N E h m c kd) i = true := hte
    by_cases hc : nI (min (othN tx mn N E h m i + s5 tx (N 56) c kd (N (16 + m)) m (bcl E i) h) 12) = Int64.toInt32 (E (3 * i + 2))
    · obtain ⟨w3, e3, f3⟩ := s_fitsHim hh hm hT hE c kd k F (i + 1) w4 (lSt_fr f4 hL) (PC_fr f4 hP) (bkS_fr f4 hB) (otS_fr f4 hO) (by omega) (by omega)
      rw [if_pos hc, if_pos (hte.mp hc)]
      exact ⟨w3, e3, fr0_tr f4 f3⟩
    · rw [if_neg hc, if_neg (fun q => hc (hte.mpr q)), decide_eq_false (nI_ne2 (by omega))]
      exact ⟨w4, rfl, f4⟩
def fitH (tx : Option (List lw_Ln)) (mn : Nat) (N : Nat → Nat) (E : Nat → Int64) (h m T : Nat) (br : Bool) (c kd : Nat) : Bool := decide (fwv (tdk E (vH tx mn N E h m c kd)) br T T 0 = -2)
theorem s_fits {tx : Option (List lw_Ln)} {w : qW} {mn st : Nat} {N : Nat → Nat} {E : Nat → Int64} {h m T : Nat} {br : Bool} (hL : lSt tx w) (hP : PC mn st N w) (hB : bkS E T br w) (hO : otS tx mn N E h m T w) (hh : h < 12) (hm : m < mn) (hT : T ≤ 20) (hE : ∀ i, i < 60 → -128 ≤ (E i).toInt ∧ (E i).toInt ≤ 127) (c kd : Nat) : rto (f_X0_fitsHim w (nI c) (nI kd)) (b2i (fitH tx mn N E h m T br c kd)) w := s_fitsHim hh hm hT hE c kd T q_fuel 0 w hL hP hB hO (by omega) (by rw [q_fuel_eq]; omega)
theorem s_cells {tx : Option (List lw_Ln)} {mn st : Nat} {N : Nat → Nat} {E : Nat → Int64} {h m T : Nat} {br : Bool} (hh : h < 12) (hm : m < mn) (hT : T ≤ 20) (hE : ∀ i, i < 60 → -128 ≤ (E i).toInt ∧ (E i).toInt ≤ 127) : ∀ (k F i : Nat) (w : qW), lSt tx w → PC mn st N w → bkS E T br w → otS tx mn N E h m T w → i + k = 144 → k < F → rto (f_X0_cellsThatFit_R4 F w (nI (cntF (fun c => fitH tx mn N E h m T br c (N (8 + m))) i)) (nI i)) (nI (cntF (fun c => fitH tx mn N E h m T br c (N (8 + m))) 144)) w
  | 0, F + 1, i, w, hL, hP, hB, hO, h1, _ => by
    have hi : i = 144 := by omega
    subst hi
    show rto (f_X0_cellsThatFit_B4 (f_X0_cellsThatFit_R4 F) w _ (nI 144)) _ w
    unfold f_X0_cellsThatFit_B4
    rw [if_pos (by decide)]
    exact ⟨w, rfl, fr0_rf w⟩
  | k + 1, F + 1, i, w, hL, hP, hB, hO, h1, h2 => by
    show rto (f_X0_cellsThatFit_B4 (f_X0_cellsThatFit_R4 F) w _ (nI i)) _ w
    obtain ⟨w2, e, f⟩ := s_fits hL hP hB hO hh hm hT hE i (N (8 + m))
    obtain ⟨w3, e3, f3⟩ := s_cells hh hm hT hE k F (i + 1) w2 (lSt_fr f hL) (PC_fr f hP) (bkS_fr f hB) (otS_fr f hO) (by omega) (by omega)
    refine ⟨w3, ?_, fr0_tr f f3⟩
    unfold f_X0_cellsThatFit_B4 f_X0_cellsThatFit_B34
    rw [if_neg (by rw [z_le, c144, nI_toInt (by omega)]; omega), hO.1, show f_X4_get w (nI m) 1 = _ from s_getm hP 1 (by omega) hm, z_cl, show 8 * 1 + m = 8 + m by omega, e, z_cl]
    simp only [z_bn, nI_1]
    cases hv : fitH tx mn N E h m T br i (N (8 + m)) with
    | true => rw [cntF_y (f := fun c => fitH tx mn N E h m T br c (N (8 + m))) hv] at e3; rw [if_neg bnz]; exact e3
    | false => rw [cntF_n (f := fun c => fitH tx mn N E h m T br c (N (8 + m))) hv] at e3; rw [if_pos bz]; exact e3
theorem s_least2 {tx : Option (List lw_Ln)} {mn st : Nat} {N : Nat → Nat} {E : Nat → Int64} {h m T : Nat} {br : Bool} (hh : h < 12) (hm : m < mn) (hT : T ≤ 20) (hE : ∀ i, i < 60 → -128 ≤ (E i).toInt ∧ (E i).toInt ≤ 127) : ∀ (k F i : Nat) (w : qW), lSt tx w → PC mn st N w → bkS E T br w → otS tx mn N E h m T w → i + k = 144 → k < F → cntF (fun c => fitH tx mn N E h m T br c (N (8 + m))) i = 0 → rto (f_X0_leastCellThatFits_R2 F w (nI i)) (fsF (fun c => fitH tx mn N E h m T br c (N (8 + m))) 144) w
  | 0, F + 1, i, w, hL, hP, hB, hO, h1, _, h0 => by
    have hi : i = 144 := by omega
    subst hi
    show rto (f_X0_leastCellThatFits_B2 (f_X0_leastCellThatFits_R2 F) w (nI 144)) _ w
    unfold f_X0_leastCellThatFits_B2
    rw [if_pos (by decide), fsF_0 144 h0]
    exact ⟨w, rfl, fr0_rf w⟩
  | k + 1, F + 1, i, w, hL, hP, hB, hO, h1, h2, h0 => by
    show rto (f_X0_leastCellThatFits_B2 (f_X0_leastCellThatFits_R2 F) w (nI i)) _ w
    obtain ⟨w2, e, f⟩ := s_fits hL hP hB hO hh hm hT hE i (N (8 + m))
    unfold f_X0_leastCellThatFits_B2
    rw [if_neg (by rw [z_le, c144, nI_toInt (by omega)]; omega), hO.1, show f_X4_get w (nI m) 1 = _ from s_getm hP 1 (by omega) hm, z_cl, show 8 * 1 + m = 8 + m by omega, e, z_cl]
    simp only [z_bn, nI_1]
    cases hv : fitH tx mn N E h m T br i (N (8 + m)) with
    | true =>
      have := (fsF_hit (f := fun c => fitH tx mn N E h m T br c (N (8 + m))) hv h0 k).1
      rw [show i + 1 + k = 144 by omega] at this
      rw [if_neg bnz, this]
      exact ⟨w2, rfl, f⟩
    | false =>
      obtain ⟨w3, e3, f3⟩ := s_least2 hh hm hT hE k F (i + 1) w2 (lSt_fr f hL) (PC_fr f hP) (bkS_fr f hB) (otS_fr f hO) (by omega) (by omega) (by rw [cntF_n (f := fun c => fitH tx mn N E h m T br c (N (8 + m))) hv]; exact h0)
      rw [if_pos bz]
      exact ⟨w3, e3, fr0_tr f f3⟩
theorem s_kinds {tx : Option (List lw_Ln)} {mn st : Nat} {N : Nat → Nat} {E : Nat → Int64} {h m T : Nat} {br : Bool} (hh : h < 12) (hm : m < mn) (hT : T ≤ 20) (hE : ∀ i, i < 60 → -128 ≤ (E i).toInt ∧ (E i).toInt ≤ 127) : ∀ (k F i : Nat) (w : qW), lSt tx w → PC mn st N w → bkS E T br w → otS tx mn N E h m T w → i + k = 3 → k < F → rto (f_X0_kindsThatFit_R4 F w (nI (mkb (fun k => fitH tx mn N E h m T br (N m) k) i)) (nI i)) (nI (mkb (fun k => fitH tx mn N E h m T br (N m) k) 3)) w
  | 0, F + 1, i, w, hL, hP, hB, hO, h1, _ => by
    have hi : i = 3 := by omega
    subst hi
    show rto (f_X0_kindsThatFit_B4 (f_X0_kindsThatFit_R4 F) w _ (nI 3)) _ w
    unfold f_X0_kindsThatFit_B4
    rw [if_pos (by decide)]
    exact ⟨w, rfl, fr0_rf w⟩
  | k + 1, F + 1, i, w, hL, hP, hB, hO, h1, h2 => by
    show rto (f_X0_kindsThatFit_B4 (f_X0_kindsThatFit_R4 F) w _ (nI i)) _ w
    obtain ⟨w2, e, f⟩ := s_fits hL hP hB hO hh hm hT hE (N m) i
    obtain ⟨w3, e3, f3⟩ := s_kinds hh hm hT hE k F (i + 1) w2 (lSt_fr f hL) (PC_fr f hP) (bkS_fr f hB) (otS_fr f hO) (by omega) (by omega)
    refine ⟨w3, ?_, fr0_tr f f3⟩
    unfold f_X0_kindsThatFit_B4 f_X0_kindsThatFit_B35
    rw [if_neg (by rw [z_lt, c2, nI_toInt (by omega)]; omega), hO.1, show f_X4_get w (nI m) 0 = _ from s_getm hP 0 (by omega) hm, z_cl, show 8 * 0 + m = m by omega, e, z_cl]
    simp only [z_bn, nI_1]
    cases hv : fitH tx mn N E h m T br (N m) i with
    | true => rw [if_neg bnz, mkb_or (fun k => fitH tx mn N E h m T br (N m) k) (by omega) hv]; exact e3
    | false => rw [mkb_no (fun k => fitH tx mn N E h m T br (N m) k) hv] at e3; rw [if_pos bz]; exact e3
theorem eq_H {tx : Option (List lw_Ln)} {mn : Nat} {N : Nat → Nat} {E : Nat → Int64} {h m x v c kd : Nat} (h7 : mn ≤ 7) (hm : m < mn) (hx : (x = m ∧ c = v ∧ kd = N (8 + m)) ∨ (x = 8 + m ∧ c = N m ∧ kd = v)) (i : Nat) : min (smS (sN tx (updN N x v) (bcl E i) h) (evb mn) 8) 12 = vH tx mn N E h m c kd i := by
  unfold vH
  rw [evb_sm h7]
  have h1 := sm_chg (g := gv tx mn N (bcl E i) h) (g2 := gv tx mn (updN N x v) (bcl E i) h) (m := m) (fun j hj => by
    unfold gv
    by_cases hjm : j < mn
    · rw [if_pos hjm, if_pos hjm]
      exact sN_congr (updN_n (by omega)) (updN_n (by omega)) (updN_n (by omega)) (updN_n (by omega))
    · rw [if_neg hjm, if_neg hjm]) mn hm
  have h2 : gv tx mn (updN N x v) (bcl E i) h m = s5 tx (N 56) c kd (N (16 + m)) m (bcl E i) h := by
    unfold gv sN
    rw [if_pos hm]
    rcases hx with ⟨q1, q2, q3⟩ | ⟨q1, q2, q3⟩
    · subst q1
      rw [updN_y, updN_n (show 56 ≠ x by omega), updN_n (show 8 + x ≠ x by omega), updN_n (show 16 + x ≠ x by omega), q2, q3]
    · subst q1
      rw [updN_y, updN_n (show 56 ≠ 8 + m by omega), updN_n (show m ≠ 8 + m by omega), updN_n (show 16 + m ≠ 8 + m by omega), q2, q3]
  have h3 := gv_sm (g := gv tx mn N (bcl E i) h) mn m hm
  have h4 : othN tx mn N E h m i = sm (gv tx mn N (bcl E i) h) mn - gv tx mn N (bcl E i) h m := rfl
  rw [h2] at h1
  rw [show sm (gv tx mn (updN N x v) (bcl E i) h) mn = othN tx mn N E h m i + s5 tx (N 56) c kd (N (16 + m)) m (bcl E i) h by omega]
def fStd (tx : Option (List lw_Ln)) (mn : Nat) (N : Nat → Nat) (E : Nat → Int64) (h m T : Nat) (br : Bool) (what : Int32) (v : Nat) : Bool := if what = 2 then fitH tx mn N E h m T br (N m) v else fitH tx mn N E h m T br v (N (8 + m))
theorem m_stood_R {tx : Option (List lw_Ln)} {mn st : Nat} {N : Nat → Nat} {E : Nat → Int64} {d sz m T c x K : Nat} {br : Bool} {w0 : qW} {what : Int32} (hL : lSt tx w0) (hP : PM mn mn st N w0) (hr : rwS w0 d sz E) (ho : opn E sz T br) (hc : c < 2 ^ 31) (hcm : c / 100 = m) (hm : m < mn) (hh : c % 100 < 12) (hx : (what = 2 ∧ x = 8 + m ∧ K = 3) ∨ (¬ what = 2 ∧ x = m ∧ K = 144)) : ∀ (k F i : Nat) (w : qW) (B : Nat → Int32), (∀ j, j ≠ x → B j = q_A w0 49 j) → fr0 (q_sA w0 49 B) w → i + k = K → k < F → rto (f_X11_stood_R110 F w (nI d) (nI c) what (nI x) (nI (N x)) (nI (cntF (fStd tx mn N E (c % 100) m T br what) i)) (fsF (fStd tx mn N E (c % 100) m T br what) i) (if what = 2 then nI (mkb (fStd tx mn N E (c % 100) m T br what) i) else 0) (nI i)) (if what = 0 then nI (cntF (fStd tx mn N E (c % 100) m T br what) K) else if what = 1 then fsF (fStd tx mn N E (c % 100) m T br what) K else (if what = 2 then nI (mkb (fStd tx mn N E (c % 100) m T br what) K) else 0)) w0
  | k, 0, i, w, B, _, _, _, h2 => by omega
  | k, F + 1, i, w, B, hB, hf, h1, h2 => by
    have h7 := hP.2.2.1
    have hxv : x < 16 ∧ jvM mn mn st x := by
      rcases hx with ⟨q1, q2, q3⟩ | ⟨q1, q2, q3⟩
      · exact ⟨by omega, Or.inl ⟨by omega, by omega⟩⟩
      · exact ⟨by omega, Or.inl ⟨by omega, by omega⟩⟩
    have hK : K ≤ 144 := by omega
    have e49 : q_A w 49 = B := by rw [fr0_A hf 49 (by omega), g_AA, if_pos rfl]
    have ax : q_A w0 49 x = nI (N x) := (hP.2.2.2.2.2 x hxv.2).1
    have eB : f_X11_stood_R110 (F + 1) w (nI d) (nI c) what (nI x) (nI (N x)) (nI (cntF (fStd tx mn N E (c % 100) m T br what) i)) (fsF (fStd tx mn N E (c % 100) m T br what) i) (if what = 2 then nI (mkb (fStd tx mn N E (c % 100) m T br what) i) else 0) (nI i) = f_X11_stood_B124 (f_X11_stood_R110 F) w (nI d) (nI c) what (nI x) (nI (N x)) (nI (cntF (fStd tx mn N E (c % 100) m T br what) i)) (fsF (fStd tx mn N E (c % 100) m T br what) i) (if what = 2 then nI (mkb (fStd tx mn N E (c % 100) m T br what) i) else 0) (nI i) (nI K) (nI i) := by
      show f_X11_stood_B110 (f_X11_stood_R110 F) w (nI d) (nI c) what (nI x) (nI (N x)) _ _ _ (nI i) = _
      unfold f_X11_stood_B110
      rcases hx with ⟨q1, q2, q3⟩ | ⟨q1, q2, q3⟩
      · rw [if_pos q1, q3]; rfl
      · rw [if_neg q1, q3]; rfl
    rw [eB]
    unfold f_X11_stood_B124
    cases k with
    | zero =>
      have hi : i = K := by omega
      subst hi
      rw [if_pos (nI_le (by omega) (by omega)), st_lit _ _ _ _ _ _ (by omega) (by omega)]
      have ef : fr0 w0 (q_sA w 49 (upd (q_A w 49) x (nI (N x)))) := by
        have := fr0_sA hf 49 (upd (q_A w 49) x (nI (N x)))
        rw [sA_two] at this
        have e2 : upd (q_A w 49) x (nI (N x)) = q_A w0 49 := by
          funext j
          unfold upd
          by_cases hj : j = x
          · rw [if_pos hj, hj, ax]
          · rw [if_neg hj, e49, hB j hj]
        rw [e2, sA_self] at this
        rw [e2]
        exact this
      refine ⟨_, ?_, ef⟩
      by_cases hz : what = 0
      · rw [if_pos hz, if_pos hz]
      · rw [if_neg hz, if_neg hz]
        by_cases hz1 : what = 1
        · rw [if_pos hz1, if_pos hz1]
        · rw [if_neg hz1, if_neg hz1]
    | succ k =>
      rw [if_neg (nI_ge (by omega) (by omega)), st_lit _ _ _ _ _ _ (by omega) (by omega), e49]
      have hvx : i ≤ hiN (x / 8) := by
        rcases hx with ⟨q1, q2, q3⟩ | ⟨q1, q2, q3⟩
        · rw [show x / 8 = 1 by omega]; show i ≤ 2; omega
        · rw [show x / 8 = 0 by omega]; show i ≤ 143; omega
      have hPM := PM_B hP hB (x := x) (v := i) hvx
      have hf2 : fr0 (q_sA w0 49 (upd B x (nI i))) (q_sA w 49 (upd B x (nI i))) := by
        have := fr0_sA hf 49 (upd B x (nI i))
        rw [sA_two] at this
        exact this
      have hPM2 := PM_fr hf2 hPM
      have hr0 : rwS (q_sA w0 49 (upd B x (nI i))) d sz E := hr
      obtain ⟨w6, e6, f6⟩ := m_ff (tx := tx) (mn := mn) (mk := mn) (st := st) hh (evb_lt mn (by omega)) (evb_ok h7 (Nat.le_refl mn)) ho T q_fuel 0 (q_sA w 49 (upd B x (nI i))) (lSt_fr hf2 (lSt_sA hL 49 _ (by omega))) hPM2 (rwS_frB (frB_0 hf2) hr0) (by omega) (by rw [q_fuel_eq]; have := ho.1; omega)
      have hB2 : ∀ j, j ≠ x → upd B x (nI i) j = q_A w0 49 j := by
        intro j hj
        unfold upd
        rw [if_neg hj]
        exact hB j hj
      have hfit : (fwv (tdk E (fun j => min (smS (sN tx (updN N x i) (bcl E j) (c % 100)) (evb mn) 8) 12)) br T T 0 = -2) ↔ fStd tx mn N E (c % 100) m T br what i = true := by
        unfold fStd
        rcases hx with ⟨q1, q2, q3⟩ | ⟨q1, q2, q3⟩
        · rw [if_pos q1]
          unfold fitH
          rw [fwv_congr (ok2 := tdk E (vH tx mn N E (c % 100) m (N m) i)) T 0 (by omega) (fun j _ => by
            show decide (((min (smS (sN tx (updN N x i) (bcl E j) (c % 100)) (evb mn) 8) 12 : Nat) : Int) = _) = decide (((vH tx mn N E (c % 100) m (N m) i j : Nat) : Int) = _)
            rw [eq_H h7 hm (Or.inr ⟨q2, rfl, rfl⟩)])]
          exact ⟨fun q => decide_eq_true q, fun q => of_decide_eq_true q⟩
        · rw [if_neg q1]
          unfold fitH
          rw [fwv_congr (ok2 := tdk E (vH tx mn N E (c % 100) m i (N (8 + m)))) T 0 (by omega) (fun j _ => by
            show decide (((min (smS (sN tx (updN N x i) (bcl E j) (c % 100)) (evb mn) 8) 12 : Nat) : Int) = _) = decide (((vH tx mn N E (c % 100) m i (N (8 + m)) j : Nat) : Int) = _)
            rw [eq_H h7 hm (Or.inl ⟨q2, rfl, rfl⟩)])]
          exact ⟨fun q => decide_eq_true q, fun q => of_decide_eq_true q⟩
      obtain ⟨w3, e3, f3⟩ := m_stood_R hL hP hr ho hc hcm hm hh hx k F (i + 1) w6 (upd B x (nI i)) hB2 (fr0_tr hf2 f6) (by omega) (by omega)
      rw [m_evb hPM2, z_cl, show q_rem (nI c) 100 = nI (c % 100) from i_rem (b := 100) hc (by omega), show f_X11_firstFalse (q_sA w 49 (upd B x (nI i))) (nI d) (nI (c % 100)) (nI (evb mn)) = _ from e6, z_cl]
      refine ⟨w3, ?_, f3⟩
      unfold f_X11_stood_B166 f_X11_stood_B183 f_X11_stood_B189
      simp only [z_bn, nI_1, Int32.or_zero]
      have hcl := cntF_le (fStd tx mn N E (c % 100) m T br what) i
      cases hv : fStd tx mn N E (c % 100) m T br what i with
      | true =>
        have ecf : fsF (fStd tx mn N E (c % 100) m T br what) (i + 1) = if cntF (fStd tx mn N E (c % 100) m T br what) i = 0 then nI i else fsF (fStd tx mn N E (c % 100) m T br what) i := by
          show (if fStd tx mn N E (c % 100) m T br what i then _ else _) = _
          rw [hv]; rfl
        rw [cntF_y hv, ecf] at e3
        rw [if_pos (hfit.mpr hv)]
        rcases hx with ⟨q1, q2, q3⟩ | ⟨q1, q2, q3⟩
        · simp only [if_pos q1] at e3 ⊢
          rw [mkb_or _ (by omega) hv]
          by_cases hz : cntF (fStd tx mn N E (c % 100) m T br what) i = 0
          · rw [if_pos hz] at e3
            rw [if_pos (by rw [hz]; rfl)]
            exact e3
          · rw [if_neg hz] at e3
            rw [if_neg (by rw [z_eq, c0, nI_toInt (by omega)]; omega)]
            exact e3
        · simp only [if_neg q1] at e3 ⊢
          by_cases hz : cntF (fStd tx mn N E (c % 100) m T br what) i = 0
          · rw [if_pos hz] at e3
            rw [if_pos (by rw [hz]; rfl)]
            exact e3
          · rw [if_neg hz] at e3
            rw [if_neg (by rw [z_eq, c0, nI_toInt (by omega)]; omega)]
            exact e3
      | false =>
        rw [cntF_n hv, fsF_n hv, mkb_no _ hv] at e3
        rw [if_neg (fun q => by rw [hfit.mp q] at hv; exact no_ft hv.symm)]
        exact e3
