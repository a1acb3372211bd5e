/-! books: a book of light is opened; judge -/
theorem frB_rf (w : qW) : frB w w := ⟨fun _ => rfl, rfl, fun _ _ _ _ => rfl, fun _ _ => rfl⟩
theorem frB_tr {a b c : qW} (h1 : frB a b) (h2 : frB b c) : frB a c := ⟨fun k => (h2.1 k).trans (h1.1 k), h2.2.1.trans h1.2.1, fun o k q1 q2 => (h2.2.2.1 o k q1 q2).trans (h1.2.2.1 o k q1 q2), fun o ho => (h2.2.2.2 o ho).trans (h1.2.2.2 o ho)⟩
theorem frB_I16 (w : qW) (k : Nat) (v : Int32) : frB w (q_sI w 16 k v) := ⟨fun _ => rfl, rfl, fun o k2 h16 _ => by rw [g_II, if_neg (by omega)], fun _ _ => rfl⟩
theorem frB_A (w : qW) (o : Nat) (f : Nat → Int32) (ho : 17 ≤ o ∧ o ≤ 20) : frB w (q_sA w o f) := ⟨fun _ => rfl, rfl, fun _ _ _ _ => rfl, fun p hp => by unfold scrB at hp; rw [g_AA, if_neg (by omega)]⟩
theorem frBI {a b : qW} (h : frB a b) (o k : Nat) (hk : o ≠ 16 ∧ (o ≠ 48 ∨ k < 12 ∨ 16 < k)) : q_I b o k = q_I a o k := h.2.2.1 o k hk.1 (by omega)
theorem frBA {a b : qW} (h : frB a b) (o : Nat) (ho : ¬ (o = 7 ∨ o = 8 ∨ o = 55 ∨ (11 ≤ o ∧ o ≤ 15) ∨ (17 ≤ o ∧ o ≤ 20) ∨ (22 ≤ o ∧ o ≤ 23))) : q_A b o = q_A a o := h.2.2.2 o ho
theorem lSt_frB {tx : Option (List lw_Ln)} {w w2 : qW} (hf : frB w w2) (h : lSt tx w) : lSt tx w2 := by
  have e37 := frBI hf 3 7 (by omega)
  have e34 := frBI hf 3 4 (by omega)
  have e11 := frBI hf 48 11 (by omega)
  have e54 := frBA hf 54 (by omega)
  rcases h with ⟨h1, h2, h3⟩ | ⟨lns, n, L, W, h1, h2, ⟨k1, k2, k3, k4⟩, h4, h5, h6, h7, h8, h9, h10, h11⟩
  · exact Or.inl ⟨by rw [e37]; exact h1, by rw [e11]; exact h2, h3⟩
  · refine Or.inr ⟨lns, n, L, W, h1, by rw [e37]; exact h2, ⟨by rw [hf.1 3]; exact k1, by rw [e34]; exact k2, k3, ?_⟩, h4, h5, h6, by rw [e11]; exact h7, h8, by rw [e54]; exact h9, by rw [e54]; exact h10, by rw [e54]; exact h11⟩
    rw [hf.1 3, frBA hf (q_R w 3 3) (by omega)]
    exact k4
theorem PC_frB {mn st : Nat} {N : Nat → Nat} {w w2 : qW} (hf : frB w w2) (h : PC mn st N w) : PC mn st N w2 := by
  obtain ⟨h1, h2, h3, h4, h5⟩ := h
  exact ⟨by rw [frBI hf 1 1 (by omega)]; exact h1, by rw [frBI hf 1 2 (by omega)]; exact h2, h3, h4, by rw [frBA hf 2 (by omega)]; exact h5⟩
theorem PM_frB {mn mk st : Nat} {N : Nat → Nat} {w w2 : qW} (hf : frB w w2) (h : PM mn mk st N w) : PM mn mk st N w2 := by
  obtain ⟨h1, h2, h3, h4, h5, h6⟩ := h
  exact ⟨by rw [frBI hf 48 6 (by omega)]; exact h1, by rw [frBI hf 48 7 (by omega)]; exact h2, h3, h4, h5, by rw [frBA hf 49 (by omega)]; exact h6⟩
def rwS (w : qW) (d sz : Nat) (E : Nat → Int64) : Prop := d < 6 ∧ sz ≤ 60 ∧ q_I w (36 + 2 * d) 2 = nI sz ∧ q_G w (36 + 2 * d + 1) = E ∧ q_A w 64 d = nI sz ∧ ∀ i, i < 60 → q_G w 65 (60 * d + i) = E i ∧ -128 ≤ (E i).toInt ∧ (E i).toInt ≤ 127
theorem rwS_frB {w w2 : qW} {d sz : Nat} {E : Nat → Int64} (hf : frB w w2) (h : rwS w d sz E) : rwS w2 d sz E := by
  obtain ⟨h1, h2, h3, h4, h5, h6⟩ := h
  exact ⟨h1, h2, by rw [frBI hf _ 2 (by omega)]; exact h3, by rw [hf.2.1]; exact h4, by rw [frBA hf 64 (by omega)]; exact h5, by rw [hf.2.1]; exact h6⟩
def vld (E : Nat → Int64) (sz i : Nat) : Bool := decide (3 * i + 2 < sz ∧ (0 ≤ (E (3 * i)).toInt ∧ (E (3 * i)).toInt ≤ 11) ∧ 0 ≤ (E (3 * i + 1)).toInt ∧ (E (3 * i + 1)).toInt ≤ 11)
def opn (E : Nat → Int64) (sz T : Nat) (br : Bool) : Prop := T ≤ 20 ∧ (∀ i, i < T → vld E sz i = true) ∧ ((br = false ∧ sz ≤ 3 * T) ∨ (br = true ∧ 3 * T < sz ∧ vld E sz T = false))
def bcl (E : Nat → Int64) (i : Nat) : Nat := 12 * (E (3 * i + 1)).toInt.toNat + (E (3 * i)).toInt.toNat
def bkS (E : Nat → Int64) (T : Nat) (br : Bool) (w : qW) : Prop := q_I w 16 4 = nI T ∧ q_I w 16 5 = b2i br ∧ ∀ i, i < T → q_A w 17 i = nI (bcl E i) ∧ q_A w 18 i = Int64.toInt32 (E (3 * i + 2))
def frC (w w2 : qW) : Prop := frB w w2 ∧ q_R w2 = q_R w
theorem frC_rf (w : qW) : frC w w := ⟨frB_rf w, rfl⟩
theorem frC_tr {a b c : qW} (h1 : frC a b) (h2 : frC b c) : frC a c := ⟨frB_tr h1.1 h2.1, h2.2.trans h1.2⟩
theorem frC_I16 (w : qW) (k : Nat) (v : Int32) : frC w (q_sI w 16 k v) := ⟨frB_I16 w k v, rfl⟩
theorem frC_A (w : qW) (o : Nat) (f : Nat → Int32) (ho : 17 ≤ o ∧ o ≤ 20) : frC w (q_sA w o f) := ⟨frB_A w o f ho, rfl⟩
theorem frC_0 {w w2 : qW} (h : fr0 w w2) : frC w w2 := ⟨frB_0 h, h.1⟩
theorem Jn_frC {w w2 : qW} (hJ : Jn w) (hf : frC w w2) : Jn w2 := Jn_frB hJ hf.1 (by unfold jR; rw [hf.2]; exact hJ.2.2.2.2.2.2)
theorem lg_ge (a b : Int64) : (0 ≤ lg_cmp a b) = ¬ a.toInt < b.toInt := by
  have := lg_cmp_lt a b
  rw [Int64.lt_iff_toInt_lt] at this
  apply propext
  rw [← this, z_le, z_lt, c0]
  omega
theorem e12 : (12 : Int64).toInt = 12 := by decide
theorem b_open {d sz : Nat} {E : Nat → Int64} : ∀ (k F i : Nat) (w : qW), i + k = 20 → k < F → rwS w d sz E → q_I w 16 4 = nI i → q_I w 16 5 = 0 → (∀ j, j < i → q_A w 17 j = nI (bcl E j) ∧ q_A w 18 j = Int64.toInt32 (E (3 * j + 2))) → (∀ j, j < i → vld E sz j = true) → ∃ w2 T br, f_X0_open_R12 (36 + 2 * d) F w (nI (3 * i)) = some ((), w2) ∧ frC w w2 ∧ bkS E T br w2 ∧ opn E sz T br
  | k, 0, i, w, _, h2, _, _, _, _, _ => by omega
  | k, F + 1, i, w, h1, h2, hr, i4, i5, hA, hv => by
    obtain ⟨r1, r2, r3, r4, r5, r6⟩ := id hr
    show ∃ w2 T br, f_X0_open_B12 (36 + 2 * d) (f_X0_open_R12 (36 + 2 * d) F) w (nI (3 * i)) = _ ∧ _
    unfold f_X0_open_B12 f_X6_size
    rw [z_cl, r3]
    by_cases g1 : sz ≤ 3 * i
    · refine ⟨w, i, false, ?_, frC_rf w, ⟨i4, i5, hA⟩, by omega, hv, Or.inl ⟨rfl, g1⟩⟩
      rw [if_pos (nI_le (by omega) (by omega))]
    · rw [if_neg (nI_ge (by omega) (by omega)), i4, if_neg (by rw [z_le, nI_toInt (by omega), show (20 : Int32).toInt = 20 by decide]; omega), z_cl, show nI (3 * i) + 2 = nI (3 * i + 2) from nI_add (3 * i) 2]
      by_cases g2 : sz ≤ 3 * i + 2
      · refine ⟨q_sI w 16 5 1, i, true, ?_, frC_I16 w 5 1, ⟨i4, rfl, hA⟩, by omega, hv, Or.inr ⟨rfl, by omega, decide_eq_false (by omega)⟩⟩
        rw [if_pos (nI_le (by omega) (by omega)), z_bn]
      · rw [if_neg (nI_ge (by omega) (by omega))]
        have ge0 : f_X6_get w (36 + 2 * d) (nI (3 * i)) = some (E (3 * i), w) := by rw [p_shget r3 r2 (by omega), r4]
        have ge1 : f_X6_get w (36 + 2 * d) (nI (3 * i) + 1) = some (E (3 * i + 1), w) := by rw [show nI (3 * i) + 1 = nI (3 * i + 1) from nI_add (3 * i) 1, p_shget r3 r2 (by omega), r4]
        obtain ⟨-, x1, x2⟩ := r6 (3 * i) (by omega)
        obtain ⟨-, y1, y2⟩ := r6 (3 * i + 1) (by omega)
        have e3 : f_X0_isThree w (36 + 2 * d) (nI (3 * i)) = some (b2i (vld E sz i), w) := by
          unfold f_X0_isThree vld
          rw [ge0, z_cl, ge1, z_cl]
          by_cases v1 : (E (3 * i)).toInt < 0
          · rw [if_pos (by rw [lg_cmp_lt, Int64.lt_iff_toInt_lt, d0]; exact v1), decide_eq_false (by omega)]; rfl
          · rw [if_neg (by rw [lg_cmp_lt, Int64.lt_iff_toInt_lt, d0]; exact v1)]
            by_cases v2 : (E (3 * i)).toInt < 12
            · rw [if_neg (by rw [lg_ge, e12]; omega)]
              by_cases v3 : (E (3 * i + 1)).toInt < 0
              · rw [if_pos (by rw [lg_cmp_lt, Int64.lt_iff_toInt_lt, d0]; exact v3), decide_eq_false (by omega)]; rfl
              · rw [if_neg (by rw [lg_cmp_lt, Int64.lt_iff_toInt_lt, d0]; exact v3)]
                by_cases v4 : (E (3 * i + 1)).toInt < 12
                · rw [if_neg (by rw [lg_ge, e12]; omega), decide_eq_true (by omega)]; rfl
                · rw [if_pos (by rw [lg_ge, e12]; exact v4), decide_eq_false (by omega)]; rfl
            · rw [if_pos (by rw [lg_ge, e12]; exact v2), decide_eq_false (by omega)]; rfl
        rw [e3, z_cl]
        cases hvi : vld E sz i with
        | false =>
          refine ⟨q_sI w 16 5 1, i, true, ?_, frC_I16 w 5 1, ⟨i4, rfl, hA⟩, by omega, hv, Or.inr ⟨rfl, by omega, hvi⟩⟩
          rw [if_pos bz, z_bn]
        | true =>
          have hvv := of_decide_eq_true hvi
          have hcell : (12 : Int32) * Int64.toInt32 (E (3 * i + 1)) + Int64.toInt32 (E (3 * i)) = nI (bcl E i) := by
            have a1 := x_l2i (x := E (3 * i + 1)) (by omega) (by omega)
            have a2 := x_l2i (x := E (3 * i)) (by omega) (by omega)
            have m1 : ((12 : Int32) * Int64.toInt32 (E (3 * i + 1))).toInt = 12 * (E (3 * i + 1)).toInt := by rw [t_mul _ _ (by rw [a1, c12]; omega) (by rw [a1, c12]; omega), a1, c12]
            apply Int32.toInt_inj.mp
            unfold bcl
            rw [t_add _ _ (by rw [m1, a2]; omega) (by rw [m1, a2]; omega), m1, a2, nI_toInt (by omega)]
            omega
          obtain ⟨w12, hw12⟩ : ∃ w12, w12 = q_sA w 17 (upd (q_A w 17) i (nI (bcl E i))) := ⟨_, rfl⟩
          obtain ⟨w15, hw15⟩ : ∃ w15, w15 = q_sA w12 18 (upd (q_A w12 18) i (Int64.toInt32 (E (3 * i + 2)))) := ⟨_, rfl⟩
          have f12 : frC w w12 := by rw [hw12]; exact frC_A w 17 _ (by omega)
          have f15 : frC w12 w15 := by rw [hw15]; exact frC_A w12 18 _ (by omega)
          have j4 : q_I w12 16 4 = nI i := by rw [hw12]; exact i4
          have j4b : q_I w15 16 4 = nI i := by rw [hw15]; exact j4
          have g12 : f_X6_get w12 (36 + 2 * d) (nI (3 * i + 2)) = some (E (3 * i + 2), w12) := by
            have r := rwS_frB f12.1 hr
            rw [p_shget r.2.2.1 r2 (by omega), r.2.2.2.1]
          rw [if_neg bnz, ge1, z_cl, ge0, z_cl, hcell, i4, st_lit _ _ _ _ _ _ (by omega) (by omega), ← hw12, g12, z_cl, j4, st_lit _ _ _ _ _ _ (by omega) (by omega), ← hw15, z_bn, z_bn, j4b, nI_1, show nI (3 * i) + 3 = nI (3 * (i + 1)) from nI_add (3 * i) 3]
          have f16 : frC w (q_sI w15 16 4 (nI (i + 1))) := frC_tr (frC_tr f12 f15) (frC_I16 w15 4 _)
          have b17 : ∀ j, q_A (q_sI w15 16 4 (nI (i + 1))) 17 j = if j = i then nI (bcl E i) else q_A w 17 j := by
            intro j
            show q_A w15 17 j = _
            rw [hw15, g_AA, if_neg (by omega), hw12, g_AA, if_pos rfl]
            rfl
          have b18 : ∀ j, q_A (q_sI w15 16 4 (nI (i + 1))) 18 j = if j = i then Int64.toInt32 (E (3 * i + 2)) else q_A w 18 j := by
            intro j
            show q_A w15 18 j = _
            rw [hw15, g_AA, if_pos rfl, hw12, g_AA, if_neg (by omega)]
            rfl
          obtain ⟨w2, T, br, q1, q2, q3, q4⟩ := b_open (k - 1) F (i + 1) (q_sI w15 16 4 (nI (i + 1))) (by omega) (by omega) (rwS_frB f16.1 hr) rfl (by show q_I w15 16 5 = 0; rw [hw15, hw12]; exact i5) (fun j hj => by
            rw [b17, b18]
            by_cases hji : j = i
            · rw [if_pos hji, if_pos hji, hji]; exact ⟨rfl, rfl⟩
            · rw [if_neg hji, if_neg hji]; exact hA j (by omega)) (fun j hj => by
            by_cases hji : j = i
            · rw [hji]; exact hvi
            · exact hv j (by omega))
          exact ⟨w2, T, br, q1, frC_tr f16 q2, q3, q4⟩
theorem s_open {w : qW} {d sz : Nat} {E : Nat → Int64} (hr : rwS w d sz E) : ∃ w2 T br, f_X0_open w (36 + 2 * d) = some ((), w2) ∧ frC w w2 ∧ bkS E T br w2 ∧ opn E sz T br := by
  unfold f_X0_open
  rw [z_bn, z_bn]
  have f0 : frC w (q_sI (q_sI w 16 4 0) 16 5 0) := frC_tr (frC_I16 w 4 0) (frC_I16 _ 5 0)
  obtain ⟨w2, T, br, q1, q2, q3, q4⟩ := b_open 20 q_fuel 0 (q_sI (q_sI w 16 4 0) 16 5 0) (by omega) (by rw [q_fuel_eq]; omega) (rwS_frB f0.1 hr) rfl rfl (fun j hj => by omega) (fun j hj => by omega)
  exact ⟨w2, T, br, q1, frC_tr f0 q2, q3, q4⟩
def fwv (ok : Nat → Bool) (br : Bool) (T : Nat) : Nat → Nat → Int32
  | 0, _ => if br then nI T else -2
  | k + 1, i => if ok i then fwv ok br T k (i + 1) else nI i
theorem fwv_congr {ok ok2 : Nat → Bool} {br : Bool} {T : Nat} : ∀ k i, i + k = T → (∀ j, j < T → ok j = ok2 j) → fwv ok br T k i = fwv ok2 br T k i
  | 0, i, _, _ => rfl
  | k + 1, i, h1, h => by
    show (if ok i then fwv ok br T k (i + 1) else nI i) = (if ok2 i then fwv ok2 br T k (i + 1) else nI i)
    rw [h i (by omega), fwv_congr k (i + 1) (by omega) h]
def tdk (E : Nat → Int64) (V : Nat → Nat) (i : Nat) : Bool := decide (((V i : Nat) : Int) = (E (3 * i + 2)).toInt)
theorem bkS_fr {E : Nat → Int64} {T : Nat} {br : Bool} {w w2 : qW} (hf : fr0 w w2) (h : bkS E T br w) : bkS E T br w2 := by
  obtain ⟨h1, h2, h3⟩ := h
  refine ⟨by rw [fr0_I hf 16 4 (by omega)]; exact h1, by rw [fr0_I hf 16 5 (by omega)]; exact h2, fun i hi => ?_⟩
  rw [fr0_A hf 17 (by omega), fr0_A hf 18 (by omega)]
  exact h3 i hi
theorem told_eq {E : Nat → Int64} {V : Nat → Nat} {i : Nat} (hV : V i ≤ 100) (h1 : -128 ≤ (E (3 * i + 2)).toInt) (h2 : (E (3 * i + 2)).toInt ≤ 127) : (nI (V i) = Int64.toInt32 (E (3 * i + 2))) ↔ tdk E V i = true := by
  have a1 := x_l2i (x := E (3 * i + 2)) (by omega) (by omega)
  unfold tdk
  rw [z_eq, a1, nI_toInt (by omega)]
  exact ⟨fun h => decide_eq_true h, fun h => of_decide_eq_true h⟩
theorem s_fw {tx : Option (List lw_Ln)} {mn st : Nat} {N : Nat → Nat} {E : Nat → Int64} {T : Nat} {br : Bool} {h : Nat} (hh : h < 12) (hT : T ≤ 20) (hE : ∀ i, i < 60 → -128 ≤ (E i).toInt ∧ (E i).toInt ≤ 127) : ∀ (k F i : Nat) (w : qW), lSt tx w → PC mn st N w → bkS E T br w → i + k = T → k < F → rto (f_X0_firstWrong_R2 F w (nI h) (nI i)) (fwv (tdk E (fun i => vAll tx mn N h (bcl E i))) br T k i) w
  | 0, F + 1, i, w, hL, hP, hB, h1, _ => by
    obtain ⟨b1, b2, b3⟩ := id hB
    show rto (f_X0_firstWrong_B2 (f_X0_firstWrong_R2 F) w (nI h) (nI i)) (if br then nI T else -2) w
    unfold f_X0_firstWrong_B2
    rw [b1, b2, if_pos (nI_le (by omega) (by omega))]
    refine ⟨w, ?_, fr0_rf w⟩
    cases br
    · rw [if_pos bz]; rfl
    · rw [if_neg bnz]; rfl
  | k + 1, F + 1, i, w, hL, hP, hB, h1, h2 => by
    obtain ⟨b1, b2, b3⟩ := id hB
    have h7 := hP.2.2.1
    show rto (f_X0_firstWrong_B2 (f_X0_firstWrong_R2 F) w (nI h) (nI i)) (if tdk E (fun i => vAll tx mn N h (bcl E i)) i then fwv (tdk E (fun i => vAll tx mn N h (bcl E i))) br T k (i + 1) else nI i) w
    obtain ⟨w2, e, f⟩ := s_byAll hL hP (cell := bcl E i) hh
    have hb := sm_le (g := gv tx mn N (bcl E i) h) (fun m => gv_le ..) mn
    have hte := told_eq (E := E) (V := fun i => vAll tx mn N h (bcl E i)) (i := i) (by have := vAll_le tx mn N h (bcl E i); show vAll tx mn N h (bcl E i) ≤ 100; omega) (hE _ (by omega)).1 (hE _ (by omega)).2
    unfold f_X0_firstWrong_B2
    rw [b1, if_neg (nI_ge (by omega) (by omega)), ld_lit _ _ _ _ (by omega) (by omega), (b3 i (by omega)).1, e, z_cl, z_bn, n_min (by omega), ld_lit _ _ _ _ (by omega) (by omega), fr0_A f 18 (by omega), (b3 i (by omega)).2, z_bn, nI_1]
    have hte : (nI (min (sm (gv tx mn N (bcl E i) h) mn) 12) = Int64.toInt32 (E (3 * i + 2))) ↔ tdk E (fun i => vAll tx mn N h (bcl E i)) i = true := hte
    by_cases hc : nI (min (sm (gv tx mn N (bcl E i) h) mn) 12) = Int64.toInt32 (E (3 * i + 2))
    · obtain ⟨w3, e3, f3⟩ := s_fw hh hT hE k F (i + 1) w2 (lSt_fr f hL) (PC_fr f hP) (bkS_fr f hB) (by omega) (by omega)
      rw [if_pos hc, if_pos (hte.mp hc)]
      exact ⟨w3, e3, fr0_tr f f3⟩
    · rw [if_neg hc, if_neg (fun q => hc (hte.mpr q))]
      exact ⟨w2, rfl, f⟩
theorem m_ff {tx : Option (List lw_Ln)} {mn mk st : Nat} {N : Nat → Nat} {E : Nat → Int64} {d sz T : Nat} {br : Bool} {h set : Nat} (hh : h < 12) (hset : set < 256) (hsm : ∀ m, m < 8 → set.testBit m = true → m < mk) (ho : opn E sz T br) : ∀ (k F i : Nat) (w : qW), lSt tx w → PM mn mk st N w → rwS w d sz E → i + k = T → k < F → rto (f_X11_firstFalse_R3 F w (nI d) (nI h) (nI set) (nI i)) (fwv (tdk E (fun i => min (smS (sN tx N (bcl E i) h) set 8) 12)) br T k i) w
  | k, 0, i, w, _, _, _, _, h2 => by omega
  | k, F + 1, i, w, hL, hP, hr, h1, h2 => by
    obtain ⟨r1, r2, r3, r4, r5, r6⟩ := id hr
    obtain ⟨o1, o2, o3⟩ := id ho
    show rto (f_X11_firstFalse_B3 (f_X11_firstFalse_R3 F) w (nI d) (nI h) (nI set) (nI i)) _ w
    have m3 : (3 : Int32) * nI i = nI (3 * i) := i_mul (a := 3) (by omega) (by omega) (by omega)
    have m60 : (60 : Int32) * nI d + nI (3 * i) = nI (60 * d + 3 * i) := by rw [show (60 : Int32) * nI d = nI (60 * d) from i_mul (a := 60) (by omega) (by omega) (by omega), nI_add]
    unfold f_X11_firstFalse_B3
    rw [ld_lit _ _ _ _ (by omega) (by omega), r5, m3]
    by_cases g1 : sz ≤ 3 * i
    · have hk : k = 0 := by
        rcases Nat.lt_or_ge i T with q | q
        · have := of_decide_eq_true (o2 i q); omega
        · omega
      subst hk
      have hi : i = T := by omega
      subst hi
      rcases o3 with ⟨q1, q2⟩ | ⟨q1, q2, q3⟩
      · rw [if_pos (nI_le (by omega) (by omega)), q1]
        exact ⟨w, rfl, fr0_rf w⟩
      · omega
    · rw [if_neg (nI_ge (by omega) (by omega)), z_bn, ld_lit _ _ _ _ (by omega) (by omega), r5, show nI (3 * i) + 2 = nI (3 * i + 2) from nI_add (3 * i) 2, m60]
      have bad : vld E sz i = false → k = 0 ∧ i = T ∧ br = true := by
        intro hv
        have : ¬ i < T := fun q => by rw [o2 i q] at hv; exact no_ft hv.symm
        have hi : i = T := by omega
        refine ⟨by omega, hi, ?_⟩
        rcases o3 with ⟨q1, q2⟩ | ⟨q1, q2, q3⟩
        · omega
        · exact q1
      by_cases g2 : sz ≤ 3 * i + 2
      · obtain ⟨q1, q2, q3⟩ := bad (decide_eq_false (by omega))
        rw [if_pos (nI_le (by omega) (by omega)), q1, q3, ← q2]
        exact ⟨w, rfl, fr0_rf w⟩
      · obtain ⟨x0, x1, x2⟩ := r6 (3 * i) (by omega)
        obtain ⟨y0, y1, y2⟩ := r6 (3 * i + 1) (by omega)
        obtain ⟨z0, z1, z2⟩ := r6 (3 * i + 2) (by omega)
        have y0 : q_G w 65 (60 * d + 3 * i + 1) = E (3 * i + 1) := by rw [Nat.add_assoc]; exact y0
        have z0 : q_G w 65 (60 * d + 3 * i + 2) = E (3 * i + 2) := by rw [Nat.add_assoc]; exact z0
        have d11 : (11 : Int64).toInt = 11 := by decide
        rw [if_neg (nI_ge (by omega) (by omega)), ld_lit _ _ _ _ (by omega) (by omega), x0, p_within, z_cl, d0, d11]
        by_cases v1 : 0 ≤ (E (3 * i)).toInt ∧ (E (3 * i)).toInt ≤ 11
        · rw [bd_t v1.1 v1.2, if_neg n10, show nI (60 * d + 3 * i) + 1 = nI (60 * d + 3 * i + 1) from nI_add (60 * d + 3 * i) 1, ld_lit _ _ _ _ (by omega) (by omega), y0, p_within, z_cl, d0, d11]
          by_cases v2 : 0 ≤ (E (3 * i + 1)).toInt ∧ (E (3 * i + 1)).toInt ≤ 11
          · have hiT : i < T := by
              rcases Nat.lt_or_ge i T with q | q
              · exact q
              · have hi : i = T := by omega
                rcases o3 with ⟨q1, q2⟩ | ⟨q1, q2, q3⟩
                · omega
                · rw [← hi] at q3
                  have := of_decide_eq_false q3
                  omega
            obtain ⟨k, rfl⟩ : ∃ k2, k = k2 + 1 := ⟨k - 1, by omega⟩
            have hcell : Int64.toInt32 ((12 : Int64) * E (3 * i + 1) + E (3 * i)) = nI (bcl E i) := by
              have a1 : ((12 : Int64) * E (3 * i + 1)).toInt = 12 * (E (3 * i + 1)).toInt := by rw [x_mul _ _ (by rw [e12]; omega) (by rw [e12]; omega), e12]
              have a2 : ((12 : Int64) * E (3 * i + 1) + E (3 * i)).toInt = 12 * (E (3 * i + 1)).toInt + (E (3 * i)).toInt := by rw [x_add _ _ (by rw [a1]; omega) (by rw [a1]; omega), a1]
              apply Int32.toInt_inj.mp
              unfold bcl
              rw [x_l2i (by rw [a2]; omega) (by rw [a2]; omega), a2, nI_toInt (by omega)]
              omega
            obtain ⟨w2, e, f⟩ := m_shadeOf (cell := bcl E i) hL hP hset hsm hh
            rw [bd_t v2.1 v2.2, if_neg n10, ld_lit _ _ _ _ (by omega) (by omega), y0, ld_lit _ _ _ _ (by omega) (by omega), x0, hcell, e, z_cl, show nI (60 * d + 3 * i) + 2 = nI (60 * d + 3 * i + 2) from nI_add (60 * d + 3 * i) 2, f.2.1, ld_lit _ _ _ _ (by omega) (by omega), z0, z_bn, nI_1]
            have es : fwv (tdk E (fun i => min (smS (sN tx N (bcl E i) h) set 8) 12)) br T (k + 1) i = if tdk E (fun i => min (smS (sN tx N (bcl E i) h) set 8) 12) i then fwv (tdk E (fun i => min (smS (sN tx N (bcl E i) h) set 8) 12)) br T k (i + 1) else nI i := rfl
            rw [es]
            have hcmp : (lg_cmp (Int32.toInt64 (nI (min (smS (sN tx N (bcl E i) h) set 8) 12))) (E (3 * i + 2)) = 0) ↔ tdk E (fun i => min (smS (sN tx N (bcl E i) h) set 8) 12) i = true := by
              rw [lg_cmp_eq]
              unfold tdk
              constructor
              · intro q
                apply decide_eq_true
                rw [← q, Int32.toInt_toInt64, nI_toInt (by omega)]
              · intro q
                have q := of_decide_eq_true q
                apply Int64.toInt_inj.mp
                rw [Int32.toInt_toInt64, nI_toInt (by omega)]
                exact q
            by_cases hc : lg_cmp (Int32.toInt64 (nI (min (smS (sN tx N (bcl E i) h) set 8) 12))) (E (3 * i + 2)) = 0
            · obtain ⟨w3, e3, f3⟩ := m_ff hh hset hsm ho k F (i + 1) w2 (lSt_fr f hL) (PM_fr f hP) (rwS_frB (frB_0 f) hr) (by omega) (by omega)
              rw [if_pos hc, if_pos (hcmp.mp hc)]
              exact ⟨w3, e3, fr0_tr f f3⟩
            · rw [if_neg hc, if_neg (fun q => hc (hcmp.mpr q))]
              exact ⟨w2, rfl, f⟩
          · obtain ⟨q1, q2, q3⟩ := bad (decide_eq_false (by omega))
            rw [bd_f v2, if_pos rfl, q1, q3, ← q2]
            exact ⟨w, rfl, fr0_rf w⟩
        · obtain ⟨q1, q2, q3⟩ := bad (decide_eq_false (by omega))
          rw [bd_f v1, if_pos rfl, q1, q3, ← q2]
          exact ⟨w, rfl, fr0_rf w⟩
/-- what both sides say of a shelf asked as a book of light: refused alike, or the row is there -/
theorem row_0 {w : qW} (hJ : Jn w) {a : Int32} (ha : 0 ≤ a.toInt ∧ a.toInt < 6) : ∃ (d : Nat) (r : Int32), a = nI d ∧ d < 6 ∧ ((r < 0 ∧ ¬ r = -1 ∧ ¬ r = 0 ∧ f_X6_refusalAs w (36 + 2 * d) 0 = some (r, w) ∧ f_X11_rowIs w a 0 = some (r, w)) ∨ (f_X6_refusalAs w (36 + 2 * d) 0 = some (0, w) ∧ (∀ w2, q_A w2 63 = q_A w 63 → f_X11_rowIs w2 a 0 = some (1, w2)) ∧ ∃ sz E, rwS w d sz E)) := by
  obtain ⟨d, hd⟩ : ∃ d, d = a.toInt.toNat := ⟨_, rfl⟩
  have ea : a = nI d := by rw [hd]; exact z_nI _ ha.1
  have hd6 : d < 6 := by omega
  have hS := jS_at hJ.2.2.2.2.1 d hd6
  have hpl := hJ.2.2.2.1.1
  have hri := p_rowIs (w := w) (s := 0) ha
  rw [← hd] at hri
  rcases p_refAs hS 0 (by omega) with ⟨e1, e2⟩ | e
  · have e1 : f_X6_refusalAs w (36 + 2 * d) 0 = some (if (q_A w 63 d).toInt < 0 then -11 else if q_A w 63 d = (50 : Int32) + nI 0 then 0 else -12, w) := e1
    rw [nI_0] at e1 e2
    rcases e2 with q | ⟨q1, q2, q3, q4⟩ | ⟨q1, q2⟩
    · rw [if_pos q] at e1 hri
      exact ⟨d, -11, ea, hd6, Or.inl ⟨by decide, by decide, by decide, e1, hri⟩⟩
    · have qn : ¬ (q_A w 63 d).toInt < 0 := by rw [q1]; decide
      rw [if_neg qn, if_pos q1] at e1
      obtain ⟨sz, hsz⟩ : ∃ sz : Nat, sz = (q_I w (36 + 2 * d) 2).toInt.toNat := ⟨_, rfl⟩
      have ez : q_I w (36 + 2 * d) 2 = nI sz := by rw [hsz]; exact z_nI _ q3
      have em : q_A w 64 d = nI sz := by rw [← ez]; exact hS.2.1
      refine ⟨d, 0, ea, hd6, Or.inr ⟨e1, ?_, sz, q_G w (36 + 2 * d + 1), hd6, by omega, ez, rfl, em, fun i hi => ⟨(hS.2.2 i hi).1.symm, (hS.2.2 i hi).2.1 q2⟩⟩⟩
      intro w2 h63
      have := p_rowIs (w := w2) (s := 0) ha
      rw [← hd, h63, if_neg qn, if_pos q1] at this
      exact this
    · rw [if_neg (by omega), if_neg q2] at e1 hri
      exact ⟨d, -12, ea, hd6, Or.inl ⟨by decide, by decide, by decide, e1, hri⟩⟩
  · omega
theorem p_judge : j_judge := by
  intro a b w hJ
  show ∃ r w1 w2, f_X10_judge w a b = some (r, w1) ∧ f_X11_judge w1 a b = some (r, w2) ∧ Jn w2
  obtain ⟨tx, hL⟩ := lSt_of hJ
  obtain ⟨mn, st, N, hC, hM, -⟩ := PN_of hJ
  have h7 := hC.2.2.1
  by_cases ha : 0 ≤ a.toInt ∧ a.toInt < 6
  · obtain ⟨d, r, ea, hd6, hrow⟩ := row_0 hJ ha
    have eal : 36 + 2 * a.toInt.toNat = 36 + 2 * d := by rw [ea, nI_toInt (by omega)]; omega
    by_cases hb : 0 ≤ b.toInt ∧ b.toInt < 12
    · obtain ⟨h, hq⟩ : ∃ s, s = b.toInt.toNat := ⟨_, rfl⟩
      have eb : b = nI h := by rw [hq]; exact z_nI _ hb.1
      have hh : h < 12 := by omega
      have eC : f_X10_judge w a b = q_cl (f_X6_refusalAs w (36 + 2 * d) 0) (fun r7 w8 => if r7 = 0 then (q_cl (f_X0_open w8 (36 + 2 * d)) (fun _ w12 => q_cl (f_X0_firstWrong w12 b) (fun r13 w14 => some (r13, w14)))) else (some (r7, w8))) := by
        unfold f_X10_judge
        rw [p_isShelf, z_cl, bd_t ha.1 ha.2, if_neg n10, p_isHour, z_cl, bd_t hb.1 hb.2, if_neg n10]
        simp only [s_al _ _ ha, eal]
      rcases hrow with ⟨r1, r2, r0, r3, r4⟩ | ⟨r3, r4, sz, E, hr⟩
      · refine ⟨r, w, w, ?_, ?_, hJ⟩
        · rw [eC, r3, z_cl, if_neg r0]
        · unfold f_X11_judge
          rw [r4, z_cl, if_neg r2, m_isHour, z_cl, bd_t hb.1 hb.2, if_neg n10, r4, z_cl, if_neg (by rw [z_le]; rw [z_lt] at r1; omega), r4, z_cl]
      · obtain ⟨w1, T, br, o1, f1, o3, o4⟩ := s_open hr
        have hC1 := PC_frB f1.1 hC
        have hM1 := PM_frB f1.1 hM
        obtain ⟨w2, e2, f2⟩ := s_fw (tx := tx) (N := N) hh o4.1 (fun i hi => (hr.2.2.2.2.2 i hi).2) T q_fuel 0 w1 (lSt_frB f1.1 hL) hC1 o3 (by omega) (by rw [q_fuel_eq]; have := o4.1; omega)
        have f12 := frC_tr f1 (frC_0 f2)
        obtain ⟨w3, e3, f3⟩ := m_ff (tx := tx) (N := N) (mn := mn) (mk := mn) (st := st) hh (evb_lt mn (by omega)) (evb_ok h7 (Nat.le_refl mn)) o4 T q_fuel 0 w2 (lSt_frB f12.1 hL) (PM_frB f12.1 hM) (rwS_frB f12.1 hr) (by omega) (by rw [q_fuel_eq]; have := o4.1; omega)
        have eV : fwv (tdk E (fun i => min (smS (sN tx N (bcl E i) h) (evb mn) 8) 12)) br T T 0 = fwv (tdk E (fun i => vAll tx mn N h (bcl E i))) br T T 0 := by
          apply fwv_congr T 0 (by omega)
          intro j _
          show decide (((min (smS (sN tx N (bcl E j) h) (evb mn) 8) 12 : Nat) : Int) = _) = decide (((min (sm (gv tx mn N (bcl E j) h) mn) 12 : Nat) : Int) = _)
          rw [evb_sm h7]
        rw [eV] at e3
        refine ⟨fwv (tdk E (fun i => vAll tx mn N h (bcl E i))) br T T 0, w2, w3, ?_, ?_, Jn_fr0 (Jn_frC hJ f12) f3⟩
        · rw [eC, r3, z_cl, if_pos rfl, o1, z_cl, eb, show f_X0_firstWrong w1 (nI h) = _ from e2, z_cl]
        · unfold f_X11_judge
          rw [r4 w2 (frBA f12.1 63 (by omega)), z_cl, if_neg (by decide), m_isHour, z_cl, bd_t hb.1 hb.2, if_neg n10, r4 w2 (frBA f12.1 63 (by omega)), z_cl, if_pos (by decide), m_evb (PM_frB f12.1 hM), z_cl, eb, ea, show f_X11_firstFalse w2 (nI d) (nI h) (nI (evb mn)) = _ from e3, z_cl]
    · refine ⟨-1, w, w, ?_, ?_, hJ⟩
      · unfold f_X10_judge
        rw [p_isShelf, z_cl, bd_t ha.1 ha.2, if_neg n10, p_isHour, z_cl, bd_f hb, if_pos rfl]
      · unfold f_X11_judge f_X11_judge_B18
        rcases hrow with ⟨r1, r2, r0, r3, r4⟩ | ⟨r3, r4, sz, E, hr⟩
        · rw [r4, z_cl, if_neg r2, m_isHour, z_cl, bd_f hb, if_pos rfl]
        · rw [r4 w rfl, z_cl, if_neg (by decide), m_isHour, z_cl, bd_f hb, if_pos rfl]
  · refine ⟨-1, w, w, ?_, ?_, hJ⟩
    · unfold f_X10_judge
      rw [p_isShelf, z_cl, bd_f ha, if_pos rfl]
    · unfold f_X11_judge f_X11_judge_B18
      rw [p_rowIs_f ha, z_cl, if_pos rfl]
