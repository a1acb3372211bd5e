theorem p_mayBec (w : qW) {what v : Int32} (hw : 0 ≤ what.toInt ∧ what.toInt < 8) : f_X11_mayBecome w what v = some (b2i (decide (jlo what.toInt.toNat ≤ v.toInt) && decide (v.toInt ≤ jhi what.toInt.toNat)), w) := by
  have key : ∀ k : Nat, k < 8 → f_X11_mayBecome w (nI k) v = some (b2i (decide (jlo k ≤ v.toInt) && decide (v.toInt ≤ jhi k)), w) := by
    intro k hk
    have d9 : (9 : Int64).toInt = 9 := by decide
    have d99 : (99 : Int64).toInt = 99 := by decide
    have m0 : f_X11_mayBecome w (nI 0) v = q_cl (f_X11_isCell w (Int32.toInt64 v)) (fun r1 w2 => some (r1 &&& 1, w2)) := rfl
    have m1 : f_X11_mayBecome w (nI 1) v = q_cl (f_X11_within w (Int32.toInt64 v) 0 2) (fun r1 w2 => some (r1 &&& 1, w2)) := rfl
    have m2 : f_X11_mayBecome w (nI 2) v = q_cl (f_X11_within w (Int32.toInt64 v) 0 4) (fun r1 w2 => some (r1 &&& 1, w2)) := rfl
    have m3 : f_X11_mayBecome w (nI 3) v = q_cl (f_X11_within w (Int32.toInt64 v) 0 99) (fun r1 w2 => some (r1 &&& 1, w2)) := rfl
    have m4 : f_X11_mayBecome w (nI 4) v = q_cl (f_X11_isCell w (Int32.toInt64 v)) (fun r1 w2 => some (r1 &&& 1, w2)) := rfl
    have m5 : f_X11_mayBecome w (nI 5) v = q_cl (f_X11_within w (Int32.toInt64 v) 0 4095) (fun r1 w2 => some (r1 &&& 1, w2)) := rfl
    have m6 : f_X11_mayBecome w (nI 6) v = q_cl (f_X11_within w (Int32.toInt64 v) 1 12) (fun r1 w2 => some (r1 &&& 1, w2)) := rfl
    have m7 : f_X11_mayBecome w (nI 7) v = q_cl (f_X11_within w (Int32.toInt64 v) 0 9) (fun r1 w2 => some (r1 &&& 1, w2)) := rfl
    match k, hk with
    | 0, _ => rw [m0, p_isCell, z_cl, b2i_and]; rfl
    | 1, _ => rw [m1, p_within32, z_cl, b2i_and, d0, d2]; rfl
    | 2, _ => rw [m2, p_within32, z_cl, b2i_and, d0, d4]; rfl
    | 3, _ => rw [m3, p_within32, z_cl, b2i_and, d0, d99]; rfl
    | 4, _ => rw [m4, p_isCell, z_cl, b2i_and]; rfl
    | 5, _ => rw [m5, p_within32, z_cl, b2i_and, d0, d4095]; rfl
    | 6, _ => rw [m6, p_within32, z_cl, b2i_and, d1, d12]; rfl
    | 7, _ => rw [m7, p_within32, z_cl, b2i_and, d0, d9]; rfl
    | k + 8, h => omega
  have := key what.toInt.toNat (by omega)
  rw [← z_nI _ hw.1] at this
  exact this
theorem p_mend : j_mend := by
  intro n what v w hJ
  show ∃ r w1 w2, f_X10_mend w n what v = some (r, w1) ∧ f_X11_mend w1 n what v = some (r, w2) ∧ Jn w2
  obtain ⟨p1, p2, p3, p4, p5⟩ := hJ.1
  obtain ⟨h1, h2, h3, h4⟩ := hJ.2.1
  by_cases h : hasP (q_I w 1 1) (q_I w 1 2) n what
  · obtain ⟨g1, g2, g3, g4, g5⟩ := pIx_spec p1.2 p2.2 h
    have hw8 := h.1
    have hn0 := h.2.1
    obtain ⟨v1, v2, v3⟩ := p5 _ g2
    have hpl : ∀ w1 : qW, q_I w1 48 6 = q_I w 1 1 → q_I w1 48 7 = q_I w 1 2 → f_X11_placeOf w1 n what = some (nI (pIx n what), w1) := fun w1 i6 i7 => p_place_t (by rw [i6]; exact p1) (by rw [i7]; exact p2) (by rw [i6, i7]; exact h)
    have hnn : ¬ nI (pIx n what) < 0 := nI_pos (by omega)
    by_cases hf : fitP what v
    · obtain ⟨-, f1, f2⟩ := hf
      have hmb : ∀ w1 : qW, f_X11_mayBecome w1 what v = some (1, w1) := fun w1 => by rw [p_mayBec w1 hw8, decide_eq_true f1, decide_eq_true f2]; rfl
      have hld : ∀ w1 : qW, q_A w1 49 = q_A w 49 → ∀ k : Int32 → Option (Int32 × qW), q_ld (q_A w1 49) 57 (nI (pIx n what)) k = k (q_A w 2 (pIx n what)) := fun w1 h49 k => by
        rw [z_ld _ _ _ _ (by rw [nI_toInt (by omega)]; omega), nI_toInt (by omega), h49, v1]; rfl
      by_cases he : q_A w 2 (pIx n what) = v
      · refine ⟨v, w, w, ?_, ?_, hJ⟩
        · unfold f_X10_mend
          rw [p_has_t h, z_cl, if_neg n1_0, p_fits_t ⟨hw8, f1, f2⟩, z_cl, if_neg n1_0, p_get_t p1.2 p2.2 h, z_cl, if_pos he, he]
        · unfold f_X11_mend f_X11_becomes
          rw [hpl w p3 p4, z_cl, if_neg hnn, hmb, z_cl, if_neg n1_0, hld w rfl, if_pos he, he]
          rfl
      · obtain ⟨nn, hnn2⟩ : ∃ nn : Nat, nn = n.toInt.toNat := ⟨_, rfl⟩
        obtain ⟨wh, hwh⟩ : ∃ wh : Nat, wh = what.toInt.toNat := ⟨_, rfl⟩
        have en : n = nI nn := by rw [hnn2]; exact z_nI n hn0
        have ew : what = nI wh := by rw [hwh]; exact z_nI what hw8.1
        have hix : pIx n what = 8 * wh + nn := by rw [hwh, hnn2]; rfl
        rw [hix] at g1 g2 g3 g4 v1 v2 v3 hpl hnn hld he
        have hn8 : nn < 8 := by omega
        have hwh8 : wh < 8 := by omega
        have f12 : jlo wh ≤ v.toInt ∧ v.toInt ≤ jhi wh := by rw [hwh]; exact ⟨f1, f2⟩
        have u12 : jlo wh ≤ (q_A w 2 (8 * wh + nn)).toInt ∧ (q_A w 2 (8 * wh + nn)).toInt ≤ jhi wh := by
          rw [show (8 * wh + nn) / 8 = wh by omega] at v2 v3
          exact ⟨v2, v3⟩
        have hclass : ∀ w1 : qW, f_X1_add w n what v = some ((), w1) → f_X10_mend w n what v = some (q_A w 2 (8 * wh + nn), w1) := by
          intro w1 hw1
          have hget : f_X4_get w n what = some (q_A w 2 (8 * wh + nn), w) := by rw [← hix]; exact p_get_t p1.2 p2.2 h
          unfold f_X10_mend
          rw [p_has_t h, z_cl, if_neg n1_0, p_fits_t ⟨hw8, f1, f2⟩, z_cl, if_neg n1_0, hget, z_cl, if_neg he, hw1]
          rfl
        by_cases h40 : (q_I w 24 2).toInt < 40
        · obtain ⟨d, hd⟩ : ∃ d : Nat, d = (q_I w 24 2).toInt.toNat := ⟨_, rfl⟩
          have ed : q_I w 24 2 = nI d := by rw [hd]; exact z_nI _ h1.1
          have hd4 : d < 40 := by omega
          have e0 := p_addB (w := w) (v := v) ed hd4 p1.2 p2.2 hn8 hwh8 g2
          have e1 := hclass _ (by
            unfold f_X1_add
            rw [if_pos (by rw [z_lt, show (40 : Int32).toInt = 40 by decide]; exact h40), en, ew]
            exact e0)
          generalize hw1 : q_sA (q_sI (q_sI (q_sA w 25 (K4 (q_A w 25) d nn wh (q_A w 2 (8 * wh + nn)) v)) 24 2 (nI (d + 1))) 24 3 (nI (d + 1))) 2 (upd (q_A w 2) (8 * wh + nn) v) = w1 at e1
          have m5 : q_I w1 48 5 = nI d := by rw [← hw1, ← ed]; exact h2
          have e2 := p_becB (w := w1) (i := 8 * wh + nn) (u := q_A w 2 (8 * wh + nn)) (v := v) m5 hd4 (by omega)
          have fin : ∀ w2 : qW, f_X11_becomes_B97 w1 (nI (8 * wh + nn)) v (q_A w 2 (8 * wh + nn)) = some (q_A w 2 (8 * wh + nn), w2) → Jn w2 → ∃ r w1 w2, f_X10_mend w n what v = some (r, w1) ∧ f_X11_mend w1 n what v = some (r, w2) ∧ Jn w2 := by
            intro w2 e2 hj
            refine ⟨_, w1, w2, e1, ?_, hj⟩
            unfold f_X11_mend f_X11_becomes
            rw [hpl w1 (by rw [← hw1]; exact p3) (by rw [← hw1]; exact p4), z_cl, if_neg hnn, hmb, z_cl, if_neg n1_0, hld w1 (by rw [← hw1]; rfl), if_neg he, m5, if_neg (by rw [z_eq, nI_toInt (by omega), show (40 : Int32).toInt = 40 by decide]; omega), e2]
            rfl
          refine fin _ e2 ?_
          · rw [← hw1]
            refine Jn_chg hJ (i := 8 * wh + nn) (v := v) ?_ rfl rfl ?_ rfl rfl (by rw [show (8 * wh + nn) / 8 = wh by omega]; exact f12) ?_
            · intro o k q1 q2
              show (if o = 48 ∧ k = 4 then _ else if o = 48 ∧ k = 5 then _ else if o = 24 ∧ k = 3 then _ else if o = 24 ∧ k = 2 then _ else q_I w o k) = _
              rw [if_neg (by omega), if_neg (by omega), if_neg (by omega), if_neg (by omega)]
            · intro o q1 q2 q3 q4 q5 q6
              show (if o = 49 then _ else if o = 52 then _ else if o = 51 then _ else if o = 50 then _ else if o = 2 then _ else if o = 25 then _ else q_A w o) = _
              rw [if_neg q3, if_neg q6, if_neg q5, if_neg q4, if_neg q1, if_neg q2]
            · exact jC_add hd4 (fun i hi => h4 i (by omega)) hn8 hwh8 g2 u12 f12
        · have h40e : (q_I w 24 2).toInt = 40 := by omega
          have ha40 : (q_I w 24 3).toInt = 40 := by omega
          obtain ⟨wa, hwa⟩ : ∃ wa : qW, wa = q_sI (q_sA w 25 (va_cpy (q_A w 25) (q_A w 25) 4 0 156)) 24 2 39 := ⟨_, rfl⟩
          have ed : q_I wa 24 2 = nI 39 := by rw [hwa]; rfl
          have a25 : q_A wa 25 = va_cpy (q_A w 25) (q_A w 25) 4 0 156 := by rw [hwa]; rfl
          have e0 := p_addB (w := wa) (v := v) ed (by omega) (by rw [hwa]; exact p1.2) (by rw [hwa]; exact p2.2) hn8 hwh8 (by rw [hwa]; exact g2)
          have e1 := hclass _ (by
            unfold f_X1_add
            rw [if_neg (by rw [z_lt, show (40 : Int32).toInt = 40 by decide]; exact h40), en, ew]
            unfold q_cpi
            rw [if_pos (by decide)]
            show f_X1_add_B31 (q_sI (q_sA w 25 (va_cpy (q_A w 25) (q_A w 25) 4 0 156)) 24 2 39) _ _ _ = _
            rw [← hwa]
            exact e0)
          rw [a25, show q_A wa 2 = q_A w 2 by rw [hwa]; rfl] at e1
          generalize hw1 : q_sA (q_sI (q_sI (q_sA wa 25 (K4 (va_cpy (q_A w 25) (q_A w 25) 4 0 156) 39 nn wh (q_A w 2 (8 * wh + nn)) v)) 24 2 (nI (39 + 1))) 24 3 (nI (39 + 1))) 2 (upd (q_A w 2) (8 * wh + nn) v) = w1 at e1
          have m5 : q_I w1 48 5 = 40 := by
            rw [← hw1, hwa]
            show q_I w 48 5 = 40
            rw [h2, z_eq, h40e]
            rfl
          obtain ⟨wb, hwb⟩ : ∃ wb : qW, wb = q_sI (q_sA (q_sA (q_sA w1 50 (shf 0 (q_A w1 50))) 51 (shf 0 (q_A w1 51))) 52 (shf 0 (q_A w1 52))) 48 5 (q_I w1 48 5 - 1) := ⟨_, rfl⟩
          have mb : q_I wb 48 5 = nI 39 := by
            rw [hwb, m5]; rfl
          have e2 := p_becB (w := wb) (i := 8 * wh + nn) (u := q_A w 2 (8 * wh + nn)) (v := v) mb (by omega) (by omega)
          have fin : ∀ w2 : qW, f_X11_becomes_B97 wb (nI (8 * wh + nn)) v (q_A w 2 (8 * wh + nn)) = some (q_A w 2 (8 * wh + nn), w2) → Jn w2 → ∃ r w1 w2, f_X10_mend w n what v = some (r, w1) ∧ f_X11_mend w1 n what v = some (r, w2) ∧ Jn w2 := by
            intro w2 e2 hj
            refine ⟨_, w1, w2, e1, ?_, hj⟩
            unfold f_X11_mend f_X11_becomes
            rw [hpl w1 (by rw [← hw1, hwa]; exact p3) (by rw [← hw1, hwa]; exact p4), z_cl, if_neg hnn, hmb, z_cl, if_neg n1_0, hld w1 (by rw [← hw1, hwa]; rfl), if_neg he, m5, if_pos rfl]
            have := p_becR (nI (8 * wh + nn)) v (q_A w 2 (8 * wh + nn)) 39 q_fuel 0 w1 (by omega) (by rw [q_fuel_eq]; omega)
            rw [show nI (0 + 1) = 1 from rfl, ← hwb, e2] at this
            rw [this]
            rfl
          refine fin _ e2 ?_
          · have b50 : q_A wb 50 = shf 0 (q_A w 50) := by rw [hwb, ← hw1, hwa]; rfl
            have b51 : q_A wb 51 = shf 0 (q_A w 51) := by rw [hwb, ← hw1, hwa]; rfl
            have b52 : q_A wb 52 = shf 0 (q_A w 52) := by rw [hwb, ← hw1, hwa]; rfl
            have b49 : q_A wb 49 = q_A w 49 := by rw [hwb, ← hw1, hwa]; rfl
            have b25 : q_A wb 25 = K4 (va_cpy (q_A w 25) (q_A w 25) 4 0 156) 39 nn wh (q_A w 2 (8 * wh + nn)) v := by rw [hwb, ← hw1, hwa]; rfl
            rw [b50, b51, b52, b49]
            refine Jn_chg hJ (i := 8 * wh + nn) (v := v) ?_ ?_ ?_ ?_ ?_ rfl (by rw [show (8 * wh + nn) / 8 = wh by omega]; exact f12) ?_
            · intro o k q1 q2
              rw [hwb, ← hw1, hwa]
              show (if o = 48 ∧ k = 4 then _ else if o = 48 ∧ k = 5 then _ else if o = 48 ∧ k = 5 then _ else if o = 24 ∧ k = 3 then _ else if o = 24 ∧ k = 2 then _ else if o = 24 ∧ k = 2 then _ else q_I w o k) = _
              rw [if_neg (by omega), if_neg (by omega), if_neg (by omega), if_neg (by omega), if_neg (by omega), if_neg (by omega)]
            · rw [hwb, ← hw1, hwa]; rfl
            · rw [hwb, ← hw1, hwa]; rfl
            · intro o q1 q2 q3 q4 q5 q6
              rw [hwb, ← hw1, hwa]
              show (if o = 49 then _ else if o = 52 then _ else if o = 51 then _ else if o = 50 then _ else if o = 52 then _ else if o = 51 then _ else if o = 50 then _ else if o = 2 then _ else if o = 25 then _ else if o = 25 then _ else q_A w o) = _
              rw [if_neg q3, if_neg q6, if_neg q5, if_neg q4, if_neg q6, if_neg q5, if_neg q4, if_neg q1, if_neg q2, if_neg q2]
            · rw [hwb, ← hw1, hwa]; rfl
            · have base : ∀ i, i < 39 → jEnt (q_I w 1 1) (q_I w 1 2) (va_cpy (q_A w 25) (q_A w 25) 4 0 156) (shf 0 (q_A w 50)) (shf 0 (q_A w 51)) (shf 0 (q_A w 52)) i := by
                intro i hi
                have c : ∀ t : Nat, t < 4 → va_cpy (q_A w 25) (q_A w 25) 4 0 156 (4 * i + t) = q_A w 25 (4 * (i + 1) + t) := by
                  intro t ht
                  unfold va_cpy
                  rw [if_pos (by omega)]
                  congr 1
                  omega
                have s : ∀ f : Nat → Int32, shf 0 f i = f (i + 1) := by
                  intro f
                  unfold shf
                  rw [if_pos (by omega)]
                obtain ⟨n2, w2, q1, q2, q3, q4, q5, q6, q7, q8, q9⟩ := h4 (i + 1) (by omega)
                refine ⟨n2, w2, q1, q2, ?_, ?_, q5, ?_, ?_, ?_, ?_⟩
                · exact (c 0 (by omega)).trans q3
                · exact (c 1 (by omega)).trans q4
                · exact (s _).trans q6
                · rw [s, c 2 (by omega)]; exact q7
                · rw [s, c 3 (by omega)]; exact q8
                · rw [c 2 (by omega), c 3 (by omega)]; exact q9
              have := jC_add (u := q_A w 2 (8 * wh + nn)) (v := v) (d := 39) (by omega) base hn8 hwh8 g2 u12 f12
              unfold jC
              rw [show q_A (q_sA (q_sI (q_sI (q_sA (q_sA (q_sA wb 50 (upd (shf 0 (q_A w 50)) 39 (nI (8 * wh + nn)))) 51 (upd (shf 0 (q_A w 51)) 39 (q_A w 2 (8 * wh + nn)))) 52 (upd (shf 0 (q_A w 52)) 39 v)) 48 5 (nI (39 + 1))) 48 4 (nI (39 + 1))) 49 (upd (q_A w 49) (8 * wh + nn) v)) 25 = q_A wb 25 from rfl, b25]
              rw [show ∀ k : Nat, q_I (q_sA (q_sI (q_sI (q_sA (q_sA (q_sA wb 50 (upd (shf 0 (q_A w 50)) 39 (nI (8 * wh + nn)))) 51 (upd (shf 0 (q_A w 51)) 39 (q_A w 2 (8 * wh + nn)))) 52 (upd (shf 0 (q_A w 52)) 39 v)) 48 5 (nI (39 + 1))) 48 4 (nI (39 + 1))) 49 (upd (q_A w 49) (8 * wh + nn) v)) 1 k = q_I wb 1 k from fun _ => rfl]
              rw [show ∀ k : Nat, q_I (q_sA (q_sI (q_sI (q_sA (q_sA (q_sA wb 50 (upd (shf 0 (q_A w 50)) 39 (nI (8 * wh + nn)))) 51 (upd (shf 0 (q_A w 51)) 39 (q_A w 2 (8 * wh + nn)))) 52 (upd (shf 0 (q_A w 52)) 39 v)) 48 5 (nI (39 + 1))) 48 4 (nI (39 + 1))) 49 (upd (q_A w 49) (8 * wh + nn) v)) 24 k = q_I wb 24 k from fun _ => rfl]
              rw [hwb, ← hw1, hwa]
              exact this
    · refine ⟨-1, w, w, ?_, ?_, hJ⟩
      · unfold f_X10_mend
        rw [p_has_t h, z_cl, if_neg n1_0, p_fits_f hf]
        rfl
      · unfold f_X11_mend
        rw [hpl w p3 p4, z_cl, if_neg hnn, p_mayBec w hw8, z_cl]
        have : (decide (jlo what.toInt.toNat ≤ v.toInt) && decide (v.toInt ≤ jhi what.toInt.toNat)) = false := by
          have : ¬ (jlo what.toInt.toNat ≤ v.toInt ∧ v.toInt ≤ jhi what.toInt.toNat) := fun q => hf ⟨hw8, q⟩
          simp only [Bool.and_eq_false_iff, decide_eq_false_iff_not]
          omega
        rw [this]
        rfl
  · refine ⟨-1, w, w, ?_, ?_, hJ⟩
    · unfold f_X10_mend
      rw [p_has_f h]
      rfl
    · unfold f_X11_mend
      rw [p_place_f (by rw [p3]; exact p1) (by rw [p4]; exact p2) (by rw [p3, p4]; exact h)]
      rfl
