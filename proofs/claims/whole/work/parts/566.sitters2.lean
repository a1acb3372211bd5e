theorem p_sitM {d sz i0 n : Nat} {a b : Int32} {E : Nat → Int64} (hd : d < 6) (hb : b.toInt = (d : Int)) (hs : sz ≤ 60) (hr : ∀ j, j < 60 → -32768 ≤ (E j).toInt ∧ (E j).toInt ≤ 32767) (ha : a.toInt = (i0 : Int)) (hn : n ≤ 8) : ∀ (k fuel i st : Nat) (w : qW), q_I w 48 7 = nI st → st ≤ 8 → q_A w 64 d = nI sz → (∀ j, j < 60 → q_G w 65 (60 * d + j) = E j) → i + k = n → k + 1 < fuel → f_X11_sitters_R69 fuel w b a (nI n) (nI i) 1 = some (nI (sitL (sitOk E i0 sz) (fun i => Int64.toInt32 (E (i0 + 3 * i))) (fun i => Int64.toInt32 (E (i0 + 3 * i + 1))) (fun i => Int64.toInt32 (E (i0 + 3 * i + 2))) k i st (q_A w 49)).1, q_sI (q_sA w 49 (sitL (sitOk E i0 sz) (fun i => Int64.toInt32 (E (i0 + 3 * i))) (fun i => Int64.toInt32 (E (i0 + 3 * i + 1))) (fun i => Int64.toInt32 (E (i0 + 3 * i + 2))) k i st (q_A w 49)).2.2) 48 7 (nI (sitL (sitOk E i0 sz) (fun i => Int64.toInt32 (E (i0 + 3 * i))) (fun i => Int64.toInt32 (E (i0 + 3 * i + 1))) (fun i => Int64.toInt32 (E (i0 + 3 * i + 2))) k i st (q_A w 49)).2.1))
  | 0, fuel + 1, i, st, w, h2, h3, h4, h5, h6, h7 => by
    show f_X11_sitters_B69 _ w b a (nI n) (nI i) 1 = _
    unfold f_X11_sitters_B69
    rw [if_neg n1_0, if_pos (nI_le (by omega) (by omega))]
    show _ = some (nI i, q_sI (q_sA w 49 (q_A w 49)) 48 7 (nI st))
    rw [sA_self, ← h2, sI_self]
  | k + 1, fuel + 2, i, st, w, h2, h3, h4, h5, h6, h7 => by
    show f_X11_sitters_B69 (f_X11_sitters_R69 (fuel + 1)) w b a (nI n) (nI i) 1 = _
    have stop : f_X11_sitters_B110 (f_X11_sitters_R69 (fuel + 1)) w b a (nI n) (nI i) = some (nI i, w) := by
      unfold f_X11_sitters_B110 f_X11_sitters_B111
      rw [z_bn, if_pos rfl]
      unfold f_X11_sitters_B166 f_X11_sitters_B167
      rw [if_pos rfl]
      unfold f_X11_sitters_B209
      show f_X11_sitters_B69 _ w b a (nI n) (nI i) 0 = _
      unfold f_X11_sitters_B69
      rw [if_pos rfl]
    have stop2 : ∀ v : Int32, f_X11_sitters_B166 (f_X11_sitters_R69 (fuel + 1)) w b a (nI n) (nI i) v = some (nI i, w) := by
      intro v
      unfold f_X11_sitters_B166 f_X11_sitters_B167
      rw [if_pos rfl]
      unfold f_X11_sitters_B209
      show f_X11_sitters_B69 _ w b a (nI n) (nI i) 0 = _
      unfold f_X11_sitters_B69
      rw [if_pos rfl]
    have self : some (nI i, w) = some (nI i, q_sI (q_sA w 49 (q_A w 49)) 48 7 (nI st)) := by rw [sA_self, ← h2, sI_self]
    unfold f_X11_sitters_B69
    have t0 : (nI i).toInt = (i : Int) := nI_toInt (by omega)
    have ts : (nI st).toInt = (st : Int) := nI_toInt (by omega)
    have tz : (nI sz).toInt = (sz : Int) := nI_toInt (by omega)
    have b3 : ((3 : Int32) * nI i).toInt = 3 * (i : Int) := by rw [t_mul _ _ (by rw [c3, t0]; omega) (by rw [c3, t0]; omega), c3, t0]
    have b4 : (nI sz - 3).toInt = (sz : Int) - 3 := by rw [t_sub _ _ (by rw [c3, tz]; omega) (by rw [c3, tz]; omega), c3, tz]
    have b5 : (nI sz - 3 - (3 : Int32) * nI i).toInt = (sz : Int) - 3 - 3 * i := by rw [t_sub _ _ (by rw [b3, b4]; omega) (by rw [b3, b4]; omega), b3, b4]
    rw [if_neg n1_0, if_neg (nI_ge (by omega) (by omega)), z_ld _ _ _ _ (by rw [hb]; omega), hb, show ((d : Int)).toNat = d from rfl, h4, stop]
    unfold sitL
    by_cases hp : i0 + 3 * i + 2 < sz
    · rw [if_neg (by rw [z_lt, b5, ha]; omega), h2]
      by_cases h8 : st < 8
      · rw [if_neg (by rw [z_le, c8, ts]; omega)]
        unfold f_X11_sitters_B111
        have b6 : ((60 : Int32) * b).toInt = 60 * (d : Int) := by rw [t_mul _ _ (by rw [c60, hb]; omega) (by rw [c60, hb]; omega), c60, hb]
        have b7 : ((60 : Int32) * b + a).toInt = 60 * (d : Int) + i0 := by rw [t_add _ _ (by rw [b6, ha]; omega) (by rw [b6, ha]; omega), b6, ha]
        have b8 : (60 : Int32) * b + a + (3 : Int32) * nI i = nI (60 * d + (i0 + 3 * i)) := by
          rw [z_eq, t_add _ _ (by rw [b7, b3]; omega) (by rw [b7, b3]; omega), b7, b3, nI_toInt (by omega)]
          omega
        have b9 : nI (60 * d + (i0 + 3 * i)) + 1 = nI (60 * d + (i0 + 3 * i + 1)) := nI_add _ 1
        have b10 : nI (60 * d + (i0 + 3 * i)) + 2 = nI (60 * d + (i0 + 3 * i + 2)) := nI_add _ 2
        have ld : ∀ (w5 : qW) (j : Nat) (kk : Int64 → Option (Int32 × qW)), q_G w5 = q_G w → j < 60 → q_ld (q_G w5 65) 360 (nI (60 * d + j)) kk = kk (E j) := by
          intro w5 j kk hw hj
          rw [z_ld _ _ _ _ (by rw [nI_toInt (by omega)]; omega), nI_toInt (by omega), hw]
          show kk (q_G w 65 (60 * d + j)) = _
          rw [h5 j hj]
        rw [b8, z_bn, if_neg n1_0, b9, b10, ld w _ _ rfl (by omega), ld w _ _ rfl (by omega), ld w _ _ rfl (by omega)]
        by_cases hc : comeP (E (i0 + 3 * i)).toInt (E (i0 + 3 * i + 1)).toInt (E (i0 + 3 * i + 2)).toInt
        · have hok : sitOk E i0 sz i = true := decide_eq_true ⟨hp, hc⟩
          rw [p_mayCome_t hc, z_cl, if_neg n1_0, if_pos ⟨h8, hok⟩]
          unfold f_X11_sitters_B167
          rw [if_neg n1_0, b9, b10, ld w _ _ rfl (by omega), ld w _ _ rfl (by omega), ld w _ _ rfl (by omega), p_adds (by rw [h2, ts]; omega), z_cl, h2, ts, nI_1, z_bn, nI_1]
          unfold f_X11_sitters_B209
          rw [p_sitM hd hb hs hr ha hn k (fuel + 1) (i + 1) (st + 1) _ rfl (by omega) (by exact h4) (by exact h5) (by omega) (by omega)]
          rw [show ∀ (f g : Nat → Int32) (x y : Int32), q_sI (q_sA (q_sI (q_sA w 49 f) 48 7 x) 49 g) 48 7 y = q_sI (q_sI (q_sA (q_sA w 49 f) 49 g) 48 7 x) 48 7 y from fun _ _ _ _ => rfl, sA_two, sI_two]
          rfl
        · have hok : ¬ sitOk E i0 sz i = true := fun q => hc (of_decide_eq_true q).2
          rw [p_mayCome_f hc, z_cl, if_pos rfl, stop2, if_neg (fun q => hok q.2)]
          exact self
      · rw [if_pos (by rw [z_le, c8, ts]; omega), if_neg (fun q => h8 q.1)]
        exact self
    · have hok : ¬ sitOk E i0 sz i = true := fun q => hp (of_decide_eq_true q).1
      rw [if_pos (by rw [z_lt, b5, ha]; omega), if_neg (fun q => hok q.2)]
      exact self
  | 0, 0, _, _, _, _, _, _, _, _, h => by omega
  | _ + 1, 0, _, _, _, _, _, _, _, _, h => by omega
  | _ + 1, 1, _, _, _, _, _, _, _, _, h => by omega
theorem sitL_ind (ok : Nat → Bool) (T1 T2 T3 : Nat → Int32) : ∀ (k i st : Nat) (N M : Nat → Int32), (sitL ok T1 T2 T3 k i st N).1 = (sitL ok T1 T2 T3 k i st M).1 ∧ (sitL ok T1 T2 T3 k i st N).2.1 = (sitL ok T1 T2 T3 k i st M).2.1
  | 0, _, _, _, _ => ⟨rfl, rfl⟩
  | k + 1, i, st, N, M => by
    unfold sitL
    by_cases h : st < 8 ∧ ok i = true
    · rw [if_pos h, if_pos h]
      exact sitL_ind ok T1 T2 T3 k (i + 1) (st + 1) _ _
    · rw [if_neg h, if_neg h]
      exact ⟨rfl, rfl⟩
theorem Jn_sitL (ok : Nat → Bool) (T1 T2 T3 : Nat → Int32) (hok : ∀ i, ok i = true → (0 ≤ (T1 i).toInt ∧ (T1 i).toInt ≤ 143) ∧ (0 ≤ (T2 i).toInt ∧ (T2 i).toInt ≤ 4095) ∧ 1 ≤ (T3 i).toInt ∧ (T3 i).toInt ≤ 12) : ∀ (k i st : Nat) (w : qW), Jn w → q_I w 1 2 = nI st → Jn (q_sI (q_sA (q_sA (q_sI w 1 2 (nI (sitL ok T1 T2 T3 k i st (q_A w 2)).2.1)) 2 (sitL ok T1 T2 T3 k i st (q_A w 2)).2.2) 49 (sitL ok T1 T2 T3 k i st (q_A w 49)).2.2) 48 7 (nI (sitL ok T1 T2 T3 k i st (q_A w 2)).2.1))
  | 0, i, st, w, hJ, h => by
    show Jn (q_sI (q_sA (q_sA (q_sI w 1 2 (nI st)) 2 (q_A w 2)) 49 (q_A w 49)) 48 7 (nI st))
    rw [← h, sI_self, sA_self, sA_self, ← hJ.1.2.2.2.1, sI_self]
    exact hJ
  | k + 1, i, st, w, hJ, h => by
    unfold sitL
    by_cases hc : st < 8 ∧ ok i = true
    · rw [if_pos hc, if_pos hc]
      have ts : (nI st).toInt = (st : Int) := nI_toInt (by omega)
      obtain ⟨q1, q2, q3⟩ := hok i hc.2
      have hj := Jn_sit (c := T1 i) (wa := T2 i) (le := T3 i) hJ (by rw [h, ts]; omega) q1 q2 q3
      rw [h, ts, nI_1] at hj
      have ih := Jn_sitL ok T1 T2 T3 hok k (i + 1) (st + 1) _ hj rfl
      have x2 : q_A (q_sI (q_sA (q_sA (q_sI w 1 2 (nI (st + 1))) 2 (pSit (q_A w 2) ((st : Int)).toNat (T1 i) (T2 i) (T3 i))) 49 (pSit (q_A w 49) ((st : Int)).toNat (T1 i) (T2 i) (T3 i))) 48 7 (nI (st + 1))) 2 = pSit (q_A w 2) st (T1 i) (T2 i) (T3 i) := rfl
      have x49 : q_A (q_sI (q_sA (q_sA (q_sI w 1 2 (nI (st + 1))) 2 (pSit (q_A w 2) ((st : Int)).toNat (T1 i) (T2 i) (T3 i))) 49 (pSit (q_A w 49) ((st : Int)).toNat (T1 i) (T2 i) (T3 i))) 48 7 (nI (st + 1))) 49 = pSit (q_A w 49) st (T1 i) (T2 i) (T3 i) := rfl
      rw [x2, x49] at ih
      have ew : ∀ (f g f2 g2 : Nat → Int32) (x y : Int32), q_sI (q_sA (q_sA (q_sI (q_sI (q_sA (q_sA (q_sI w 1 2 x) 2 f) 49 g) 48 7 x) 1 2 y) 2 f2) 49 g2) 48 7 y = q_sI (q_sA (q_sA (q_sI w 1 2 y) 2 f2) 49 g2) 48 7 y := by
        intro f g f2 g2 x y
        refine W_ext ?_ rfl ?_ rfl
        · funext o k
          by_cases h1 : o = 48 ∧ k = 7
          · simp only [g_II, if_pos h1]
          · by_cases h2 : o = 1 ∧ k = 2
            · simp only [g_II, g_IA, if_neg h1, if_pos h2]
            · simp only [g_II, g_IA, if_neg h1, if_neg h2]
        · funext o
          by_cases h1 : o = 49
          · simp only [g_AI, g_AA, if_pos h1]
          · by_cases h2 : o = 2
            · simp only [g_AI, g_AA, if_neg h1, if_pos h2]
            · simp only [g_AI, g_AA, if_neg h1, if_neg h2]
      rw [ew] at ih
      exact ih
    · rw [if_neg hc, if_neg hc]
      show Jn (q_sI (q_sA (q_sA (q_sI w 1 2 (nI st)) 2 (q_A w 2)) 49 (q_A w 49)) 48 7 (nI st))
      rw [← h, sI_self, sA_self, sA_self, ← hJ.1.2.2.2.1, sI_self]
      exact hJ
theorem p_rowOf (w : qW) (id : Nat) (s : Int32) : f_X6_isRowOf w id s = some (if q_I w id 1 = s then 1 else 0, w) := by
  unfold f_X6_isRowOf
  by_cases h : q_I w id 1 = s
  · rw [if_pos h, if_pos h]; rfl
  · rw [if_neg h, if_neg h]; rfl
theorem p_sitters : j_sitters := by
  intro a i n w hJ
  show ∃ r w1 w2, f_X10_sitters w a i n = some (r, w1) ∧ f_X11_sitters w1 a i n = some (r, w2) ∧ Jn w2
  have hS : jS w := hJ.2.2.2.2.1
  obtain ⟨p1, p2, p3, p4, p5⟩ := hJ.1
  have d8 : (8 : Int64).toInt = 8 := by decide
  by_cases ha : 0 ≤ a.toInt ∧ a.toInt < 6
  · by_cases hn : 1 ≤ n.toInt ∧ n.toInt ≤ 8
    · have hnb : (decide ((1 : Int64).toInt ≤ n.toInt) && decide (n.toInt ≤ (8 : Int64).toInt)) = true := by rw [d1, d8]; simp; omega
      obtain ⟨d, hde⟩ : ∃ d : Nat, d = a.toInt.toNat := ⟨_, rfl⟩
      have hd6 : d < 6 := by omega
      have hd := jS_at hS d hd6
      obtain ⟨g1, g2, g3⟩ := hd
      have mst : ∀ w1 : qW, q_A w1 63 = q_A w 63 → f_X11_sitters w1 a i n = if (q_A w 63 d).toInt < 0 ∨ q_A w 63 d = 51 then f_X11_sitters_B44 w1 a i n else some (-12, w1) := by
        intro w1 a63
        unfold f_X11_sitters
        rw [p_mshelf, z_cl, decide_eq_true ha.1, decide_eq_true ha.2, Bool.and_self, b2i_t, if_neg n1_0, p_within32, z_cl, hnb, b2i_t, if_neg n1_0, z_ld _ _ _ _ ha, a63, ← hde]
        by_cases q : (q_A w 63 d).toInt < 0
        · rw [if_pos (by rw [z_lt, c0]; exact q), if_pos (Or.inl q)]
        · rw [if_neg (by rw [z_lt, c0]; exact q), z_ld _ _ _ _ ha, ← hde]
          by_cases q2 : q_A w 63 d = 51
          · rw [if_pos q2, if_pos (Or.inr q2)]
          · rw [if_neg q2, if_neg (fun h => h.elim q q2)]
      have m44 : ∀ w1 : qW, q_A w1 63 = q_A w 63 → f_X11_sitters_B44 w1 a i n = if q_A w 63 d = 51 ∧ 0 ≤ i.toInt then f_X11_sitters_R69 q_fuel w1 a i n 0 1 else some (0, w1) := by
        intro w1 a63
        have z : f_X11_sitters_B66 w1 a i n 0 = some (0, w1) := by
          unfold f_X11_sitters_B66 f_X11_sitters_B67
          show f_X11_sitters_B69 (f_X11_sitters_R69 4095) w1 a i n 0 0 = _
          unfold f_X11_sitters_B69
          rw [if_pos rfl]
        unfold f_X11_sitters_B44
        rw [z_ld _ _ _ _ ha, a63, ← hde, z]
        by_cases q : q_A w 63 d = 51
        · rw [if_pos q]
          by_cases q2 : 0 ≤ i.toInt
          · rw [if_neg (by rw [z_lt, c0]; omega), if_pos ⟨q, q2⟩]
            rfl
          · rw [if_pos (by rw [z_lt, c0]; omega), if_neg (fun h => q2 h.2)]
        · rw [if_neg q, if_neg (fun h => q h.1)]
      have cst : f_X10_sitters w a i n = q_cl (f_X6_isEmpty w (36 + 2 * d)) (fun r5 w6 => if r5 = 0 then (q_cl (f_X6_isRowOf w6 (36 + 2 * d) 1) (fun r7 w8 => if r7 = 0 then (some ((-12), w8)) else (f_X10_sitters_R53 q_fuel w8 i n (36 + 2 * d) 0))) else (some (0, w6))) := by
        unfold f_X10_sitters
        rw [p_isShelf, z_cl, decide_eq_true ha.1, decide_eq_true ha.2, Bool.and_self, b2i_t, if_neg n1_0, if_neg (by rw [z_lt, c1]; omega), if_pos (by rw [z_le, c8]; exact hn.2), s_al _ _ ha, ← hde]
      rw [cst, p_empty, z_cl]
      rcases g1 with ⟨k1, k2, k3, k4⟩ | ⟨k1, k2, k3, k4, k5⟩ | ⟨k1, k2, k3, k4, k5, k6⟩
      · refine ⟨0, w, w, ?_, ?_, hJ⟩
        · rw [k1, k2]
          rfl
        · rw [mst w rfl, if_pos (Or.inl (by rw [k3, cm1]; omega)), m44 w rfl, if_neg]
          rw [k3]
          exact fun q => absurd q.1 (by decide)
      · have hn1 : ¬ (q_I w (36 + 2 * d) 0 = -1) := by rw [z_eq, cm1]; omega
        have hpl := hJ.2.2.2.1.1.2
        refine ⟨-12, w, w, ?_, ?_, hJ⟩
        · rw [decide_eq_false hn1, Bool.false_and, b2i_f, if_pos rfl, p_rowOf, z_cl, k3]
          rfl
        · rw [mst w rfl, k4, if_neg]
          rintro (q | q)
          · omega
          · rw [z_eq, show (51 : Int32).toInt = 51 by decide] at q
            omega
      · have hn1 : ¬ (q_I w (36 + 2 * d) 1 = -1) := by rw [z_eq, cm1]; omega
        rw [decide_eq_false hn1, Bool.and_false, b2i_f, if_pos rfl, p_rowOf, z_cl]
        by_cases h1 : q_I w (36 + 2 * d) 1 = 1
        · have h51 : q_A w 63 d = 51 := by rw [k4, h1]; rfl
          rw [if_pos h1, if_neg n1_0]
          obtain ⟨st, hst⟩ : ∃ st : Nat, st = (q_I w 1 2).toInt.toNat := ⟨_, rfl⟩
          have es : q_I w 1 2 = nI st := by rw [hst]; exact z_nI _ p2.1
          obtain ⟨sz, hsz⟩ : ∃ sz : Nat, sz = (q_I w (36 + 2 * d) 2).toInt.toNat := ⟨_, rfl⟩
          have ez : q_I w (36 + 2 * d) 2 = nI sz := by rw [hsz]; exact z_nI _ k5
          obtain ⟨nn, hnn⟩ : ∃ nn : Nat, nn = n.toInt.toNat := ⟨_, rfl⟩
          have en : n = nI nn := by rw [hnn]; exact z_nI _ (by omega)
          by_cases hi : 0 ≤ i.toInt
          · obtain ⟨i0, hi0⟩ : ∃ i0 : Nat, i0 = i.toInt.toNat := ⟨_, rfl⟩
            have hii : i.toInt = (i0 : Int) := by omega
            have hr : ∀ j, j < 60 → -32768 ≤ (q_G w (36 + 2 * d + 1) j).toInt ∧ (q_G w (36 + 2 * d + 1) j).toInt ≤ 32767 := fun j hj => (g3 j hj).2.2 h1
            have e1 := p_sitR (id := 36 + 2 * d) (sz := sz) (E := q_G w (36 + 2 * d + 1)) (by omega) (by omega) hr hii (show nn ≤ 8 by omega) nn q_fuel 0 st w p1.2 es (by omega) ez rfl (by omega) (by rw [q_fuel_eq]; omega)
            rw [nI_0, ← en] at e1
            obtain ⟨rc, hrc⟩ : ∃ rc, rc = sitL (sitOk (q_G w (36 + 2 * d + 1)) i0 sz) (fun i => Int64.toInt32 (q_G w (36 + 2 * d + 1) (i0 + 3 * i))) (fun i => Int64.toInt32 (q_G w (36 + 2 * d + 1) (i0 + 3 * i + 1))) (fun i => Int64.toInt32 (q_G w (36 + 2 * d + 1) (i0 + 3 * i + 2))) nn 0 st (q_A w 2) := ⟨_, rfl⟩
            obtain ⟨rm, hrm⟩ : ∃ rm, rm = sitL (sitOk (q_G w (36 + 2 * d + 1)) i0 sz) (fun i => Int64.toInt32 (q_G w (36 + 2 * d + 1) (i0 + 3 * i))) (fun i => Int64.toInt32 (q_G w (36 + 2 * d + 1) (i0 + 3 * i + 1))) (fun i => Int64.toInt32 (q_G w (36 + 2 * d + 1) (i0 + 3 * i + 2))) nn 0 st (q_A w 49) := ⟨_, rfl⟩
            have hind := sitL_ind (sitOk (q_G w (36 + 2 * d + 1)) i0 sz) (fun i => Int64.toInt32 (q_G w (36 + 2 * d + 1) (i0 + 3 * i))) (fun i => Int64.toInt32 (q_G w (36 + 2 * d + 1) (i0 + 3 * i + 1))) (fun i => Int64.toInt32 (q_G w (36 + 2 * d + 1) (i0 + 3 * i + 2))) nn 0 st (q_A w 2) (q_A w 49)
            have hj := Jn_sitL (sitOk (q_G w (36 + 2 * d + 1)) i0 sz) (fun i => Int64.toInt32 (q_G w (36 + 2 * d + 1) (i0 + 3 * i))) (fun i => Int64.toInt32 (q_G w (36 + 2 * d + 1) (i0 + 3 * i + 1))) (fun i => Int64.toInt32 (q_G w (36 + 2 * d + 1) (i0 + 3 * i + 2))) (fun j hok => by
              obtain ⟨q0, q1, q2, q3⟩ := of_decide_eq_true hok
              have r0 := hr (i0 + 3 * j) (by omega)
              have r1 := hr (i0 + 3 * j + 1) (by omega)
              have r2 := hr (i0 + 3 * j + 2) (by omega)
              have v0 := x_l2i (x := q_G w (36 + 2 * d + 1) (i0 + 3 * j)) (by omega) (by omega)
              have v1 := x_l2i (x := q_G w (36 + 2 * d + 1) (i0 + 3 * j + 1)) (by omega) (by omega)
              have v2 := x_l2i (x := q_G w (36 + 2 * d + 1) (i0 + 3 * j + 2)) (by omega) (by omega)
              show (0 ≤ (Int64.toInt32 (q_G w (36 + 2 * d + 1) (i0 + 3 * j))).toInt ∧ _) ∧ (0 ≤ (Int64.toInt32 (q_G w (36 + 2 * d + 1) (i0 + 3 * j + 1))).toInt ∧ _) ∧ 1 ≤ (Int64.toInt32 (q_G w (36 + 2 * d + 1) (i0 + 3 * j + 2))).toInt ∧ _
              rw [v0, v1, v2]
              exact ⟨q1, q2, q3⟩) nn 0 st w hJ es
            rw [← hrc] at e1
            rw [← hrc, ← hrm] at hind hj
            refine ⟨_, _, _, e1, ?_, hj⟩
            generalize hw1 : q_sA (q_sI w 1 2 (nI rc.2.1)) 2 rc.2.2 = w1
            have a63 : q_A w1 63 = q_A w 63 := by rw [← hw1]; rfl
            rw [mst w1 a63, if_pos (Or.inr h51), m44 w1 a63, if_pos ⟨h51, hi⟩]
            have e2 := p_sitM (b := a) (E := q_G w (36 + 2 * d + 1)) hd6 (by omega) (show sz ≤ 60 by omega) hr hii (show nn ≤ 8 by omega) nn q_fuel 0 st w1 (by rw [← hw1, ← es]; exact p4) (by omega) (by rw [← hw1, ← ez]; exact g2) (fun j hj => by rw [← hw1]; exact (g3 j hj).1.symm) (by omega) (by rw [q_fuel_eq]; omega)
            rw [nI_0, ← en, show q_A w1 49 = q_A w 49 by rw [← hw1]; rfl, ← hrm, ← hind.1, ← hind.2] at e2
            rw [e2]
          · refine ⟨0, w, w, ?_, ?_, hJ⟩
            · show f_X10_sitters_B53 (f_X10_sitters_R53 4095) w i n (36 + 2 * d) 0 = _
              unfold f_X10_sitters_B53
              rw [if_neg (by rw [z_le, c0]; omega)]
              unfold f_X10_sitterFrom
              rw [if_pos]
              · rfl
              · have hz : ((3 : Int64) * Int32.toInt64 0).toInt = 0 := by decide
                have hlo := t_lo i
                rw [lg_cmp_lt, Int64.lt_iff_toInt_lt, x_add _ _ (by rw [hz, Int32.toInt_toInt64]; omega) (by rw [hz, Int32.toInt_toInt64]; omega), hz, Int32.toInt_toInt64, d0]
                omega
            · rw [mst w rfl, if_pos (Or.inr h51), m44 w rfl, if_neg (fun q => hi q.2)]
        · refine ⟨-12, w, w, ?_, ?_, hJ⟩
          · rw [if_neg h1]
            rfl
          · rw [mst w rfl, if_neg]
            have t := t50 ⟨k2, k3⟩
            rw [k4]
            rintro (q | q)
            · omega
            · rw [z_eq, t, show (51 : Int32).toInt = 51 by decide] at q
              apply h1
              rw [z_eq, c1]
              omega
    · have hnb : (decide ((1 : Int64).toInt ≤ n.toInt) && decide (n.toInt ≤ (8 : Int64).toInt)) = false := by rw [d1, d8]; simp; omega
      refine ⟨-1, w, w, ?_, ?_, hJ⟩
      · unfold f_X10_sitters
        rw [p_isShelf, z_cl, decide_eq_true ha.1, decide_eq_true ha.2, Bool.and_self, b2i_t, if_neg n1_0]
        by_cases q : n.toInt < 1
        · rw [if_pos (by rw [z_lt, c1]; exact q)]
        · rw [if_neg (by rw [z_lt, c1]; exact q), if_neg (by rw [z_le, c8]; omega)]
      · unfold f_X11_sitters
        rw [p_mshelf, z_cl, decide_eq_true ha.1, decide_eq_true ha.2, Bool.and_self, b2i_t, if_neg n1_0, p_within32, z_cl, hnb]
        rfl
  · have hb : (decide (0 ≤ a.toInt) && decide (a.toInt < 6)) = false := by simp; omega
    refine ⟨-1, w, w, ?_, ?_, hJ⟩
    · unfold f_X10_sitters
      rw [p_isShelf, hb]
      rfl
    · unfold f_X11_sitters
      rw [p_mshelf, hb]
      rfl
