def undr (k t : Nat) : Bool := ([true, false, false, false, false, false, false, false, true, true, false, false, false, false, false, false, true, false, true, false, false, false, false, false, true, false, true, true, false, false, false, false, true, true, false, false, true, false, false, false, true, false, true, true, false, true, false, false, true, false, false, false, false, false, true, false, true, true, false, false, true, false, false, true] : List Bool).getD (8 * k + t) false
theorem p_under (w : qW) : ∀ k : Nat, k < 8 → ∀ t : Nat, t < 8 → f_X8_isUnder w (nI k) (nI t) = some (b2i (undr k t), w)
  | 0, _, 0, _ => rfl
  | 0, _, 1, _ => rfl
  | 0, _, 2, _ => rfl
  | 0, _, 3, _ => rfl
  | 0, _, 4, _ => rfl
  | 0, _, 5, _ => rfl
  | 0, _, 6, _ => rfl
  | 0, _, 7, _ => rfl
  | 0, _, t + 8, h => by omega
  | 1, _, 0, _ => rfl
  | 1, _, 1, _ => rfl
  | 1, _, 2, _ => rfl
  | 1, _, 3, _ => rfl
  | 1, _, 4, _ => rfl
  | 1, _, 5, _ => rfl
  | 1, _, 6, _ => rfl
  | 1, _, 7, _ => rfl
  | 1, _, t + 8, h => by omega
  | 2, _, 0, _ => rfl
  | 2, _, 1, _ => rfl
  | 2, _, 2, _ => rfl
  | 2, _, 3, _ => rfl
  | 2, _, 4, _ => rfl
  | 2, _, 5, _ => rfl
  | 2, _, 6, _ => rfl
  | 2, _, 7, _ => rfl
  | 2, _, t + 8, h => by omega
  | 3, _, 0, _ => rfl
  | 3, _, 1, _ => rfl
  | 3, _, 2, _ => rfl
  | 3, _, 3, _ => rfl
  | 3, _, 4, _ => rfl
  | 3, _, 5, _ => rfl
  | 3, _, 6, _ => rfl
  | 3, _, 7, _ => rfl
  | 3, _, t + 8, h => by omega
  | 4, _, 0, _ => rfl
  | 4, _, 1, _ => rfl
  | 4, _, 2, _ => rfl
  | 4, _, 3, _ => rfl
  | 4, _, 4, _ => rfl
  | 4, _, 5, _ => rfl
  | 4, _, 6, _ => rfl
  | 4, _, 7, _ => rfl
  | 4, _, t + 8, h => by omega
  | 5, _, 0, _ => rfl
  | 5, _, 1, _ => rfl
  | 5, _, 2, _ => rfl
  | 5, _, 3, _ => rfl
  | 5, _, 4, _ => rfl
  | 5, _, 5, _ => rfl
  | 5, _, 6, _ => rfl
  | 5, _, 7, _ => rfl
  | 5, _, t + 8, h => by omega
  | 6, _, 0, _ => rfl
  | 6, _, 1, _ => rfl
  | 6, _, 2, _ => rfl
  | 6, _, 3, _ => rfl
  | 6, _, 4, _ => rfl
  | 6, _, 5, _ => rfl
  | 6, _, 6, _ => rfl
  | 6, _, 7, _ => rfl
  | 6, _, t + 8, h => by omega
  | 7, _, 0, _ => rfl
  | 7, _, 1, _ => rfl
  | 7, _, 2, _ => rfl
  | 7, _, 3, _ => rfl
  | 7, _, 4, _ => rfl
  | 7, _, 5, _ => rfl
  | 7, _, 6, _ => rfl
  | 7, _, 7, _ => rfl
  | 7, _, t + 8, h => by omega
  | k + 8, h, _, _ => by omega
def lastk (k t : Nat) : Nat := ([0, 0, 0, 0, 0, 0, 0, 0, 0, 1, 0, 0, 0, 0, 0, 0, 0, 0, 2, 0, 0, 0, 0, 0, 0, 0, 2, 3, 0, 0, 0, 0, 0, 1, 0, 0, 4, 0, 0, 0, 0, 0, 2, 3, 0, 5, 0, 0, 0, 0, 0, 0, 0, 0, 6, 0, 0, 1, 0, 0, 4, 0, 0, 7] : List Nat).getD (8 * k + t) 0
theorem p_takenR (w : qW) (a : Int32) : ∀ k : Nat, k < 8 → ∀ t : Nat, t < 8 → f_X11_taken_R58 q_fuel w a (nI t) (nI k) = f_X11_taken_B75 w a (nI t) (nI (lastk k t))
  | 0, _, 0, _ => rfl
  | 0, _, 1, _ => rfl
  | 0, _, 2, _ => rfl
  | 0, _, 3, _ => rfl
  | 0, _, 4, _ => rfl
  | 0, _, 5, _ => rfl
  | 0, _, 6, _ => rfl
  | 0, _, 7, _ => rfl
  | 0, _, t + 8, h => by omega
  | 1, _, 0, _ => rfl
  | 1, _, 1, _ => rfl
  | 1, _, 2, _ => rfl
  | 1, _, 3, _ => rfl
  | 1, _, 4, _ => rfl
  | 1, _, 5, _ => rfl
  | 1, _, 6, _ => rfl
  | 1, _, 7, _ => rfl
  | 1, _, t + 8, h => by omega
  | 2, _, 0, _ => rfl
  | 2, _, 1, _ => rfl
  | 2, _, 2, _ => rfl
  | 2, _, 3, _ => rfl
  | 2, _, 4, _ => rfl
  | 2, _, 5, _ => rfl
  | 2, _, 6, _ => rfl
  | 2, _, 7, _ => rfl
  | 2, _, t + 8, h => by omega
  | 3, _, 0, _ => rfl
  | 3, _, 1, _ => rfl
  | 3, _, 2, _ => rfl
  | 3, _, 3, _ => rfl
  | 3, _, 4, _ => rfl
  | 3, _, 5, _ => rfl
  | 3, _, 6, _ => rfl
  | 3, _, 7, _ => rfl
  | 3, _, t + 8, h => by omega
  | 4, _, 0, _ => rfl
  | 4, _, 1, _ => rfl
  | 4, _, 2, _ => rfl
  | 4, _, 3, _ => rfl
  | 4, _, 4, _ => rfl
  | 4, _, 5, _ => rfl
  | 4, _, 6, _ => rfl
  | 4, _, 7, _ => rfl
  | 4, _, t + 8, h => by omega
  | 5, _, 0, _ => rfl
  | 5, _, 1, _ => rfl
  | 5, _, 2, _ => rfl
  | 5, _, 3, _ => rfl
  | 5, _, 4, _ => rfl
  | 5, _, 5, _ => rfl
  | 5, _, 6, _ => rfl
  | 5, _, 7, _ => rfl
  | 5, _, t + 8, h => by omega
  | 6, _, 0, _ => rfl
  | 6, _, 1, _ => rfl
  | 6, _, 2, _ => rfl
  | 6, _, 3, _ => rfl
  | 6, _, 4, _ => rfl
  | 6, _, 5, _ => rfl
  | 6, _, 6, _ => rfl
  | 6, _, 7, _ => rfl
  | 6, _, t + 8, h => by omega
  | 7, _, 0, _ => rfl
  | 7, _, 1, _ => rfl
  | 7, _, 2, _ => rfl
  | 7, _, 3, _ => rfl
  | 7, _, 4, _ => rfl
  | 7, _, 5, _ => rfl
  | 7, _, 6, _ => rfl
  | 7, _, 7, _ => rfl
  | 7, _, t + 8, h => by omega
  | k + 8, h, _, _ => by omega
theorem last_und : ∀ k : Nat, k < 8 → ∀ t : Nat, t < 8 → (lastk k t = t ↔ undr k t = true) := by decide
theorem last_8 : ∀ k : Nat, k < 8 → ∀ t : Nat, t < 8 → lastk k t < 8 := by decide
theorem p_isBody (w : qW) (a : Int32) (h : 0 ≤ (q_I w 48 28).toInt ∧ (q_I w 48 28).toInt ≤ 50) : f_X11_isBody w a = some (b2i (decide (0 ≤ a.toInt) && decide (a.toInt < (q_I w 48 28).toInt)), w) := by
  unfold f_X11_isBody
  rw [p_within32, z_cl, b2i_and, d0, Int32.toInt_toInt64, t_sub _ _ (by rw [c1]; omega) (by rw [c1]; omega), c1]
  have e : (decide (a.toInt ≤ (q_I w 48 28).toInt - 1)) = decide (a.toInt < (q_I w 48 28).toInt) := by
    by_cases h : a.toInt < (q_I w 48 28).toInt
    · rw [decide_eq_true h, decide_eq_true (show a.toInt ≤ (q_I w 48 28).toInt - 1 by omega)]
    · rw [decide_eq_false h, decide_eq_false (show ¬ a.toInt ≤ (q_I w 48 28).toInt - 1 by omega)]
  rw [e]
theorem p_keep : j_keep := by
  intro a b w hJ
  show ∃ r w1 w2, f_X10_keep w a b = some (r, w1) ∧ f_X11_keep w1 a b = some (r, w2) ∧ Jn w2
  have hS : jS w := hJ.2.2.2.2.1
  obtain ⟨t1, t2, -⟩ := hJ.2.2.2.1
  by_cases ha : 0 ≤ a.toInt ∧ a.toInt < 6
  · by_cases hb : -1 ≤ b.toInt ∧ b.toInt < (q_I w 32 1).toInt
    · generalize hde : a.toInt.toNat = d
      have hd6 : d < 6 := by omega
      have e1 : f_X10_keep w a b = some (1, q_sI (q_sI (q_sI w (36 + 2 * d) 0 b) (36 + 2 * d) 1 (-1)) (36 + 2 * d) 2 0) := by
        unfold f_X10_keep f_X6_holdTree
        rw [p_isShelf, z_cl, decide_eq_true ha.1, decide_eq_true ha.2, Bool.and_self, b2i_t, if_neg n1_0, if_neg (by rw [z_lt, cm1]; omega), if_pos (by rw [z_lt]; exact hb.2), s_al _ _ ha, hde]
        rfl
      generalize hw1 : q_sI (q_sI (q_sI w (36 + 2 * d) 0 b) (36 + 2 * d) 1 (-1)) (36 + 2 * d) 2 0 = w1 at e1
      have i0 : q_I w1 (36 + 2 * d) 0 = b := by rw [← hw1, g_II, if_neg (by omega), g_II, if_neg (by omega), g_II, if_pos ⟨rfl, rfl⟩]
      have i1 : q_I w1 (36 + 2 * d) 1 = -1 := by rw [← hw1, g_II, if_neg (by omega), g_II, if_pos ⟨rfl, rfl⟩]
      have i2 : q_I w1 (36 + 2 * d) 2 = 0 := by rw [← hw1, g_II, if_pos ⟨rfl, rfl⟩]
      have io : ∀ o k : Nat, ¬ o = 36 + 2 * d → q_I w1 o k = q_I w o k := fun o k ho => by rw [← hw1, g_II, if_neg (fun q => ho q.1), g_II, if_neg (fun q => ho q.1), g_II, if_neg (fun q => ho q.1)]
      have hA : q_A w1 = q_A w := by rw [← hw1]; rfl
      have hG : q_G w1 = q_G w := by rw [← hw1]; rfl
      have e2 : f_X11_keep_B22 w1 a b = some (1, q_sA (q_sA w1 63 (upd (q_A w1 63) d b)) 64 (upd (q_A w1 64) d 0)) := by
        unfold f_X11_keep_B22
        rw [z_st _ _ _ _ _ _ ha, z_st _ _ _ _ _ _ ha, hde]
        rfl
      refine ⟨1, w1, q_sA (q_sA w1 63 (upd (q_A w1 63) d b)) 64 (upd (q_A w1 64) d 0), e1, ?_, ?_⟩
      · unfold f_X11_keep
        rw [p_mshelf, z_cl, decide_eq_true ha.1, decide_eq_true ha.2, Bool.and_self, b2i_t, if_neg n1_0]
        by_cases hm : b = -1
        · rw [if_pos hm, e2]
        · rw [if_neg hm]
          have hb48 : q_I w1 48 28 = q_I w 32 1 := by rw [io 48 28 (by omega), t2]
          have hb0 : 0 ≤ b.toInt := by
            rw [z_eq, cm1] at hm
            omega
          rw [p_isBody _ _ (by rw [hb48]; exact t1), z_cl, hb48, decide_eq_true hb0, decide_eq_true hb.2, Bool.and_self, b2i_t, if_neg n1_0, e2]
      · refine Jn_Os hJ (by rw [← hw1]; exact ((((jOs.sI _ _ _ _ (by omega)).tr (jOs.sI _ _ _ _ (by omega))).tr (jOs.sI _ _ _ _ (by omega))).tr (jOs.sA _ _ _ (Or.inl rfl))).tr (jOs.sA _ _ _ (Or.inr rfl))) (jS_of fun d2 hd2 => ?_)
        have hd2o := jS_at hS d2 hd2
        by_cases he : d2 = d
        · subst he
          have u63 : q_A (q_sA (q_sA w1 63 (upd (q_A w1 63) d2 b)) 64 (upd (q_A w1 64) d2 0)) 63 d2 = b := by
            show upd (q_A w1 63) d2 b d2 = b
            unfold upd; rw [if_pos rfl]
          have u64 : q_A (q_sA (q_sA w1 63 (upd (q_A w1 63) d2 b)) 64 (upd (q_A w1 64) d2 0)) 64 d2 = 0 := by
            show upd (q_A w1 64) d2 0 d2 = 0
            unfold upd; rw [if_pos rfl]
          refine ⟨?_, ?_, fun j hj => ?_⟩
          · rw [u63, g_IA, g_IA, i0, i1, i2, io 32 1 (by omega)]
            by_cases hm : b = -1
            · exact Or.inl ⟨hm, rfl, hm, rfl⟩
            · refine Or.inr (Or.inl ⟨?_, hb.2, rfl, rfl, rfl⟩)
              rw [z_eq, cm1] at hm
              omega
          · rw [u64, g_IA, g_IA, i2]
          · rw [g_IA, g_IA, i1, g_GA, g_GA, hG]
            refine ⟨(hd2o.2.2 j hj).1, fun h => absurd h (by decide), fun h => absurd h (by decide)⟩
        · refine jSd_same (io 32 1 (by omega)) (io _ _ (by omega)) (io _ _ (by omega)) (io _ _ (by omega)) ?_ ?_ ?_ ?_ hd2o
          · show upd (q_A w1 63) d b d2 = q_A w 63 d2
            unfold upd; rw [if_neg he, hA]
          · show upd (q_A w1 64) d 0 d2 = q_A w 64 d2
            unfold upd; rw [if_neg he, hA]
          · show q_G w1 _ = _
            rw [hG]
          · intro j hj
            show q_G w1 65 _ = _
            rw [hG]
    · refine ⟨-1, w, w, ?_, ?_, hJ⟩
      · unfold f_X10_keep
        rw [p_isShelf, z_cl, decide_eq_true ha.1, decide_eq_true ha.2, Bool.and_self, b2i_t, if_neg n1_0]
        by_cases h1 : b.toInt < -1
        · rw [if_pos (by rw [z_lt, cm1]; exact h1)]
        · rw [if_neg (by rw [z_lt, cm1]; exact h1), if_neg (by rw [z_lt]; omega)]
      · unfold f_X11_keep
        have hbb : (decide (0 ≤ b.toInt) && decide (b.toInt < (q_I w 48 28).toInt)) = false := by rw [t2]; simp; omega
        rw [p_mshelf, z_cl, decide_eq_true ha.1, decide_eq_true ha.2, Bool.and_self, b2i_t, if_neg n1_0, if_neg (by rw [z_eq, cm1]; omega), p_isBody _ _ (by rw [t2]; exact t1), z_cl, hbb]
        rfl
  · have hb : (decide (0 ≤ a.toInt) && decide (a.toInt < 6)) = false := by simp; omega
    refine ⟨-1, w, w, ?_, ?_, hJ⟩
    · unfold f_X10_keep
      rw [p_isShelf, hb]
      rfl
    · unfold f_X11_keep
      rw [p_mshelf, hb]
      rfl
theorem p_taken : j_taken := by
  intro a b w hJ
  show ∃ r w1 w2, f_X10_taken w a b = some (r, w1) ∧ f_X11_taken w1 a b = some (r, w2) ∧ Jn w2
  have hS : jS w := hJ.2.2.2.2.1
  obtain ⟨t1, t2, -, t4, -, t6⟩ := hJ.2.2.2.1
  by_cases ha : 0 ≤ a.toInt ∧ a.toInt < 6
  · by_cases hb : 0 ≤ b.toInt ∧ b.toInt < 8
    · have hb2 : (decide ((0 : Int64).toInt ≤ b.toInt) && decide (b.toInt ≤ (7 : Int64).toInt)) = true := by rw [d0, d7]; simp; omega
      have hd := jS_at hS a.toInt.toNat (by omega)
      generalize hde : a.toInt.toNat = d at hd
      obtain ⟨g1, g2, -⟩ := hd
      have E1 : ∀ r, q_cl (f_X6_isEmpty w (36 + 2 * d)) (fun r7 w8 => if r7 = 0 then (q_cl (f_X6_tree w8 (36 + 2 * d)) (fun r9 w10 => q_cl (f_X8_kindOf w10 r9) (fun r11 w12 => q_cl (f_X8_isUnder w12 r11 b) (fun r13 w14 => if r13 = 0 then (some ((-12), w14)) else (some (r11, w14)))))) else (some ((-11), w8))) = some (r, w) → f_X10_taken w a b = some (r, w) := by
        intro r h
        unfold f_X10_taken
        rw [p_isShelf, z_cl, decide_eq_true ha.1, decide_eq_true ha.2, Bool.and_self, b2i_t, if_neg n1_0, p_choice, z_cl, c8, decide_eq_true hb.1, decide_eq_true hb.2, Bool.and_self, b2i_t, if_neg n1_0, s_al _ _ ha, hde]
        exact h
      have E2 : ∀ r, (if 0 ≤ q_A w 63 d then (q_ld (q_A w 63) 6 a (fun v6 => if v6 < 50 then (q_ld (q_A w 63) 6 a (fun v7 => q_cl (f_X11_kindOf w v7) (fun r8 w9 => f_X11_taken_R58  q_fuel w9 a b r8))) else (some ((-12), w)))) else (some ((-11), w))) = some (r, w) → f_X11_taken w a b = some (r, w) := by
        intro r h
        unfold f_X11_taken
        rw [p_mshelf, z_cl, decide_eq_true ha.1, decide_eq_true ha.2, Bool.and_self, b2i_t, if_neg n1_0, p_within32, z_cl, hb2, b2i_t, if_neg n1_0, z_ld _ _ _ _ ha, hde]
        exact h
      rcases g1 with ⟨k1, k2, k3, k4⟩ | ⟨k1, k2, k3, k4, k5⟩ | ⟨k1, k2, k3, k4, k5, k6⟩
      · refine ⟨-11, w, w, E1 _ ?_, E2 _ ?_, hJ⟩
        · rw [p_empty, z_cl, k1, k2]
          rfl
        · rw [k3]
          rfl
      · have hn : ¬ (q_I w (36 + 2 * d) 0 = -1) := by rw [z_eq, cm1]; omega
        have hk : 0 ≤ (q_A w 33 (q_I w (36 + 2 * d) 0).toInt.toNat).toInt ∧ (q_A w 33 (q_I w (36 + 2 * d) 0).toInt.toNat).toInt ≤ 7 := t6 _ (by omega)
        generalize hkv : q_A w 33 (q_I w (36 + 2 * d) 0).toInt.toNat = kv at hk
        obtain ⟨kn, hkn⟩ : ∃ kn : Nat, kn = kv.toInt.toNat := ⟨_, rfl⟩
        obtain ⟨bn, hbn⟩ : ∃ bn : Nat, bn = b.toInt.toNat := ⟨_, rfl⟩
        have hkN : kv = nI kn := by rw [hkn]; exact z_nI kv hk.1
        have hbN : b = nI bn := by rw [hbn]; exact z_nI b hb.1
        have hlk := last_und kn (by omega) bn (by omega)
        have hl8 := last_8 kn (by omega) bn (by omega)
        have F1 : f_X8_kindOf w (q_I w (36 + 2 * d) 0) = some (kv, w) := by
          unfold f_X8_kindOf
          rw [if_neg (by rw [z_lt, c0]; omega), if_neg (by rw [z_le]; omega), z_ld _ _ _ _ ⟨k1, by omega⟩, hkv]
        have F2 : f_X11_kindOf w (q_I w (36 + 2 * d) 0) = some (kv, w) := by
          unfold f_X11_kindOf
          rw [z_ld _ _ _ _ ⟨k1, by omega⟩, t4, hkv]
        refine ⟨if undr kn bn = true then kv else -12, w, w, E1 _ ?_, E2 _ ?_, hJ⟩
        · rw [p_empty, z_cl, decide_eq_false hn, Bool.false_and, b2i_f, if_pos rfl]
          show q_cl (f_X8_kindOf w (q_I w (36 + 2 * d) 0)) _ = _
          rw [F1, z_cl, hkN, hbN, p_under w kn (by omega) bn (by omega), z_cl]
          cases undr kn bn
          · rfl
          · rfl
        · rw [k4, if_pos (by rw [z_le, c0]; exact k1), z_ld _ _ _ _ ha, hde, k4, if_pos (by rw [z_lt, c50]; omega), z_ld _ _ _ _ ha, hde, k4, F2, z_cl, hkN, hbN, p_takenR w a kn (by omega) bn (by omega)]
          unfold f_X11_taken_B75
          by_cases hu : undr kn bn = true
          · rw [if_pos (by rw [hlk.mpr hu]), z_ld _ _ _ _ ha, hde, k4, F2, z_cl, if_pos hu, ← hkN]
          · rw [if_neg (by rw [nI_eq (by omega) (by omega)]; exact fun q => hu (hlk.mp q)), if_neg hu]
      · have hn : ¬ (q_I w (36 + 2 * d) 1 = -1) := by rw [z_eq, cm1]; omega
        refine ⟨-12, w, w, E1 _ ?_, E2 _ ?_, hJ⟩
        · rw [p_empty, z_cl, decide_eq_false hn, Bool.and_false, b2i_f, if_pos rfl]
          show q_cl (f_X8_kindOf w (q_I w (36 + 2 * d) 0)) _ = _
          rw [k1]
          rfl
        · rw [k4, if_pos (by rw [z_le, c0, t50 ⟨k2, k3⟩]; omega), z_ld _ _ _ _ ha, hde, k4, if_neg (by rw [z_lt, c50, t50 ⟨k2, k3⟩]; omega)]
    · have hb1 : (decide (0 ≤ b.toInt) && decide (b.toInt < (8 : Int32).toInt)) = false := by rw [c8]; simp; omega
      have hb2 : (decide ((0 : Int64).toInt ≤ b.toInt) && decide (b.toInt ≤ (7 : Int64).toInt)) = false := by rw [d0, d7]; simp; omega
      refine ⟨-1, w, w, ?_, ?_, hJ⟩
      · unfold f_X10_taken
        rw [p_isShelf, z_cl, decide_eq_true ha.1, decide_eq_true ha.2, Bool.and_self, b2i_t, if_neg n1_0, p_choice, z_cl, hb1]
        rfl
      · unfold f_X11_taken
        rw [p_mshelf, z_cl, decide_eq_true ha.1, decide_eq_true ha.2, Bool.and_self, b2i_t, if_neg n1_0, p_within32, z_cl, hb2]
        rfl
  · have hb : (decide (0 ≤ a.toInt) && decide (a.toInt < 6)) = false := by simp; omega
    refine ⟨-1, w, w, ?_, ?_, hJ⟩
    · unfold f_X10_taken
      rw [p_isShelf, hb]
      rfl
    · unfold f_X11_taken
      rw [p_mshelf, hb]
      rfl

