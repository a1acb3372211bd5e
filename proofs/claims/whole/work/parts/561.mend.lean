theorem W_ext {w w2 : qW} (h1 : q_I w2 = q_I w) (h2 : q_R w2 = q_R w) (h3 : q_A w2 = q_A w) (h4 : q_G w2 = q_G w) : w2 = w := by
  obtain ⟨a, b, c, d⟩ := w
  obtain ⟨a2, b2, c2, d2⟩ := w2
  have h1 : a2 = a := h1
  have h2 : b2 = b := h2
  have h3 : c2 = c := h3
  have h4 : d2 = d := h4
  rw [h1, h2, h3, h4]
def jEnt (men sit : Int32) (K a1 a2 a3 : Nat → Int32) (i : Nat) : Prop := ∃ n wh : Nat, n < 8 ∧ wh < 8 ∧ K (4 * i) = Int32.ofNat n ∧ K (4 * i + 1) = Int32.ofNat wh ∧ jvI men sit (8 * wh + n) ∧ a1 i = Int32.ofNat (8 * wh + n) ∧ a2 i = K (4 * i + 2) ∧ a3 i = K (4 * i + 3) ∧ (jlo wh ≤ (K (4 * i + 2)).toInt ∧ (K (4 * i + 2)).toInt ≤ jhi wh) ∧ (jlo wh ≤ (K (4 * i + 3)).toInt ∧ (K (4 * i + 3)).toInt ≤ jhi wh)
def K4 (K : Nat → Int32) (d n wh : Nat) (u v : Int32) : Nat → Int32 := upd (upd (upd (upd K (4 * d) (nI n)) (4 * d + 1) (nI wh)) (4 * d + 2) u) (4 * d + 3) v
theorem K4_old {K : Nat → Int32} {d n wh : Nat} {u v : Int32} {j : Nat} (h : j < 4 * d) : K4 K d n wh u v j = K j := by
  unfold K4 upd
  rw [if_neg (by omega), if_neg (by omega), if_neg (by omega), if_neg (by omega)]
theorem jC_add {men sit u v : Int32} {d n wh : Nat} {K b1 b2 b3 : Nat → Int32} (hd : d < 40) (hb : ∀ i, i < d → jEnt men sit K b1 b2 b3 i) (hn : n < 8) (hw : wh < 8) (hj : jvI men sit (8 * wh + n)) (hu : jlo wh ≤ u.toInt ∧ u.toInt ≤ jhi wh) (hv : jlo wh ≤ v.toInt ∧ v.toInt ≤ jhi wh) : jC0 men sit (nI (d + 1)) (nI (d + 1)) (nI (d + 1)) (nI (d + 1)) (K4 K d n wh u v) (upd b1 d (nI (8 * wh + n))) (upd b2 d u) (upd b3 d v) := by
  have e : (nI (d + 1)).toInt = ((d + 1 : Nat) : Int) := nI_toInt (by omega)
  refine ⟨by omega, rfl, rfl, fun i hi => ?_⟩
  by_cases h : i < d
  · obtain ⟨n2, w2, g1, g2, g3, g4, g5, g6, g7, g8, g9⟩ := hb i h
    refine ⟨n2, w2, g1, g2, ?_, ?_, g5, ?_, ?_, ?_, ?_⟩
    · rw [K4_old (by omega)]; exact g3
    · rw [K4_old (by omega)]; exact g4
    · unfold upd; rw [if_neg (by omega)]; exact g6
    · rw [K4_old (by omega)]; unfold upd; rw [if_neg (by omega)]; exact g7
    · rw [K4_old (by omega)]; unfold upd; rw [if_neg (by omega)]; exact g8
    · rw [K4_old (by omega), K4_old (by omega)]; exact g9
  · have hid : i = d := by omega
    subst hid
    have k0 : K4 K i n wh u v (4 * i) = nI n := by unfold K4 upd; rw [if_neg (by omega), if_neg (by omega), if_neg (by omega), if_pos rfl]
    have k1 : K4 K i n wh u v (4 * i + 1) = nI wh := by unfold K4 upd; rw [if_neg (by omega), if_neg (by omega), if_pos rfl]
    have k2 : K4 K i n wh u v (4 * i + 2) = u := by unfold K4 upd; rw [if_neg (by omega), if_pos rfl]
    have k3 : K4 K i n wh u v (4 * i + 3) = v := by unfold K4 upd; rw [if_pos rfl]
    refine ⟨n, wh, hn, hw, k0, k1, hj, ?_, ?_, ?_, ?_, ?_⟩
    · unfold upd; rw [if_pos rfl]; rfl
    · rw [k2]; unfold upd; rw [if_pos rfl]
    · rw [k3]; unfold upd; rw [if_pos rfl]
    · rw [k2]; exact hu
    · rw [k3]; exact hv
theorem Jn_chg {w w2 : qW} {i : Nat} {v : Int32} (hJ : Jn w) (hI : ∀ o k : Nat, ¬ o = 24 → (¬ o = 48 ∨ (¬ k = 4 ∧ ¬ k = 5)) → q_I w2 o k = q_I w o k) (hR : q_R w2 = q_R w) (hG : q_G w2 = q_G w) (hA : ∀ o : Nat, ¬ o = 2 → ¬ o = 25 → ¬ o = 49 → ¬ o = 50 → ¬ o = 51 → ¬ o = 52 → q_A w2 o = q_A w o) (h2 : q_A w2 2 = upd (q_A w 2) i v) (h49 : q_A w2 49 = upd (q_A w 49) i v) (hv : jlo (i / 8) ≤ v.toInt ∧ v.toInt ≤ jhi (i / 8)) (hC : jC w2) : Jn w2 := by
  have hJ2 := Jn_num (i := i) (v := v) hJ hv
  obtain ⟨hP, -, hD, hT, hS, hL, hR2⟩ := hJ2
  have hD : jD w := hD
  have hT : jT w := hT
  have hS : jS w := hS
  have hL : jL w := hL
  have hR2 : jR w := hR2
  have I : ∀ o k : Nat, ¬ o = 24 → ¬ o = 48 → q_I w2 o k = q_I w o k := fun o k h1 h2 => hI o k h1 (Or.inl h2)
  have I4 : ∀ k : Nat, ¬ k = 4 → ¬ k = 5 → q_I w2 48 k = q_I w 48 k := fun k h1 h2 => hI 48 k (by decide) (Or.inr ⟨h1, h2⟩)
  have A : ∀ o : Nat, (¬ o = 2 ∧ ¬ o = 25 ∧ ¬ o = 49 ∧ ¬ o = 50 ∧ ¬ o = 51 ∧ ¬ o = 52) → q_A w2 o = q_A w o := fun o ⟨h1, h2, h3, h4, h5, h6⟩ => hA o h1 h2 h3 h4 h5 h6
  refine ⟨?_, hC, ?_, ?_, ?_, ?_, ?_⟩
  · unfold jP
    rw [h2, h49, I 1 1 (by decide) (by decide), I 1 2 (by decide) (by decide), I4 6 (by decide) (by decide), I4 7 (by decide) (by decide)]
    exact hP
  · unfold jD
    rw [I 1 1 (by decide) (by decide), I 1 2 (by decide) (by decide), I 26 2 (by decide) (by decide), I 26 3 (by decide) (by decide), I 26 4 (by decide) (by decide), I4 20 (by decide) (by decide), I4 21 (by decide) (by decide), I4 22 (by decide) (by decide), I4 18 (by decide) (by decide), I4 23 (by decide) (by decide), A 27 (by decide), A 28 (by decide), A 29 (by decide), A 30 (by decide), A 31 (by decide), A 56 (by decide), A 57 (by decide), A 58 (by decide), A 59 (by decide), A 60 (by decide)]
    exact hD
  · unfold jT
    rw [I 32 1 (by decide) (by decide), I 32 3 (by decide) (by decide), I4 28 (by decide) (by decide), I4 31 (by decide) (by decide), A 33 (by decide), A 34 (by decide), A 61 (by decide), A 62 (by decide)]
    exact hT
  · refine jS_of fun d hd => jSd_same (I _ _ (by decide) (by decide)) (I _ _ (by omega) (by omega)) (I _ _ (by omega) (by omega)) (I _ _ (by omega) (by omega)) (by rw [A 63 (by decide)]) (by rw [A 64 (by decide)]) (by rw [hG]) (fun _ _ => by rw [hG]) (jS_at hS d hd)
  · unfold jL
    rw [I 3 1 (by decide) (by decide), I 3 4 (by decide) (by decide), I 3 7 (by decide) (by decide), I4 9 (by decide) (by decide), I4 11 (by decide) (by decide), hR, A 4 (by decide), A 5 (by decide), A 6 (by decide), A 53 (by decide), A 54 (by decide)]
    exact hL
  · unfold jR
    rw [hR]
    exact hR2
theorem p_addB {w : qW} {d n wh : Nat} {v : Int32} (hd : q_I w 24 2 = nI d) (hd4 : d < 40) (hm : (q_I w 1 1).toInt ≤ 7) (hs : (q_I w 1 2).toInt ≤ 8) (hn : n < 8) (hw : wh < 8) (hj : jvI (q_I w 1 1) (q_I w 1 2) (8 * wh + n)) : f_X1_add_B31 w (nI n) (nI wh) v = some ((), q_sA (q_sI (q_sI (q_sA w 25 (K4 (q_A w 25) d n wh (q_A w 2 (8 * wh + n)) v)) 24 2 (nI (d + 1))) 24 3 (nI (d + 1))) 2 (upd (q_A w 2) (8 * wh + n) v)) := by
  obtain ⟨k1, k2⟩ := has_of hn hw hj
  have e0 : nI d * 4 = nI (4 * d) := by rw [Nat.mul_comm]; exact (Int32.ofNat_mul d 4).symm
  have t0 : (nI (4 * d)).toInt = ((4 * d : Nat) : Int) := nI_toInt (by omega)
  have t1 : (nI (4 * d + 1)).toInt = ((4 * d + 1 : Nat) : Int) := nI_toInt (by omega)
  have t2 : (nI (4 * d + 2)).toInt = ((4 * d + 2 : Nat) : Int) := nI_toInt (by omega)
  have t3 : (nI (4 * d + 3)).toInt = ((4 * d + 3 : Nat) : Int) := nI_toInt (by omega)
  have a1 : nI (4 * d) + 1 = nI (4 * d + 1) := nI_add _ 1
  have a2 : nI (4 * d) + 2 = nI (4 * d + 2) := nI_add _ 2
  have a3 : nI (4 * d) + 3 = nI (4 * d + 3) := nI_add _ 3
  have a25 : ∀ (f : Nat → Int32), q_A (q_sA w 25 f) 25 = f := fun f => rfl
  unfold f_X1_add_B31
  rw [hd, z_bn, e0, a1, a2, a3, z_st _ _ _ _ _ _ (by rw [t0]; omega), z_st _ _ _ _ _ _ (by rw [t1]; omega), sA_two, a25]
  have hg := p_get_t (w := q_sA w 25 (upd (upd (q_A w 25) (nI (4 * d)).toInt.toNat (nI n)) (nI (4 * d + 1)).toInt.toNat (nI wh))) hm hs k1
  rw [hg, z_cl, z_st _ _ _ _ _ _ (by rw [t2]; omega), sA_two, a25, z_st _ _ _ _ _ _ (by rw [t3]; omega), sA_two, a25, z_bn, z_bn, t0, t1, t2, t3, k2]
  show q_cl (f_X4_set (q_sI (q_sI (q_sA w 25 (K4 (q_A w 25) d n wh (q_A w 2 (8 * wh + n)) v)) 24 2 (q_I w 24 2 + 1)) 24 3 (q_I w 24 2 + 1)) (nI n) (nI wh) v) _ = _
  rw [hd, nI_1]
  have hst := p_set_t (w := q_sI (q_sI (q_sA w 25 (K4 (q_A w 25) d n wh (q_A w 2 (8 * wh + n)) v)) 24 2 (nI (d + 1))) 24 3 (nI (d + 1))) (v := v) hm hs k1
  rw [hst, z_cl, k2]
  rfl
theorem p_becB {w : qW} {d i : Nat} {u v : Int32} (hd : q_I w 48 5 = nI d) (hd4 : d < 40) (hi : i < 57) : f_X11_becomes_B97 w (nI i) v u = some (u, q_sA (q_sI (q_sI (q_sA (q_sA (q_sA w 50 (upd (q_A w 50) d (nI i))) 51 (upd (q_A w 51) d u)) 52 (upd (q_A w 52) d v)) 48 5 (nI (d + 1))) 48 4 (nI (d + 1))) 49 (upd (q_A w 49) i v)) := by
  have t0 : (nI d).toInt = (d : Int) := nI_toInt (by omega)
  have t1 : (nI i).toInt = (i : Int) := nI_toInt (by omega)
  have h5 : ∀ (o : Nat) (f : Nat → Int32) (x : qW), q_I (q_sA x o f) 48 5 = q_I x 48 5 := fun _ _ _ => rfl
  unfold f_X11_becomes_B97
  rw [hd, z_st _ _ _ _ _ _ (by rw [t0]; omega), h5, hd, z_st _ _ _ _ _ _ (by rw [t0]; omega), h5, h5, hd, z_st _ _ _ _ _ _ (by rw [t0]; omega), z_bn, z_bn, h5, h5, h5, hd, nI_1, z_st _ _ _ _ _ _ (by rw [t1]; omega), t0, t1]
  rfl
/-- the shift of the model's rows -/
def shf (k : Nat) (f : Nat → Int32) (j : Nat) : Int32 := if k ≤ j ∧ j < 39 then f (j + 1) else f j
theorem shf_stop {k : Nat} (h : 39 ≤ k) (f : Nat → Int32) : shf k f = f := by
  funext j
  unfold shf
  rw [if_neg (by omega)]
theorem shf_step {k : Nat} (h : k < 39) (f : Nat → Int32) : shf (k + 1) (upd f k (f (k + 1))) = shf k f := by
  funext j
  unfold shf upd
  by_cases h1 : j = k
  · subst h1; rw [if_neg (by omega), if_pos rfl, if_pos (by omega)]
  · by_cases h2 : k + 1 ≤ j ∧ j < 39
    · rw [if_pos h2, if_neg (by omega), if_pos (by omega)]
    · rw [if_neg h2, if_neg h1, if_neg (by omega)]
theorem sA_three (w : qW) (a b c : Nat) (f1 g1 h1 f g h : Nat → Int32) : q_sA (q_sA (q_sA (q_sA (q_sA (q_sA w a f1) b g1) c h1) a f) b g) c h = q_sA (q_sA (q_sA w a f) b g) c h := by
  refine W_ext rfl rfl (funext fun o => ?_) rfl
  by_cases h1 : o = c
  · simp only [g_AA, if_pos h1]
  · by_cases h2 : o = b
    · simp only [g_AA, if_neg h1, if_pos h2]
    · by_cases h3 : o = a
      · simp only [g_AA, if_neg h1, if_neg h2, if_pos h3]
      · simp only [g_AA, if_neg h1, if_neg h2, if_neg h3]
theorem p_becR (l1 l2 l3 : Int32) : ∀ (m fuel k : Nat) (w : qW), k + m = 39 → m < fuel → f_X11_becomes_R26 fuel w l1 l2 l3 (nI (k + 1)) = f_X11_becomes_B97 (q_sI (q_sA (q_sA (q_sA w 50 (shf k (q_A w 50))) 51 (shf k (q_A w 51))) 52 (shf k (q_A w 52))) 48 5 (q_I w 48 5 - 1)) l1 l2 l3
  | 0, fuel + 1, k, w, h1, h2 => by
    show f_X11_becomes_B26 _ w l1 l2 l3 _ = _
    unfold f_X11_becomes_B26
    rw [if_pos (by rw [show k + 1 = 40 by omega]; decide), z_bn, shf_stop (by omega), shf_stop (by omega), shf_stop (by omega), sA_self]
    have e1 : q_sA w 51 (q_A w 51) = w := sA_self w 51
    rw [e1]
    have e2 : q_sA w 52 (q_A w 52) = w := sA_self w 52
    rw [e2]
  | m + 1, fuel + 1, k, w, h1, h2 => by
    show f_X11_becomes_B26 (f_X11_becomes_R26 fuel) w l1 l2 l3 _ = _
    unfold f_X11_becomes_B26
    have t0 : (nI (k + 1)).toInt = ((k + 1 : Nat) : Int) := nI_toInt (by omega)
    have t1 : (nI k).toInt = (k : Int) := nI_toInt (by omega)
    have s1 : nI (k + 1) - 1 = nI k := nI_pred k
    have ea : ∀ (a b : Nat) (f : Nat → Int32) (x : qW), ¬ a = b → q_A (q_sA x b f) a = q_A x a := fun a b f x h => by rw [g_AA, if_neg h]
    rw [if_neg (by rw [z_le, t0, show (40 : Int32).toInt = 40 by decide]; omega), s1, z_ld _ _ _ _ (by rw [t0]; omega), z_st _ _ _ _ _ _ (by rw [t1]; omega), z_ld _ _ _ _ (by rw [t0]; omega), z_st _ _ _ _ _ _ (by rw [t1]; omega), z_ld _ _ _ _ (by rw [t0]; omega), z_st _ _ _ _ _ _ (by rw [t1]; omega), z_bn, nI_1, t0, t1]
    rw [show ((k : Int)).toNat = k from rfl, show (((k + 1 : Nat) : Int)).toNat = k + 1 from rfl]
    rw [p_becR l1 l2 l3 m fuel (k + 1) _ (by omega) (by omega)]
    rw [ea 51 50 _ _ (by omega), ea 52 51 _ _ (by omega), ea 52 50 _ _ (by omega)]
    have x1 : q_A (q_sA (q_sA (q_sA w 50 (upd (q_A w 50) k (q_A w 50 (k + 1)))) 51 (upd (q_A w 51) k (q_A w 51 (k + 1)))) 52 (upd (q_A w 52) k (q_A w 52 (k + 1)))) 50 = upd (q_A w 50) k (q_A w 50 (k + 1)) := rfl
    have x2 : q_A (q_sA (q_sA (q_sA w 50 (upd (q_A w 50) k (q_A w 50 (k + 1)))) 51 (upd (q_A w 51) k (q_A w 51 (k + 1)))) 52 (upd (q_A w 52) k (q_A w 52 (k + 1)))) 51 = upd (q_A w 51) k (q_A w 51 (k + 1)) := rfl
    have x3 : q_A (q_sA (q_sA (q_sA w 50 (upd (q_A w 50) k (q_A w 50 (k + 1)))) 51 (upd (q_A w 51) k (q_A w 51 (k + 1)))) 52 (upd (q_A w 52) k (q_A w 52 (k + 1)))) 52 = upd (q_A w 52) k (q_A w 52 (k + 1)) := rfl
    have x4 : q_I (q_sA (q_sA (q_sA w 50 (upd (q_A w 50) k (q_A w 50 (k + 1)))) 51 (upd (q_A w 51) k (q_A w 51 (k + 1)))) 52 (upd (q_A w 52) k (q_A w 52 (k + 1)))) 48 5 = q_I w 48 5 := rfl
    rw [x1, x2, x3, x4, sA_three, shf_step (by omega), shf_step (by omega), shf_step (by omega)]
  | _, 0, _, _, _, h2 => by omega
