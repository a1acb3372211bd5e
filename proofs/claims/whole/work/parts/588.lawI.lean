/-! the class's machine -/
def wOk (o m : Nat) : Prop := (o = 0 ∧ m < 10000) ∨ (o = 1 ∧ m < 6) ∨ (o = 2 ∧ m = 0) ∨ (o = 3 ∧ m < 129) ∨ (4 ≤ o ∧ o < 16 ∧ m = 0)
theorem wd_d0 : ∀ a : Nat, a < 100 → ∀ b : Nat, b < 100 → lw_wd (0, 100 * a + b) &&& 31 = nI 0 ∧ lw_wd (0, 100 * a + b) >>> ((5 : Int32) &&& 31) = nI (100 * a + b) := by decide +kernel
theorem wd_d1 : ∀ m : Nat, m < 6 → lw_wd (1, m) &&& 31 = nI 1 ∧ lw_wd (1, m) >>> ((5 : Int32) &&& 31) = nI m := by decide +kernel
theorem wd_d3 : ∀ m : Nat, m < 129 → lw_wd (3, m) &&& 31 = nI 3 ∧ lw_wd (3, m) >>> ((5 : Int32) &&& 31) = nI m := by decide +kernel
theorem wd_d4 : ∀ o : Nat, o < 16 → lw_wd (o, 0) &&& 31 = nI o ∧ lw_wd (o, 0) >>> ((5 : Int32) &&& 31) = nI 0 := by decide +kernel
theorem wd_dec {o m : Nat} (h : wOk o m) : lw_wd (o, m) &&& 31 = nI o ∧ lw_wd (o, m) >>> ((5 : Int32) &&& 31) = nI m := by
  rcases h with ⟨h1, h2⟩ | ⟨h1, h2⟩ | ⟨h1, h2⟩ | ⟨h1, h2⟩ | ⟨h1, h2, h3⟩
  · subst h1
    have := wd_d0 (m / 100) (by omega) (m % 100) (by omega)
    rw [show 100 * (m / 100) + m % 100 = m by omega] at this
    exact this
  · subst h1; exact wd_d1 m h2
  · subst h1; subst h2; exact wd_d4 2 (by omega)
  · subst h1; exact wd_d3 m h2
  · subst h3; exact wd_d4 o h2
def kRest (k54 : qW → Int32 → Int32 → Int32 → Option (Int32 × qW)) (w : qW) (l7 v11 l9 v6 v10 : Int32) : Option (Int32 × qW) :=
  if v6 = 2 then (if l7 ≤ 0 then (some (0, w)) else (q_ld (q_A w 7) 64 (l7 - 1) (fun v14 => some (v14, w)))) else (if 1 < v6 then (if 6 ≤ v6 then (f_X3_value_B190 k54 w l7 v11 l9 v6 v10 2 l7) else (f_X3_value_B190 k54 w l7 v11 l9 v6 v10 1 l7)) else (if l7 < (Int32.ofNat 64) then (if v6 = 0 then (f_X3_value_B169 k54 w l7 v11 l9 v10 l7) else (q_cl (f_X3_valueOf w v10) (fun r12 w13 => f_X3_value_B169 k54 w13 l7 v11 l9 r12 l7))) else (some (0, w))))
/-- the machine's cells: n words, at cell id -/
def kB (w : qW) (n : Nat) (W : Nat → Int32) : Prop := (q_R w 3 3 = 5 ∨ q_R w 3 3 = 6) ∧ q_I w 3 4 = nI n ∧ n ≤ 128 ∧ q_A w (q_R w 3 3) = W
theorem k_pre {w : qW} {n : Nat} {W : Nat → Int32} (h : kB w n W) (k : qW → Int32 → Int32 → Int32 → Option (Int32 × qW)) (S : Nat → Int32) (l7 : Int32) {a j o m : Nat} (ha : a < n) (hj : j < 128) (hw : W a = lw_wd (o, m)) (ho : wOk o m) : f_X3_value_B54 k (q_sA w 7 S) l7 (nI a) (nI j) = kRest k (q_sA w 7 S) l7 (nI (a + 1)) (nI j) (nI o) (nI m) := by
  obtain ⟨h1, h2, h3, h4⟩ := h
  have t0 : (nI a).toInt = (a : Int) := nI_toInt (by omega)
  have tj : (nI j).toInt = (j : Int) := nI_toInt (by omega)
  have r3 : q_R (q_sA w 7 S) 3 3 = q_R w 3 3 := rfl
  have i4 : q_I (q_sA w 7 S) 3 4 = nI n := h2
  have aW : q_A (q_sA w 7 S) (q_R w 3 3) = W := by rw [g_AA, if_neg (by omega), h4]
  unfold f_X3_value_B54
  rw [r3, q_rf_5 _ h1, if_neg (by rw [z_le, tj, show (Int32.ofNat 128).toInt = 128 by decide]; omega), if_neg (by rw [z_lt, t0, c0]; omega), i4, if_neg (nI_ge ha (by omega)), q_rf_5 _ h1, aW, z_ld _ _ _ _ (by rw [t0]; omega), t0, z_bn, q_rf_5 _ h1, aW, z_ld _ _ _ _ (by rw [t0]; omega), t0, z_bn, z_bn, show ((a : Int)).toNat = a by omega, hw, (wd_dec ho).1, (wd_dec ho).2, nI_1]
  rfl
theorem nI_m1 (h : Nat) (hh : h < 1000) : nI (h + 1) + (-1) = nI h := by
  apply Int32.toInt_inj.mp
  rw [t_add _ _ (by rw [cm1, nI_toInt (by omega)]; omega) (by rw [cm1, nI_toInt (by omega)]; omega), cm1, nI_toInt (by omega), nI_toInt (by omega)]
  omega
theorem k_push {w : qW} (k : qW → Int32 → Int32 → Int32 → Option (Int32 × qW)) (S : Nat → Int32) {h j : Nat} (a v : Int32) (hh : h < 64) : f_X3_value_B169 k (q_sA w 7 S) (nI h) a (nI j) v (nI h) = k (q_sA w 7 (upd S h v)) (nI (h + 1)) a (nI (j + 1)) := by
  have t0 : (nI h).toInt = (h : Int) := nI_toInt (by omega)
  unfold f_X3_value_B169 f_X3_value_B311
  rw [z_st _ _ _ _ _ _ (by rw [t0]; omega), z_bn, z_bn, t0, nI_1, nI_1]
  have e : q_sA (q_sA w 7 S) 7 (upd (q_A (q_sA w 7 S) 7) ((h : Int)).toNat v) = q_sA w 7 (upd S h v) := by
    rw [sA_two]
    rfl
  rw [e]
theorem k_rest0 {w : qW} (k : qW → Int32 → Int32 → Int32 → Option (Int32 × qW)) (S : Nat → Int32) {h j m : Nat} (a : Int32) (hh : h < 64) : kRest k (q_sA w 7 S) (nI h) a (nI j) (nI 0) (nI m) = k (q_sA w 7 (upd S h (nI m))) (nI (h + 1)) a (nI (j + 1)) := by
  unfold kRest
  rw [if_neg (by decide), if_neg (by decide), if_pos (by rw [z_lt, nI_toInt (by omega), show (Int32.ofNat 64).toInt = 64 by decide]; omega), if_pos (by decide), k_push k S a (nI m) hh]
theorem k_rest1 {w : qW} (k : qW → Int32 → Int32 → Int32 → Option (Int32 × qW)) (S : Nat → Int32) {h j m : Nat} (a : Int32) (hh : h < 64) (hm : m < 6) : kRest k (q_sA w 7 S) (nI h) a (nI j) (nI 1) (nI m) = k (q_sA w 7 (upd S h (q_A w 8 m))) (nI (h + 1)) a (nI (j + 1)) := by
  have t0 : (nI m).toInt = (m : Int) := nI_toInt (by omega)
  unfold kRest f_X3_valueOf
  rw [if_neg (by decide), if_neg (by decide), if_pos (by rw [z_lt, nI_toInt (by omega), show (Int32.ofNat 64).toInt = 64 by decide]; omega), if_neg (by decide), if_neg (nI_pos (by omega)), if_neg (by rw [z_le, t0, show (Int32.ofNat 6).toInt = 6 by decide]; omega), z_ld _ _ _ _ (by rw [t0]; omega), z_cl, k_push k S a _ hh, t0]
  rfl
theorem k_set {w : qW} (k : qW → Int32 → Int32 → Int32 → Option (Int32 × qW)) (S : Nat → Int32) {h j : Nat} (a l7 v : Int32) (hh : h < 64) : f_X3_value_B274 k (q_sA w 7 S) l7 a (nI j) v (nI h) = k (q_sA w 7 (upd S h v)) l7 a (nI (j + 1)) := by
  have t0 : (nI h).toInt = (h : Int) := nI_toInt (by omega)
  unfold f_X3_value_B274 f_X3_value_B311
  rw [z_st _ _ _ _ _ _ (by rw [t0]; omega), z_bn, t0, nI_1]
  have e : q_sA (q_sA w 7 S) 7 (upd (q_A (q_sA w 7 S) 7) ((h : Int)).toNat v) = q_sA w 7 (upd S h v) := by
    rw [sA_two]
    rfl
  rw [e]
theorem k_rest4 {w : qW} (k : qW → Int32 → Int32 → Int32 → Option (Int32 × qW)) (S : Nat → Int32) {h j : Nat} (a m : Int32) (hh : h < 64) : kRest k (q_sA w 7 S) (nI (h + 1)) a (nI j) (nI 4) m = k (q_sA w 7 (upd S h (if S h = 0 then 1 else 0))) (nI (h + 1)) a (nI (j + 1)) := by
  have t0 : (nI h).toInt = (h : Int) := nI_toInt (by omega)
  have t1 : (nI (h + 1)).toInt = (h : Int) + 1 := by rw [nI_toInt (by omega)]; omega
  unfold kRest f_X3_value_B190
  rw [if_neg (by decide), if_pos (by decide), if_neg (by decide), if_pos (by rw [z_le, c1, t1]; omega), if_neg (by decide), if_neg (by decide), nI_pred, z_ld _ _ _ _ (by rw [t0]; omega), t0, if_neg (by decide)]
  have eS : q_A (q_sA w 7 S) 7 ((h : Int)).toNat = S h := rfl
  rw [eS]
  by_cases hz : S h = 0
  · rw [if_pos hz, if_pos hz, k_set k S a _ _ hh]
  · rw [if_neg hz, if_neg hz, k_set k S a _ _ hh]
theorem k_rest5 {w : qW} (k : qW → Int32 → Int32 → Int32 → Option (Int32 × qW)) (S : Nat → Int32) {h j : Nat} (a m : Int32) (hh : h < 64) : kRest k (q_sA w 7 S) (nI (h + 1)) a (nI j) (nI 5) m = k (q_sA w 7 (upd S h (-S h))) (nI (h + 1)) a (nI (j + 1)) := by
  have t0 : (nI h).toInt = (h : Int) := nI_toInt (by omega)
  have t1 : (nI (h + 1)).toInt = (h : Int) + 1 := by rw [nI_toInt (by omega)]; omega
  unfold kRest f_X3_value_B190
  rw [if_neg (by decide), if_pos (by decide), if_neg (by decide), if_pos (by rw [z_le, c1, t1]; omega), if_neg (by decide), if_neg (by decide), nI_pred, z_ld _ _ _ _ (by rw [t0]; omega), t0, if_pos (by decide)]
  have eS : q_A (q_sA w 7 S) 7 ((h : Int)).toNat = S h := rfl
  rw [eS, k_set k S a _ _ hh]
theorem k_worked (w : qW) (l r : Int32) : ∀ o : Nat, 6 ≤ o → o < 16 → f_X3_worked w (nI o) l r = some (lw_bin o l r, w)
  | 0, h, _ => absurd h (by omega)
  | 1, h, _ => absurd h (by omega)
  | 2, h, _ => absurd h (by omega)
  | 3, h, _ => absurd h (by omega)
  | 4, h, _ => absurd h (by omega)
  | 5, h, _ => absurd h (by omega)
  | 6, _, _ => by
    unfold f_X3_worked f_X3_worked_B60
    rw [if_pos (by decide)]
    show _ = some ((if ¬ l = 0 ∨ ¬ r = 0 then 1 else 0), w)
    by_cases hl : l = 0
    · by_cases hr : r = 0
      · rw [if_pos hl, if_pos hr, if_neg (fun q => q.elim (fun q => q hl) (fun q => q hr))]
      · rw [if_pos hl, if_neg hr, if_pos (Or.inr hr)]
    · rw [if_neg hl, if_pos (Or.inl hl)]
  | 7, _, _ => by
    unfold f_X3_worked
    rw [if_neg (by decide), if_pos (by decide)]
    show _ = some ((if ¬ l = 0 ∧ ¬ r = 0 then 1 else 0), w)
    by_cases hl : l = 0
    · rw [if_pos hl, if_neg (fun q => q.1 hl)]
    · by_cases hr : r = 0
      · rw [if_neg hl, if_pos hr, if_neg (fun q => q.2 hr)]
      · rw [if_neg hl, if_neg hr, if_pos ⟨hl, hr⟩]
  | 8, _, _ => by
    unfold f_X3_worked
    rw [if_neg (by decide), if_neg (by decide), if_pos (by decide)]
    show _ = some ((if l < r then 1 else 0), w)
    by_cases hr : l < r
    · rw [if_pos hr, if_neg (by rw [z_le]; rw [z_lt] at hr; omega)]
    · rw [if_neg hr, if_pos (by rw [z_le]; rw [z_lt] at hr; omega)]
  | 9, _, _ => by
    unfold f_X3_worked
    rw [if_neg (by decide), if_neg (by decide), if_neg (by decide), if_pos (by decide)]
    show _ = some ((if l = r then 1 else 0), w)
    by_cases hr : l = r
    · rw [if_pos hr, if_pos hr]
    · rw [if_neg hr, if_neg hr]
  | 10, _, _ => by
    unfold f_X3_worked
    rw [if_neg (by decide), if_neg (by decide), if_neg (by decide), if_neg (by decide), if_pos (by decide)]
    show _ = some ((if r < l then 1 else 0), w)
    by_cases hr : r < l
    · rw [if_pos hr, if_neg (by rw [z_le]; rw [z_lt] at hr; omega)]
    · rw [if_neg hr, if_pos (by rw [z_le]; rw [z_lt] at hr; omega)]
  | 11, _, _ => by
    unfold f_X3_worked
    rw [if_neg (by decide), if_neg (by decide), if_neg (by decide), if_neg (by decide), if_neg (by decide), if_pos (by decide)]
    rfl
  | 12, _, _ => by
    unfold f_X3_worked
    rw [if_neg (by decide), if_neg (by decide), if_neg (by decide), if_neg (by decide), if_neg (by decide), if_neg (by decide), if_pos (by decide)]
    rfl
  | 13, _, _ => by
    unfold f_X3_worked
    rw [if_neg (by decide), if_neg (by decide), if_neg (by decide), if_neg (by decide), if_neg (by decide), if_neg (by decide), if_neg (by decide), if_pos (by decide)]
    rfl
  | 14, _, _ => by
    unfold f_X3_worked
    rw [if_neg (by decide), if_neg (by decide), if_neg (by decide), if_neg (by decide), if_neg (by decide), if_neg (by decide), if_neg (by decide), if_neg (by decide), if_pos (by decide)]
    show _ = some ((if r = 0 then 0 else l / r), w)
    by_cases hr : r = 0
    · rw [if_pos hr, if_pos hr]
    · rw [if_neg hr, if_neg hr, z_nz hr]
  | 15, _, _ => by
    unfold f_X3_worked
    rw [if_neg (by decide), if_neg (by decide), if_neg (by decide), if_neg (by decide), if_neg (by decide), if_neg (by decide), if_neg (by decide), if_neg (by decide), if_neg (by decide)]
    show _ = some ((if r = 0 then 0 else q_rem l r), w)
    by_cases hr : r = 0
    · rw [if_pos hr, if_pos hr]
    · rw [if_neg hr, if_neg hr, z_nz hr]
  | o + 16, _, h => absurd h (by omega)
theorem k_rest6 {w : qW} (k : qW → Int32 → Int32 → Int32 → Option (Int32 × qW)) (S : Nat → Int32) {h j o : Nat} (a m : Int32) (hh : h + 1 < 64) (h6 : 6 ≤ o) (h16 : o < 16) : kRest k (q_sA w 7 S) (nI (h + 1 + 1)) a (nI j) (nI o) m = k (q_sA w 7 (upd S h (lw_bin o (S h) (S (h + 1))))) (nI (h + 1)) a (nI (j + 1)) := by
  have t0 : (nI h).toInt = (h : Int) := nI_toInt (by omega)
  have t1 : (nI (h + 1)).toInt = (h : Int) + 1 := by rw [nI_toInt (by omega)]; omega
  have t2 : (nI (h + 1 + 1)).toInt = (h : Int) + 2 := by rw [nI_toInt (by omega)]; omega
  have tO : (nI o).toInt = (o : Int) := nI_toInt (by omega)
  unfold kRest f_X3_value_B190 f_X3_value_B311
  rw [if_neg (by rw [z_eq, tO, c2]; omega), if_pos (by rw [z_lt, tO, c1]; omega), if_pos (by rw [z_le, tO, c6]; omega), if_pos (by rw [z_le, c2, t2]; omega), if_neg (by rw [z_eq, tO, c3]; omega), if_pos (by rw [z_le, tO, c6]; omega), z_bn, nI_m1 (h + 1) (by omega), nI_pred, z_ld _ _ _ _ (by rw [t0]; omega), z_ld _ _ _ _ (by rw [t1]; omega), k_worked _ _ _ o h6 h16, z_cl, z_st _ _ _ _ _ _ (by rw [t0]; omega), z_bn, nI_1, t0, t1]
  have e : ∀ v, q_sA (q_sA w 7 S) 7 (upd (q_A (q_sA w 7 S) 7) ((h : Int)).toNat v) = q_sA w 7 (upd S h v) := fun v => by
    rw [sA_two]
    rfl
  rw [e]
  have e1 : q_A (q_sA w 7 S) 7 ((h : Int)).toNat = S h := rfl
  have e2 : q_A (q_sA w 7 S) 7 ((h : Int) + 1).toNat = S (h + 1) := by
    show S ((h : Int) + 1).toNat = S (h + 1)
    rw [show ((h : Int) + 1).toNat = h + 1 by omega]
  rw [e1, e2]
theorem k_rest3 {w : qW} (k : qW → Int32 → Int32 → Int32 → Option (Int32 × qW)) (S : Nat → Int32) {j : Nat} (a m : Int32) : kRest k (q_sA w 7 S) (nI 1) a (nI j) (nI 3) m = k (q_sA w 7 S) (nI 0) (if S 0 = 0 then m else a) (nI (j + 1)) := by
  unfold kRest f_X3_value_B190 f_X3_value_B221 f_X3_value_B311
  rw [if_neg (by decide), if_pos (by decide), if_neg (by decide), if_pos (by decide), if_pos (by decide), z_bn, nI_m1 0 (by omega), z_ld _ _ _ _ (by decide)]
  have e1 : q_A (q_sA w 7 S) 7 ((nI 0).toInt).toNat = S 0 := rfl
  rw [e1, z_bn, z_bn, nI_1]
  by_cases hz : S 0 = 0
  · rw [if_pos hz, if_pos hz]
  · rw [if_neg hz, if_neg hz]
theorem k_rest2 {w : qW} (k : qW → Int32 → Int32 → Int32 → Option (Int32 × qW)) (S : Nat → Int32) {j : Nat} (a m : Int32) : kRest k (q_sA w 7 S) (nI 1) a (nI j) (nI 2) m = some (S 0, q_sA w 7 S) := by
  unfold kRest
  rw [if_pos (by decide), if_neg (by decide), nI_pred 0, z_ld _ _ _ _ (by decide)]
  rfl
def rep (S : Nat → Int32) : List Int32 → Prop
  | [] => True
  | x :: t => S t.length = x ∧ rep S t
theorem rep_upd (S : Nat → Int32) (v : Int32) : ∀ (st : List Int32) (h : Nat), st.length ≤ h → rep S st → rep (upd S h v) st
  | [], _, _, _ => trivial
  | x :: t, h, hl, hr => by
    have hl : t.length + 1 ≤ h := hl
    refine ⟨?_, rep_upd S v t h (by omega) hr.2⟩
    unfold upd
    rw [if_neg (by omega)]
    exact hr.1
theorem rep_push {S : Nat → Int32} {st : List Int32} (v : Int32) (h : rep S st) : rep (upd S st.length v) (v :: st) := by
  refine ⟨?_, rep_upd S v st _ (Nat.le_refl _) h⟩
  unfold upd
  rw [if_pos rfl]
theorem k_code {w : qW} {n : Nat} {W nm : Nat → Int32} (h : kB w n W) (hnm : q_A w 8 = nm) : ∀ (cd : List (Nat × Nat)) (st : List Int32) (S : Nat → Int32) (a j F k : Nat), (∀ i q, cd[i]? = some q → W (a + i) = lw_wd q) → lw_ht cd st.length = some k → rep S st → st.length ≤ 64 → a + cd.length ≤ n → j ≤ a → ∃ S2, rep S2 (lw_ex nm cd st) ∧ f_X3_value_R54 (F + cd.length) (q_sA w 7 S) (nI st.length) (nI a) (nI j) = f_X3_value_R54 F (q_sA w 7 S2) (nI k) (nI (a + cd.length)) (nI (j + cd.length))
  | [], st, S, a, j, F, k, _, hk, hr, _, _, _ => by
    injection hk with hk
    subst hk
    exact ⟨S, hr, rfl⟩
  | (o, m) :: t, st, S, a, j, F, k, hW, hk, hr, hs, ha, hj => by
    have h3 := h.2.2.1
    have ha : a + (t.length + 1) ≤ n := ha
    have w0 : W a = lw_wd (o, m) := hW 0 (o, m) rfl
    have wt : ∀ i q, t[i]? = some q → W (a + 1 + i) = lw_wd q := by
      intro i q hq
      rw [show a + 1 + i = a + (i + 1) by omega]
      exact hW (i + 1) q (by simpa using hq)
    have key : ∀ (S1 : Nat → Int32) (st1 : List Int32), lw_ex nm ((o, m) :: t) st = lw_ex nm t st1 → lw_ht t st1.length = some k → rep S1 st1 → st1.length ≤ 64 → wOk o m → kRest (f_X3_value_R54 (F + t.length)) (q_sA w 7 S) (nI st.length) (nI (a + 1)) (nI j) (nI o) (nI m) = f_X3_value_R54 (F + t.length) (q_sA w 7 S1) (nI st1.length) (nI (a + 1)) (nI (j + 1)) → ∃ S2, rep S2 (lw_ex nm ((o, m) :: t) st) ∧ f_X3_value_R54 (F + (t.length + 1)) (q_sA w 7 S) (nI st.length) (nI a) (nI j) = f_X3_value_R54 F (q_sA w 7 S2) (nI k) (nI (a + (t.length + 1))) (nI (j + (t.length + 1))) := by
      intro S1 st1 e1 e2 e3 e4 e5 e6
      obtain ⟨S2, g1, g2⟩ := k_code h hnm t st1 S1 (a + 1) (j + 1) F k wt e2 e3 e4 (by omega) (by omega)
      refine ⟨S2, by rw [e1]; exact g1, ?_⟩
      show f_X3_value_B54 (f_X3_value_R54 (F + t.length)) (q_sA w 7 S) (nI st.length) (nI a) (nI j) = _
      rw [k_pre h _ S _ (by omega) (by omega) w0 e5, e6, g2, show a + 1 + t.length = a + (t.length + 1) by omega, show j + 1 + t.length = j + (t.length + 1) by omega]
    match o, m, hk, key with
    | 0, m, hk, key =>
      have hk : (if m < 10000 ∧ st.length < 64 then lw_ht t (st.length + 1) else none) = some k := hk
      by_cases hh : m < 10000 ∧ st.length < 64
      · rw [if_pos hh] at hk
        exact key (upd S st.length (nI m)) (nI m :: st) rfl hk (rep_push _ hr) hh.2 (Or.inl ⟨rfl, hh.1⟩) (k_rest0 _ S _ hh.2)
      · rw [if_neg hh] at hk; exact absurd hk (by simp)
    | 1, m, hk, key =>
      have hk : (if m < 6 ∧ st.length < 64 then lw_ht t (st.length + 1) else none) = some k := hk
      by_cases hh : m < 6 ∧ st.length < 64
      · rw [if_pos hh] at hk
        refine key (upd S st.length (nm m)) (nm m :: st) rfl hk (rep_push _ hr) hh.2 (Or.inr (Or.inl ⟨rfl, hh.1⟩)) ?_
        rw [k_rest1 _ S _ hh.2 hh.1, hnm]
        rfl
      · rw [if_neg hh] at hk; exact absurd hk (by simp)
    | 2, m, hk, key => exact absurd hk (by unfold lw_ht; simp)
    | 3, m, hk, key => exact absurd hk (by unfold lw_ht; simp)
    | 4, m, hk, key =>
      match st, hk, key, hr, hs with
      | [], hk, key, hr, hs =>
        have hk : (if m = 0 ∧ 1 ≤ 0 then lw_ht t 0 else none) = some k := hk
        rw [if_neg (by omega)] at hk; exact absurd hk (by simp)
      | x :: st, hk, key, hr, hs =>
        have hs : st.length + 1 ≤ 64 := hs
        have hk : (if m = 0 ∧ 1 ≤ st.length + 1 then lw_ht t (st.length + 1) else none) = some k := hk
        by_cases hh : m = 0 ∧ 1 ≤ st.length + 1
        · rw [if_pos hh] at hk
          refine key (upd S st.length (if x = 0 then 1 else 0)) ((if x = 0 then 1 else 0) :: st) rfl hk (rep_push _ hr.2) hs (Or.inr (Or.inr (Or.inr (Or.inr ⟨by omega, by omega, hh.1⟩)))) ?_
          have := k_rest4 (w := w) (f_X3_value_R54 (F + t.length)) S (h := st.length) (j := j) (nI (a + 1)) (nI m) (by omega)
          rw [hr.1] at this
          exact this
        · rw [if_neg hh] at hk; exact absurd hk (by simp)
    | 5, m, hk, key =>
      match st, hk, key, hr, hs with
      | [], hk, key, hr, hs =>
        have hk : (if m = 0 ∧ 1 ≤ 0 then lw_ht t 0 else none) = some k := hk
        rw [if_neg (by omega)] at hk; exact absurd hk (by simp)
      | x :: st, hk, key, hr, hs =>
        have hs : st.length + 1 ≤ 64 := hs
        have hk : (if m = 0 ∧ 1 ≤ st.length + 1 then lw_ht t (st.length + 1) else none) = some k := hk
        by_cases hh : m = 0 ∧ 1 ≤ st.length + 1
        · rw [if_pos hh] at hk
          refine key (upd S st.length (-x)) (-x :: st) rfl hk (rep_push _ hr.2) hs (Or.inr (Or.inr (Or.inr (Or.inr ⟨by omega, by omega, hh.1⟩)))) ?_
          have := k_rest5 (w := w) (f_X3_value_R54 (F + t.length)) S (h := st.length) (j := j) (nI (a + 1)) (nI m) (by omega)
          rw [hr.1] at this
          exact this
        · rw [if_neg hh] at hk; exact absurd hk (by simp)
    | o + 6, m, hk, key =>
      have hk : (if o < 10 ∧ m = 0 ∧ 2 ≤ st.length then lw_ht t (st.length - 1) else none) = some k := hk
      by_cases hh : o < 10 ∧ m = 0 ∧ 2 ≤ st.length
      · rw [if_pos hh] at hk
        match st, hh, hk, key, hr, hs with
        | y :: x :: st, hh, hk, key, hr, hs =>
          have hs : st.length + 1 + 1 ≤ 64 := hs
          refine key (upd S st.length (lw_bin (o + 6) x y)) (lw_bin (o + 6) x y :: st) (ex_bin nm t st x y m (o + 6) (by omega) (by omega)) hk (rep_push _ hr.2.2) (by show st.length + 1 ≤ 64; omega) (Or.inr (Or.inr (Or.inr (Or.inr ⟨by omega, by omega, hh.2.1⟩)))) ?_
          have := k_rest6 (w := w) (f_X3_value_R54 (F + t.length)) S (h := st.length) (j := j) (o := o + 6) (nI (a + 1)) (nI m) (by omega) (by omega) (by omega)
          have hr1 : S (st.length + 1) = y := hr.1
          rw [hr.2.1, hr1] at this
          exact this
        | [y], hh, _, _, _, _ => exact absurd hh.2.2 (by show ¬ 2 ≤ 1; omega)
        | [], hh, _, _, _, _ => exact absurd hh.2.2 (by show ¬ 2 ≤ 0; omega)
      · rw [if_neg hh] at hk; exact absurd hk (by simp)
theorem ex_one {nm : Nat → Int32} {cd : List (Nat × Nat)} (h : lw_ht cd 0 = some 1) : ∃ v, lw_ex nm cd [] = [v] ∧ lw_val nm cd = v := by
  have := (ex_congr (nm := nm) (nm2 := nm) (fun _ _ => rfl) cd [] 1 h).2
  unfold lw_val
  match e : lw_ex nm cd [], this with
  | [v], _ => exact ⟨v, rfl, rfl⟩
theorem k_lines {w : qW} {n : Nat} {W nm : Nat → Int32} (h : kB w n W) (hnm : q_A w 8 = nm) : ∀ (lns : List lw_Ln) (a j F : Nat) (S : Nat → Int32), (∀ ln, ln ∈ lns → lnOk ln) → (∀ i q, (lw_enc a lns)[i]? = some q → W (a + i) = lw_wd q) → a + (lw_enc a lns).length = n → j ≤ a → n < F + a → ∃ S2, f_X3_value_R54 F (q_sA w 7 S) (nI 0) (nI a) (nI j) = some (lw_ev nm lns, q_sA w 7 S2)
  | [], a, j, F, S, _, _, ha, hj, hF => by
    have ha : a + 0 = n := ha
    obtain ⟨F, rfl⟩ : ∃ k, F = k + 1 := ⟨F - 1, by omega⟩
    refine ⟨S, ?_⟩
    have h3 := h.2.2.1
    show f_X3_value_B54 (f_X3_value_R54 F) (q_sA w 7 S) (nI 0) (nI a) (nI j) = some (0, _)
    unfold f_X3_value_B54
    have r3 : q_R (q_sA w 7 S) 3 3 = q_R w 3 3 := rfl
    have i4 : q_I (q_sA w 7 S) 3 4 = nI n := h.2.1
    rw [r3, q_rf_5 _ h.1]
    by_cases hz : Int32.ofNat 128 ≤ nI j
    · rw [if_pos hz]
    · rw [if_neg hz, if_neg (by rw [z_lt, nI_toInt (by omega), c0]; omega), i4, if_pos (nI_le (by omega) (by omega))]
  | (none, cd) :: t, a, j, F, S, hok, hW, ha, hj, hF => by
    have h3 := h.2.2.1
    have o1 := (hok _ (List.mem_cons_self ..)).1
    have o1 : lw_ht cd 0 = some 1 := o1
    obtain ⟨v, v1, v2⟩ := ex_one (nm := nm) o1
    have hW : ∀ i q, (cd ++ (2, 0) :: lw_enc (a + cd.length + 1) t)[i]? = some q → W (a + i) = lw_wd q := hW
    have ha : a + (cd ++ (2, 0) :: lw_enc (a + cd.length + 1) t).length = n := ha
    rw [List.length_append, List.length_cons] at ha
    have W1 : ∀ i q, cd[i]? = some q → W (a + i) = lw_wd q := by
      intro i q hq
      apply hW
      have : i < cd.length := by
        by_cases hi : i < cd.length
        · exact hi
        · rw [List.getElem?_eq_none (by omega)] at hq; exact absurd hq (by simp)
      rw [List.getElem?_append_left this]
      exact hq
    have W2 : W (a + cd.length) = lw_wd (2, 0) := by
      apply hW
      rw [List.getElem?_append_right (by omega), Nat.sub_self]
      rfl
    obtain ⟨F, rfl⟩ : ∃ k, F = k + 1 + cd.length := ⟨F - 1 - cd.length, by omega⟩
    obtain ⟨S2, g1, g2⟩ := k_code h hnm cd [] S a j (F + 1) 1 W1 o1 trivial (by show 0 ≤ 64; omega) (by omega) hj
    rw [v1] at g1
    refine ⟨S2, ?_⟩
    show f_X3_value_R54 (F + 1 + cd.length) (q_sA w 7 S) (nI 0) (nI a) (nI j) = some (lw_val nm cd, _)
    rw [show f_X3_value_R54 (F + 1 + cd.length) (q_sA w 7 S) (nI 0) (nI a) (nI j) = _ from g2, v2]
    show f_X3_value_B54 (f_X3_value_R54 F) (q_sA w 7 S2) (nI 1) (nI (a + cd.length)) (nI (j + cd.length)) = _
    rw [k_pre h _ S2 _ (by omega) (by omega) W2 (Or.inr (Or.inr (Or.inl ⟨rfl, rfl⟩))), k_rest2]
    have : S2 0 = v := g1.1
    rw [this]
  | (some c, cd) :: t, a, j, F, S, hok, hW, ha, hj, hF => by
    have h3 := h.2.2.1
    have o1 := (hok _ (List.mem_cons_self ..)).1
    have o1 : lw_ht cd 0 = some 1 := o1
    have o2 := (hok _ (List.mem_cons_self ..)).2 c rfl
    obtain ⟨v, v1, v2⟩ := ex_one (nm := nm) o1
    obtain ⟨u, u1, u2⟩ := ex_one (nm := nm) o2
    obtain ⟨e, he⟩ : ∃ e, e = a + c.length + cd.length + 2 := ⟨_, rfl⟩
    have hW : ∀ i q, (c ++ (3, a + c.length + cd.length + 2) :: (cd ++ (2, 0) :: lw_enc (a + c.length + cd.length + 2) t))[i]? = some q → W (a + i) = lw_wd q := hW
    have ha : a + (c ++ (3, a + c.length + cd.length + 2) :: (cd ++ (2, 0) :: lw_enc (a + c.length + cd.length + 2) t)).length = n := ha
    rw [← he] at hW ha
    rw [List.length_append, List.length_cons, List.length_append, List.length_cons] at ha
    have W1 : ∀ i q, c[i]? = some q → W (a + i) = lw_wd q := by
      intro i q hq
      apply hW
      have : i < c.length := by
        by_cases hi : i < c.length
        · exact hi
        · rw [List.getElem?_eq_none (by omega)] at hq; exact absurd hq (by simp)
      rw [List.getElem?_append_left this]
      exact hq
    have W2 : W (a + c.length) = lw_wd (3, e) := by
      apply hW
      rw [List.getElem?_append_right (by omega), Nat.sub_self]
      rfl
    have W3 : ∀ i q, (cd ++ (2, 0) :: lw_enc e t)[i]? = some q → W (a + c.length + 1 + i) = lw_wd q := by
      intro i q hq
      rw [show a + c.length + 1 + i = a + (c.length + (i + 1)) by omega]
      apply hW
      rw [List.getElem?_append_right (by omega), show c.length + (i + 1) - c.length = i + 1 by omega]
      simpa using hq
    obtain ⟨F, rfl⟩ : ∃ k, F = k + 1 + c.length := ⟨F - 1 - c.length, by omega⟩
    obtain ⟨S2, g1, g2⟩ := k_code h hnm c [] S a j (F + 1) 1 W1 o2 trivial (by show 0 ≤ 64; omega) (by omega) hj
    rw [u1] at g1
    have hS2 : S2 0 = u := g1.1
    have e1 : f_X3_value_R54 (F + 1 + c.length) (q_sA w 7 S) (nI 0) (nI a) (nI j) = f_X3_value_R54 F (q_sA w 7 S2) (nI 0) (if u = 0 then nI e else nI (a + c.length + 1)) (nI (j + c.length + 1)) := by
      rw [show f_X3_value_R54 (F + 1 + c.length) (q_sA w 7 S) (nI 0) (nI a) (nI j) = _ from g2]
      show f_X3_value_B54 (f_X3_value_R54 F) (q_sA w 7 S2) (nI 1) (nI (a + c.length)) (nI (j + c.length)) = _
      rw [k_pre h _ S2 _ (by omega) (by omega) W2 (Or.inr (Or.inr (Or.inr (Or.inl ⟨rfl, by omega⟩)))), k_rest3, hS2]
    show ∃ S2, f_X3_value_R54 (F + 1 + c.length) (q_sA w 7 S) (nI 0) (nI a) (nI j) = some ((if lw_val nm c = 0 then lw_ev nm t else lw_val nm cd), q_sA w 7 S2)
    rw [e1, u2]
    by_cases hu : u = 0
    · rw [if_pos hu, if_pos hu]
      refine k_lines h hnm t e (j + c.length + 1) F S2 (fun ln hl => hok ln (List.mem_cons_of_mem _ hl)) ?_ (by omega) (by omega) (by omega)
      intro i q hq
      rw [show e + i = a + c.length + 1 + (cd.length + (i + 1)) by omega]
      apply W3
      rw [List.getElem?_append_right (by omega), show cd.length + (i + 1) - cd.length = i + 1 by omega]
      simpa using hq
    · rw [if_neg hu, if_neg hu]
      have W4 : ∀ i q, cd[i]? = some q → W (a + c.length + 1 + i) = lw_wd q := by
        intro i q hq
        apply W3
        have : i < cd.length := by
          by_cases hi : i < cd.length
          · exact hi
          · rw [List.getElem?_eq_none (by omega)] at hq; exact absurd hq (by simp)
        rw [List.getElem?_append_left this]
        exact hq
      have W5 : W (a + c.length + 1 + cd.length) = lw_wd (2, 0) := by
        apply W3
        rw [List.getElem?_append_right (by omega), Nat.sub_self]
        rfl
      obtain ⟨F, rfl⟩ : ∃ k, F = k + 1 + cd.length := ⟨F - 1 - cd.length, by omega⟩
      obtain ⟨S3, k1, k2⟩ := k_code h hnm cd [] S2 (a + c.length + 1) (j + c.length + 1) (F + 1) 1 W4 o1 trivial (by show 0 ≤ 64; omega) (by omega) (by omega)
      rw [v1] at k1
      refine ⟨S3, ?_⟩
      rw [show f_X3_value_R54 (F + 1 + cd.length) (q_sA w 7 S2) (nI 0) (nI (a + c.length + 1)) (nI (j + c.length + 1)) = _ from k2, v2]
      show f_X3_value_B54 (f_X3_value_R54 F) (q_sA w 7 S3) (nI 1) (nI (a + c.length + 1 + cd.length)) (nI (j + c.length + 1 + cd.length)) = _
      rw [k_pre h _ S3 _ (by omega) (by omega) W5 (Or.inr (Or.inr (Or.inl ⟨rfl, rfl⟩))), k_rest2]
      have : S3 0 = v := k1.1
      rw [this]
