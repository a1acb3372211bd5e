/-! shade: the frame, the state that asking needs, one man's shade on both sides -/
def fr0 (w w2 : qW) : Prop := q_R w2 = q_R w ∧ q_G w2 = q_G w ∧ (∀ o k, ¬ (o = 48 ∧ 12 ≤ k ∧ k ≤ 16) → q_I w2 o k = q_I w o k) ∧ ∀ o, o ≠ 7 → o ≠ 8 → o ≠ 55 → q_A w2 o = q_A w o
theorem fr0_rf (w : qW) : fr0 w w := ⟨rfl, rfl, fun _ _ _ => rfl, fun _ _ _ _ => rfl⟩
theorem fr0_tr {a b c : qW} (h1 : fr0 a b) (h2 : fr0 b c) : fr0 a c := ⟨h2.1.trans h1.1, h2.2.1.trans h1.2.1, fun o k h => (h2.2.2.1 o k h).trans (h1.2.2.1 o k h), fun o h7 h8 h5 => (h2.2.2.2 o h7 h8 h5).trans (h1.2.2.2 o h7 h8 h5)⟩
theorem fr0_sA {a b : qW} (h : fr0 a b) (o : Nat) (f : Nat → Int32) : fr0 (q_sA a o f) (q_sA b o f) := by
  refine ⟨h.1, h.2.1, h.2.2.1, fun p h7 h8 h5 => ?_⟩
  rw [g_AA, g_AA]
  by_cases hp : p = o
  · rw [if_pos hp, if_pos hp]
  · rw [if_neg hp, if_neg hp]; exact h.2.2.2 p h7 h8 h5
theorem fr0_I {a b : qW} (h : fr0 a b) (o k : Nat) (hk : o ≠ 48 ∨ k < 12 ∨ 16 < k) : q_I b o k = q_I a o k := h.2.2.1 o k (by omega)
theorem fr0_A {a b : qW} (h : fr0 a b) (o : Nat) (ho : o ≠ 7 ∧ o ≠ 8 ∧ o ≠ 55) : q_A b o = q_A a o := h.2.2.2 o ho.1 ho.2.1 ho.2.2
def lSt (tx : Option (List lw_Ln)) (w : qW) : Prop := (q_I w 3 7 = 0 ∧ q_I w 48 11 = -1 ∧ tx = none) ∨ ∃ (lns : List lw_Ln) (n L : Nat) (W : Nat → Int32), tx = some lns ∧ q_I w 3 7 = 1 ∧ kB w n W ∧ (∀ i q, (lw_enc 0 lns)[i]? = some q → W i = lw_wd q) ∧ (lw_enc 0 lns).length = n ∧ (∀ ln, ln ∈ lns → lnOk ln) ∧ q_I w 48 11 = nI L ∧ L ≤ 120 ∧ (∀ j : Nat, (j : Int) < (L : Int) → 0 ≤ (q_A w 54 j).toInt) ∧ (lw_text (lw_chr (q_A w 54) (L : Int)) 200 0).1 = true ∧ (lw_text (lw_chr (q_A w 54) (L : Int)) 200 0).2.2 = lns
theorem lSt_fr {tx : Option (List lw_Ln)} {w w2 : qW} (hf : fr0 w w2) (h : lSt tx w) : lSt tx w2 := by
  have e37 := fr0_I hf 3 7 (by omega)
  have e34 := fr0_I hf 3 4 (by omega)
  have e11 := fr0_I hf 48 11 (by omega)
  have e54 := fr0_A hf 54 (by omega)
  rcases h with ⟨h1, h2, h3⟩ | ⟨lns, n, L, W, h1, h2, ⟨k1, k2, k3, k4⟩, h4, h5, h6, h7, h8, h9, h10, h11⟩
  · exact Or.inl ⟨by rw [e37]; exact h1, by rw [e11]; exact h2, h3⟩
  · refine Or.inr ⟨lns, n, L, W, h1, by rw [e37]; exact h2, ⟨by rw [hf.1]; exact k1, by rw [e34]; exact k2, k3, ?_⟩, h4, h5, h6, by rw [e11]; exact h7, h8, by rw [e54]; exact h9, by rw [e54]; exact h10, by rw [e54]; exact h11⟩
    rw [hf.1, fr0_A hf (q_R w 3 3) (by omega)]
    exact k4
theorem lSt_of {w : qW} (h : Jn w) : ∃ tx, lSt tx w := by
  obtain ⟨-, -, -, -, -, ⟨f1, f2, f3, f4, f5, f6⟩, -⟩ := h
  rcases f6 with ⟨k1, k2⟩ | ⟨k1, k2, k3, lns, k4, k5, k6, k7, k8⟩
  · exact ⟨none, Or.inl ⟨k1, k2, rfl⟩⟩
  · obtain ⟨L, hL⟩ : ∃ L, L = (q_I w 48 11).toInt.toNat := ⟨_, rfl⟩
    have eL : (q_I w 48 11).toInt = (L : Int) := by omega
    have eL2 : q_I w 48 11 = nI L := by rw [hL]; exact z_nI _ k2.1
    rw [eL] at k4 k5 k3
    have hcL : ∀ q, 0 ≤ lw_chr (q_A w 54) (L : Int) q → q < L := by
      intro q hq
      unfold lw_chr at hq
      by_cases hh : (q : Int) < (L : Int)
      · omega
      · rw [if_neg hh] at hq; omega
    have hok := text_ht hcL 200 0 (by omega) k4
    rw [k5] at hok
    refine ⟨some lns, Or.inr ⟨lns, (lw_enc 0 lns).length, L, (if q_R w 3 3 = 5 then q_A w 5 else q_A w 6), rfl, k1, ⟨by omega, ?_, k7, ?_⟩, k8, rfl, hok, eL2, by omega, fun j hj => (k3 j hj).1, k4, k5⟩⟩
    · apply Int32.toInt_inj.mp
      rw [nI_toInt (by omega)]
      exact k6
    · rcases f5 with ⟨a1, a2⟩ | ⟨a1, a2⟩
      · rw [a1, if_pos rfl]
      · rw [a1, if_neg (by omega)]
def nm6 (a b c d e f : Int32) (i : Nat) : Int32 := match i with
  | 0 => a
  | 1 => b
  | 2 => c
  | 3 => d
  | 4 => e
  | _ => f
theorem nm6_upd (A : Nat → Int32) (a b c d e f : Int32) : ∀ i : Nat, i < 6 → upd (upd (upd (upd (upd (upd A 0 a) 1 b) 2 c) 3 d) 4 e) 5 f i = nm6 a b c d e f i
  | 0, _ => rfl
  | 1, _ => rfl
  | 2, _ => rfl
  | 3, _ => rfl
  | 4, _ => rfl
  | 5, _ => rfl
theorem st_lit {β : Type} (w : qW) (o n k : Nat) (v : Int32) (c : qW → Option β) (h : k < n) (hn : k < 1000) : q_st w o n (nI k) v c = c (q_sA w o (upd (q_A w o) k v)) := by
  rw [z_st _ _ _ _ _ _ (by rw [nI_toInt (by omega)]; omega), nI_toInt (by omega)]
  rfl
def rto (o : Option (Int32 × qW)) (r : Int32) (w : qW) : Prop := ∃ w2, o = some (r, w2) ∧ fr0 w w2
theorem k_value {lns : List lw_Ln} {w : qW} (h : lSt (some lns) w) (a b c d e f : Int32) : rto (f_X3_value w a b c d e f) (lw_ev (nm6 a b c d e f) lns) w := by
  rcases h with ⟨-, -, h⟩ | ⟨lns2, n, L, W, h1, h2, k1, h4, h5, h6, -⟩
  · exact absurd h (by simp)
  · injection h1 with h1
    subst h1
    have eq : f_X3_value w a b c d e f = f_X3_value_R54 q_fuel (q_sA w 8 (upd (upd (upd (upd (upd (upd (q_A w 8) 0 a) 1 b) 2 c) 3 d) 4 e) 5 f)) (nI 0) (nI 0) (nI 0) := by
      unfold f_X3_value
      rw [show (q_st w 8 6 0 a) = q_st w 8 6 (nI 0) a (β := Int32 × qW) from rfl, st_lit w 8 6 0 a _ (by omega) (by omega)]
      rw [show (1 : Int32) = nI 1 from rfl, st_lit _ 8 6 1 b _ (by omega) (by omega)]
      rw [show (2 : Int32) = nI 2 from rfl, st_lit _ 8 6 2 c _ (by omega) (by omega)]
      rw [show (3 : Int32) = nI 3 from rfl, st_lit _ 8 6 3 d _ (by omega) (by omega)]
      rw [show (4 : Int32) = nI 4 from rfl, st_lit _ 8 6 4 e _ (by omega) (by omega)]
      rw [show (5 : Int32) = nI 5 from rfl, st_lit _ 8 6 5 f _ (by omega) (by omega)]
      simp only [sA_two, g_AA, if_true]
      rfl
    rw [eq]
    generalize hX : upd (upd (upd (upd (upd (upd (q_A w 8) 0 a) 1 b) 2 c) 3 d) 4 e) 5 f = X
    have hkB : kB (q_sA w 8 X) n W := by
      obtain ⟨q1, q2, q3, q4⟩ := k1
      refine ⟨q1, q2, q3, ?_⟩
      show q_A (q_sA w 8 X) (q_R w 3 3) = W
      rw [g_AA, if_neg (by omega)]
      exact q4
    have hW : ∀ i q, (lw_enc 0 lns)[i]? = some q → W (0 + i) = lw_wd q := fun i q hq => by rw [Nat.zero_add]; exact h4 i q hq
    obtain ⟨S2, g⟩ := k_lines hkB (nm := X) (by rw [g_AA, if_pos rfl]) lns 0 0 q_fuel (q_A (q_sA w 8 X) 7) h6 hW (by omega) (by omega) (by rw [q_fuel_eq]; have := k1.2.2.1; omega)
    rw [sA_self] at g
    refine ⟨q_sA (q_sA w 8 X) 7 S2, ?_, ?_⟩
    · rw [g, ev_congr (nm := X) (nm2 := nm6 a b c d e f) (by rw [← hX]; exact nm6_upd _ _ _ _ _ _ _) lns h6]
    · refine ⟨rfl, rfl, fun _ _ _ => rfl, fun o h7 h8 _ => ?_⟩
      rw [g_AA, if_neg h7, g_AA, if_neg h8]
theorem m_value {lns : List lw_Ln} {w : qW} (h : lSt (some lns) w) (a b c d e f : Int32) (hnm : ∀ i, i < 6 → q_A w 55 i = nm6 a b c d e f i) : rto (f_X11_workOut w 0 (q_I w 48 11)) (lw_ev (nm6 a b c d e f) lns) w := by
  rcases h with ⟨-, -, h⟩ | ⟨lns2, n, L, W, h1, h2, k1, h4, h5, h6, h7, h8, h9, h10, h11⟩
  · exact absurd h (by simp)
  · injection h1 with h1
    subst h1
    obtain ⟨-, v, op2, k2, k3⟩ := m_work (w := w) (T := q_A w 54) (c := lw_chr (q_A w 54) (L : Int)) 0 h8 (Or.inl ⟨rfl, rfl⟩) rfl h9
    rw [h7, k2, k3 h10, h11, ev_congr hnm lns h6]
    refine ⟨_, rfl, ?_⟩
    · refine ⟨rfl, rfl, fun o k hk => ?_, fun _ _ _ _ => rfl⟩
      unfold vW
      simp only [g_II]
      rw [if_neg (by omega), if_neg (by omega), if_neg (by omega), if_neg (by omega), if_neg (by omega)]
def clamp (v : Int32) : Int32 := if 0 ≤ v then (if v ≤ 12 then v else 12) else 0
def svV (tx : Option (List lw_Ln)) (br kind steps ac hour man : Int32) : Int32 := match tx with
  | none => 6 + 2 * kind - steps - ac - br
  | some lns => lw_ev (nm6 kind steps ac br hour man) lns
def svA (acr : Int32) : Int32 := if 0 ≤ acr then acr else -acr
def svT (tx : Option (List lw_Ln)) (br kind arms man hour steps acr : Int32) : Int32 := if steps < 1 then 0 else if q_T 3 hour.toInt.toNat + (if kind = 2 then 1 else 0) < steps then 0 else if svA acr ≤ arms then clamp (svV tx br kind steps (svA acr) hour man) else 0
def sv32 (tx : Option (List lw_Ln)) (br src kind arms man cell hour : Int32) : Int32 := if hour < 4 then svT tx br kind arms man hour (-(q_rem cell 12 - q_rem src 12)) (cell / 12 - src / 12) else if 8 ≤ hour then svT tx br kind arms man hour (q_rem cell 12 - q_rem src 12) (cell / 12 - src / 12) else svT tx br kind arms man hour (-(cell / 12 - src / 12)) (q_rem cell 12 - q_rem src 12)
theorem clamp_le (v : Int32) : 0 ≤ (clamp v).toInt ∧ (clamp v).toInt ≤ 12 := by
  unfold clamp
  simp only [z_le, c0, c12]
  by_cases h1 : 0 ≤ v.toInt
  · rw [if_pos h1]
    by_cases h2 : v.toInt ≤ 12
    · rw [if_pos h2]; exact ⟨h1, h2⟩
    · rw [if_neg h2]; decide
  · rw [if_neg h1]; decide
theorem svT_le (tx : Option (List lw_Ln)) (br kind arms man hour steps acr : Int32) : 0 ≤ (svT tx br kind arms man hour steps acr).toInt ∧ (svT tx br kind arms man hour steps acr).toInt ≤ 12 := by
  unfold svT
  by_cases h1 : steps < 1
  · rw [if_pos h1]; decide
  · rw [if_neg h1]
    by_cases h2 : q_T 3 hour.toInt.toNat + (if kind = 2 then 1 else 0) < steps
    · rw [if_pos h2]; decide
    · rw [if_neg h2]
      by_cases h3 : svA acr ≤ arms
      · rw [if_pos h3]; exact clamp_le _
      · rw [if_neg h3]; decide
theorem sv_le (tx : Option (List lw_Ln)) (br src kind arms man cell hour : Int32) : 0 ≤ (sv32 tx br src kind arms man cell hour).toInt ∧ (sv32 tx br src kind arms man cell hour).toInt ≤ 12 := by
  unfold sv32
  by_cases h1 : hour < 4
  · rw [if_pos h1]; exact svT_le ..
  · rw [if_neg h1]
    by_cases h2 : 8 ≤ hour
    · rw [if_pos h2]; exact svT_le ..
    · rw [if_neg h2]; exact svT_le ..
theorem clamp_c (w : qW) (v : Int32) : f_X5_cast_B193 w v = some (clamp v, w) := by
  unfold f_X5_cast_B193 clamp
  simp only [z_bn, z_lt, z_le, c0, c12]
  by_cases h1 : v.toInt < 12
  · rw [if_pos h1]
    by_cases h2 : 0 < v.toInt
    · rw [if_pos h2, if_pos (by omega), if_pos (by omega)]
    · rw [if_neg h2]
      by_cases h3 : 0 ≤ v.toInt
      · have : v = 0 := by rw [z_eq, c0]; omega
        rw [if_pos h3, if_pos (by omega), this]
      · rw [if_neg h3]
  · rw [if_neg h1, c12, if_pos (by decide), if_pos (by omega)]
    by_cases h2 : v.toInt ≤ 12
    · have : v = 12 := by rw [z_eq, c12]; omega
      rw [if_pos h2, this]
    · rw [if_neg h2]
def hiN (k : Nat) : Nat := ([143, 2, 4, 99, 143, 4095, 12, 9] : List Nat).getD k 0
def jv (mn st i : Nat) : Prop := (i < 32 ∧ i % 8 < mn) ∨ (32 ≤ i ∧ i < 56 ∧ i % 8 < st) ∨ i = 56
def vN (mn st : Nat) (N : Nat → Nat) (A : Nat → Int32) : Prop := ∀ i, jv mn st i → A i = nI (N i) ∧ N i ≤ hiN (i / 8)
def PC (mn st : Nat) (N : Nat → Nat) (w : qW) : Prop := q_I w 1 1 = nI mn ∧ q_I w 1 2 = nI st ∧ mn ≤ 7 ∧ st ≤ 8 ∧ vN mn st N (q_A w 2)
def jvM (mn mk st i : Nat) : Prop := (i < 24 ∧ i % 8 < mk) ∨ (32 ≤ i ∧ i < 56 ∧ i % 8 < st) ∨ i = 56 ∨ (24 ≤ i ∧ i < 32 ∧ i % 8 < mn)
def vM (mn mk st : Nat) (N : Nat → Nat) (A : Nat → Int32) : Prop := ∀ i, jvM mn mk st i → A i = nI (N i) ∧ N i ≤ hiN (i / 8)
def PM (mn mk st : Nat) (N : Nat → Nat) (w : qW) : Prop := q_I w 48 6 = nI mn ∧ q_I w 48 7 = nI st ∧ mn ≤ 7 ∧ st ≤ 8 ∧ mk ≤ 8 ∧ vM mn mk st N (q_A w 49)
theorem PC_fr {mn st : Nat} {N : Nat → Nat} {w w2 : qW} (hf : fr0 w w2) (h : PC mn st N w) : PC mn st N w2 := by
  obtain ⟨h1, h2, h3, h4, h5⟩ := h
  exact ⟨by rw [fr0_I hf 1 1 (by omega)]; exact h1, by rw [fr0_I hf 1 2 (by omega)]; exact h2, h3, h4, by rw [fr0_A hf 2 (by omega)]; exact h5⟩
theorem PM_fr {mn mk st : Nat} {N : Nat → Nat} {w w2 : qW} (hf : fr0 w w2) (h : PM mn mk st N w) : PM mn mk st N w2 := by
  obtain ⟨h1, h2, h3, h4, h5, h6⟩ := h
  exact ⟨by rw [fr0_I hf 48 6 (by omega)]; exact h1, by rw [fr0_I hf 48 7 (by omega)]; exact h2, h3, h4, h5, by rw [fr0_A hf 49 (by omega)]; exact h6⟩
theorem hi_eq : ∀ k : Nat, k < 8 → jhi k = (hiN k : Int) := by decide
theorem PN_of {w : qW} (h : Jn w) : ∃ mn st N, PC mn st N w ∧ PM mn mn st N w ∧ ∀ i, 48 ≤ i → i < 48 + st → 1 ≤ N i := by
  obtain ⟨⟨⟨a1, a2⟩, ⟨b1, b2⟩, e1, e2, h5⟩, -⟩ := h
  obtain ⟨mn, hm⟩ : ∃ mn, mn = (q_I w 1 1).toInt.toNat := ⟨_, rfl⟩
  obtain ⟨st, hs⟩ : ∃ st, st = (q_I w 1 2).toInt.toNat := ⟨_, rfl⟩
  have m1 : q_I w 1 1 = nI mn := by rw [hm]; exact z_nI _ a1
  have s1 : q_I w 1 2 = nI st := by rw [hs]; exact z_nI _ b1
  have tr : ∀ i, jv mn st i → jvI (q_I w 1 1) (q_I w 1 2) i := by
    intro i hi
    rcases hi with ⟨h1, h2⟩ | ⟨h1, h2, h3⟩ | h1
    · exact Or.inl ⟨h1, by omega⟩
    · exact Or.inr (Or.inl ⟨h1, h2, by omega⟩)
    · exact Or.inr (Or.inr h1)
  have jlo0 : ∀ k, 0 ≤ jlo k := by
    intro k
    unfold jlo
    by_cases hk : k = 6
    · rw [if_pos hk]; omega
    · rw [if_neg hk]; omega
  have base : ∀ i, jv mn st i → q_A w 2 i = nI (q_A w 2 i).toInt.toNat ∧ (q_A w 2 i).toInt.toNat ≤ hiN (i / 8) ∧ q_A w 49 i = q_A w 2 i := by
    intro i hi
    obtain ⟨g1, g2, g3⟩ := h5 i (tr i hi)
    have i8 : i / 8 < 8 := by rcases hi with ⟨q1, q2⟩ | ⟨q1, q2, q3⟩ | q1 <;> omega
    have z := jlo0 (i / 8)
    rw [hi_eq _ i8] at g3
    exact ⟨z_nI _ (by omega), by omega, g1.symm⟩
  have jm : ∀ i, jvM mn mn st i → jv mn st i := by
    intro i hi
    rcases hi with ⟨q1, q2⟩ | ⟨q1, q2, q3⟩ | q1 | ⟨q1, q2, q3⟩
    · exact Or.inl ⟨by omega, q2⟩
    · exact Or.inr (Or.inl ⟨q1, q2, q3⟩)
    · exact Or.inr (Or.inr q1)
    · exact Or.inl ⟨q2, q3⟩
  refine ⟨mn, st, fun i => (q_A w 2 i).toInt.toNat, ⟨m1, s1, by omega, by omega, fun i hi => ⟨(base i hi).1, (base i hi).2.1⟩⟩, ⟨by rw [e1]; exact m1, by rw [e2]; exact s1, by omega, by omega, by omega, fun i hi => ⟨(base i (jm i hi)).2.2.trans (base i (jm i hi)).1, (base i (jm i hi)).2.1⟩⟩, ?_⟩
  intro i h1 h2
  have hi : jv mn st i := Or.inr (Or.inl ⟨by omega, by omega, by omega⟩)
  obtain ⟨g1, g2, g3⟩ := h5 i (tr i hi)
  rw [show i / 8 = 6 by omega] at g2
  have g2 : (1 : Int) ≤ (q_A w 2 i).toInt := g2
  show 1 ≤ (q_A w 2 i).toInt.toNat
  omega
theorem p_getb {w : qW} {mn st : Nat} {N : Nat → Nat} (h : PC mn st N w) : f_X4_get w 0 7 = some (nI (N 56), w) := by
  obtain ⟨h1, h2, h3, h4, h5⟩ := h
  have t1 : (nI mn).toInt = (mn : Int) := nI_toInt (by omega)
  have t2 : (nI st).toInt = (st : Int) := nI_toInt (by omega)
  have hp : hasP (q_I w 1 1) (q_I w 1 2) 0 7 := by
    refine ⟨⟨by decide, by decide⟩, by decide, ?_⟩
    rw [if_neg (by decide), if_neg (by decide)]
    decide
  have := p_get_t (by rw [h1, t1]; omega) (by rw [h2, t2]; omega) hp
  rw [this, show pIx 0 7 = 56 by decide, (h5 56 (Or.inr (Or.inr rfl))).1]
theorem s_B93 {tx : Option (List lw_Ln)} {w : qW} {mn st : Nat} {N : Nat → Nat} (hL : lSt tx w) (hP : PC mn st N w) (kind arms man steps acr : Int32) {h : Nat} (hh : h < 12) : rto (f_X5_cast_B93 w kind arms man (nI h) steps acr) (svT tx (nI (N 56)) kind arms man (nI h) steps acr) w := by
  have th : (nI h).toInt = (h : Int) := nI_toInt (by omega)
  have ea : (if 0 ≤ acr then acr else 0 - acr) = svA acr := by
    unfold svA
    rw [Int32.zero_sub]
  unfold f_X5_cast_B93 svT
  rw [z_bn, ea]
  by_cases h1 : steps < 1
  · rw [if_pos h1, if_pos h1]; exact ⟨w, rfl, fr0_rf w⟩
  · rw [if_neg h1, if_neg h1, z_ld _ _ _ _ (by rw [th]; show 0 ≤ (h : Int) ∧ (h : Int) < 12; omega)]
    have e1 : (if kind = 2 then f_X5_cast_B122 w kind arms man (nI h) steps (svA acr) 1 (q_T 3 (nI h).toInt.toNat) steps else f_X5_cast_B122 w kind arms man (nI h) steps (svA acr) 0 (q_T 3 (nI h).toInt.toNat) steps) = f_X5_cast_B122 w kind arms man (nI h) steps (svA acr) (if kind = 2 then 1 else 0) (q_T 3 (nI h).toInt.toNat) steps := by
      by_cases hk : kind = 2
      · rw [if_pos hk, if_pos hk]
      · rw [if_neg hk, if_neg hk]
    rw [e1]
    unfold f_X5_cast_B122
    by_cases h2 : q_T 3 (nI h).toInt.toNat + (if kind = 2 then 1 else 0) < steps
    · rw [if_pos h2, if_pos h2]; exact ⟨w, rfl, fr0_rf w⟩
    · rw [if_neg h2, if_neg h2]
      by_cases h3 : svA acr ≤ arms
      · rw [if_pos h3, if_pos h3, p_getb hP, z_cl, z_bn]
        unfold f_X3_isTold
        rw [z_cl]
        cases tx with
        | none =>
          rcases hL with ⟨q1, q2, q3⟩ | ⟨lns, n, L, W, q1, q2⟩
          · rw [q1, a00, if_pos rfl, clamp_c]
            exact ⟨w, rfl, fr0_rf w⟩
          · exact absurd q1 (by simp)
        | some lns =>
          have q2 : q_I w 3 7 = 1 := by
            rcases hL with ⟨q1, q2, q3⟩ | ⟨lns, n, L, W, q1, q2, -⟩
            · exact absurd q3 (by simp)
            · exact q2
          obtain ⟨w2, e2, f2⟩ := k_value hL kind steps (svA acr) (nI (N 56)) (nI h) man
          rw [q2, a10, if_neg (by decide), e2, z_cl, clamp_c]
          exact ⟨w2, rfl, f2⟩
      · rw [if_neg h3, if_neg h3]; exact ⟨w, rfl, fr0_rf w⟩
theorem s_cast {tx : Option (List lw_Ln)} {w : qW} {mn st : Nat} {N : Nat → Nat} (hL : lSt tx w) (hP : PC mn st N w) (src kind arms man cell : Int32) {h : Nat} (hh : h < 12) : rto (f_X5_cast w src kind arms man cell (nI h)) (sv32 tx (nI (N 56)) src kind arms man cell (nI h)) w := by
  have th : (nI h).toInt = (h : Int) := nI_toInt (by omega)
  unfold f_X5_cast sv32
  rw [p_isHour, z_cl, th, decide_eq_true (show 0 ≤ (h : Int) by omega), decide_eq_true (show (h : Int) < 12 by omega), if_neg (by decide), z_bn, z_bn]
  by_cases h4 : nI h < 4
  · have h4n : ¬ 4 ≤ nI h := by rw [z_le]; rw [z_lt] at h4; omega
    rw [if_pos h4, if_pos h4]
    unfold f_X5_cast_B51 f_X5_cast_B52 f_X5_cast_B79
    rw [if_pos rfl, if_neg h4n, if_pos rfl]
    exact s_B93 hL hP kind arms man _ _ hh
  · have h4n : 4 ≤ nI h := by rw [z_le]; rw [z_lt] at h4; omega
    rw [if_neg h4, if_neg h4]
    by_cases h8 : 8 ≤ nI h
    · rw [if_pos h8, if_pos h8]
      unfold f_X5_cast_B51 f_X5_cast_B52 f_X5_cast_B79
      rw [if_pos rfl, if_pos h4n, if_pos rfl]
      exact s_B93 hL hP kind arms man _ _ hh
    · rw [if_neg h8, if_neg h8]
      unfold f_X5_cast_B52 f_X5_cast_B79
      rw [if_neg (by decide), if_neg (by decide)]
      exact s_B93 hL hP kind arms man _ _ hh
theorem m_long (w : qW) : ∀ h : Nat, h < 12 → f_X11_longAt w (nI h) = some (q_T 3 h, w)
  | 0, _ => rfl
  | 1, _ => rfl
  | 2, _ => rfl
  | 3, _ => rfl
  | 4, _ => rfl
  | 5, _ => rfl
  | 6, _ => rfl
  | 7, _ => rfl
  | 8, _ => rfl
  | 9, _ => rfl
  | 10, _ => rfl
  | 11, _ => rfl
  | h + 12, q => absurd q (by omega)
theorem m_clamp (w : qW) (v : Int32) : f_X11_shadeBy_B250 w v = some (clamp v, w) := by
  unfold f_X11_shadeBy_B250 clamp
  by_cases h1 : 0 ≤ v
  · rw [if_pos h1, if_pos h1]
    by_cases h2 : v ≤ 12
    · rw [if_pos h2, if_pos h2]
    · rw [if_neg h2, if_neg h2]
  · rw [if_neg h1, if_neg h1]
theorem ld_lit {α β : Type} (f : Nat → α) (n k : Nat) (c : α → Option β) (h : k < n) (hn : k < 1000) : q_ld f n (nI k) c = c (f k) := by
  rw [z_ld _ _ _ _ (by rw [nI_toInt (by omega)]; omega), nI_toInt (by omega)]
  rfl
theorem m_B92 {tx : Option (List lw_Ln)} {w : qW} {mn mk st : Nat} {N : Nat → Nat} (hL : lSt tx w) (hP : PM mn mk st N w) {m h : Nat} (hm : m < mk) (hh : h < 12) (steps acr : Int32) : rto (f_X11_shadeBy_B92 w (nI m) (nI h) steps (svA acr)) (svT tx (nI (N 56)) (nI (N (8 + m))) (nI (N (16 + m))) (nI m) (nI h) steps acr) w := by
  obtain ⟨p1, p2, p3, p4, p5, p6⟩ := id hP
  have th : (nI h).toInt = (h : Int) := nI_toInt (by omega)
  have a8 : q_A w 49 (8 + m) = nI (N (8 + m)) := (p6 (8 + m) (Or.inl ⟨by omega, by omega⟩)).1
  have a16 : q_A w 49 (16 + m) = nI (N (16 + m)) := (p6 (16 + m) (Or.inl ⟨by omega, by omega⟩)).1
  have a56 : q_A w 49 56 = nI (N 56) := (p6 56 (Or.inr (Or.inr (Or.inl rfl)))).1
  have n8 : (8 : Int32) + nI m = nI (8 + m) := nI_add 8 m
  have n16 : (16 : Int32) + nI m = nI (16 + m) := nI_add 16 m
  unfold f_X11_shadeBy_B92 svT
  by_cases h1 : steps < 1
  · rw [if_pos h1, if_pos h1]; exact ⟨w, rfl, fr0_rf w⟩
  · rw [if_neg h1, if_neg h1, m_long w h hh, z_cl, n8, ld_lit _ _ _ _ (by omega) (by omega), a8, show (nI h).toInt.toNat = h by rw [th]; omega]
    have e1 : (if nI (N (8 + m)) = 2 then f_X11_shadeBy_B124 w (nI m) (nI h) steps (svA acr) 1 (q_T 3 h) steps else f_X11_shadeBy_B124 w (nI m) (nI h) steps (svA acr) 0 (q_T 3 h) steps) = f_X11_shadeBy_B124 w (nI m) (nI h) steps (svA acr) (if nI (N (8 + m)) = 2 then 1 else 0) (q_T 3 h) steps := by
      by_cases hk : nI (N (8 + m)) = 2
      · rw [if_pos hk, if_pos hk]
      · rw [if_neg hk, if_neg hk]
    rw [e1]
    unfold f_X11_shadeBy_B124
    by_cases h2 : q_T 3 h + (if nI (N (8 + m)) = 2 then 1 else 0) < steps
    · rw [if_pos h2, if_pos h2]; exact ⟨w, rfl, fr0_rf w⟩
    · rw [if_neg h2, if_neg h2, n16, ld_lit _ _ _ _ (by omega) (by omega), a16]
      by_cases h3 : svA acr ≤ nI (N (16 + m))
      · rw [if_pos h3, if_pos h3, n8, ld_lit _ _ _ _ (by omega) (by omega), a8, show (56 : Int32) = nI 56 from rfl, ld_lit _ _ _ _ (by omega) (by omega), a56, z_bn]
        cases tx with
        | none =>
          rcases hL with ⟨q1, q2, q3⟩ | ⟨lns, n, L, W, q1, q2⟩
          · rw [q2, if_pos (by decide), m_clamp]
            exact ⟨w, rfl, fr0_rf w⟩
          · exact absurd q1 (by simp)
        | some lns =>
          have q2 : ¬ q_I w 48 11 < 0 := by
            rcases hL with ⟨q1, q2, q3⟩ | ⟨lns, n, L, W, q1, q2, q3, q4, q5, q6, q7, q8, -⟩
            · exact absurd q3 (by simp)
            · rw [q7]; exact nI_pos (by omega)
          rw [if_neg q2, ld_lit _ _ _ _ (by omega) (by omega), a8]
          rw [show (q_st w 55 6 0 (nI (N (8 + m)))) = q_st w 55 6 (nI 0) (nI (N (8 + m))) (β := Int32 × qW) from rfl, st_lit w 55 6 0 _ _ (by omega) (by omega)]
          rw [show (1 : Int32) = nI 1 from rfl, st_lit _ 55 6 1 _ _ (by omega) (by omega)]
          rw [show (2 : Int32) = nI 2 from rfl, st_lit _ 55 6 2 _ _ (by omega) (by omega)]
          rw [ld_lit _ _ _ _ (by omega) (by omega)]
          rw [show (3 : Int32) = nI 3 from rfl, st_lit _ 55 6 3 _ _ (by omega) (by omega)]
          rw [show (4 : Int32) = nI 4 from rfl, st_lit _ 55 6 4 _ _ (by omega) (by omega)]
          rw [show (5 : Int32) = nI 5 from rfl, st_lit _ 55 6 5 _ _ (by omega) (by omega)]
          simp only [sA_two, g_AA, if_true]
          rw [if_neg (show ¬ 49 = 55 by omega), a56]
          generalize hX : upd (upd (upd (upd (upd (upd (q_A w 55) 0 (nI (N (8 + m)))) 1 steps) 2 (svA acr)) 3 (nI (N 56))) 4 (nI h)) 5 (nI m) = X
          have hf : fr0 w (q_sA w 55 X) := ⟨rfl, rfl, fun _ _ _ => rfl, fun o _ _ h5 => by rw [g_AA, if_neg h5]⟩
          obtain ⟨w2, e2, f2⟩ := m_value (lSt_fr hf hL) (nI (N (8 + m))) steps (svA acr) (nI (N 56)) (nI h) (nI m) (by rw [g_AA, if_pos rfl, ← hX]; exact nm6_upd _ _ _ _ _ _ _)
          rw [e2, z_cl, m_clamp]
          exact ⟨w2, rfl, fr0_tr hf f2⟩
      · rw [if_neg h3, if_neg h3]; exact ⟨w, rfl, fr0_rf w⟩
theorem m_shadeBy {tx : Option (List lw_Ln)} {w : qW} {mn mk st : Nat} {N : Nat → Nat} (hL : lSt tx w) (hP : PM mn mk st N w) {m h : Nat} (hm : m < mk) (hh : h < 12) (cell : Int32) : rto (f_X11_shadeBy w (nI m) cell (nI h)) (sv32 tx (nI (N 56)) (nI (N m)) (nI (N (8 + m))) (nI (N (16 + m))) (nI m) cell (nI h)) w := by
  obtain ⟨p1, p2, p3, p4, p5, p6⟩ := id hP
  have a0 : q_A w 49 m = nI (N m) := (p6 m (Or.inl ⟨by omega, by omega⟩)).1
  have hA : ∀ (l6 s0 : Int32), f_X11_shadeBy_B77 w (nI m) (nI h) l6 s0 = f_X11_shadeBy_B92 w (nI m) (nI h) l6 (svA s0) := by
    intro l6 s0
    unfold f_X11_shadeBy_B77 svA
    by_cases hs : 0 ≤ s0
    · rw [if_pos hs, if_pos hs]
    · rw [if_neg hs, if_neg hs]
  unfold f_X11_shadeBy sv32
  rw [ld_lit _ _ _ _ (by omega) (by omega), a0, z_bn, ld_lit _ _ _ _ (by omega) (by omega), a0, z_bn]
  by_cases h4 : nI h < 4
  · have h4n : ¬ 4 ≤ nI h := by rw [z_le]; rw [z_lt] at h4; omega
    rw [if_neg h4n, if_pos h4]
    unfold f_X11_shadeBy_B57 f_X11_shadeBy_B75
    rw [if_pos h4, hA]
    exact m_B92 hL hP hm hh _ _
  · have h4n : 4 ≤ nI h := by rw [z_le]; rw [z_lt] at h4; omega
    rw [if_pos h4n, if_neg h4]
    by_cases h8 : 8 ≤ nI h
    · rw [if_pos h8, if_pos h8]
      unfold f_X11_shadeBy_B57 f_X11_shadeBy_B75
      rw [if_neg h4, if_pos h8, hA]
      exact m_B92 hL hP hm hh _ _
    · rw [if_neg h8, if_neg h8]
      unfold f_X11_shadeBy_B57
      rw [if_neg h4, if_neg h8, hA]
      exact m_B92 hL hP hm hh _ _
