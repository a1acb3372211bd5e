/-! the law's text: the model's lines; the frame of what the calls may change; law itself -/
theorem m_line {w : qW} {L : Nat} {T : Nat → Int32} {c : Nat → Int} {nm : Nat → Int32} (h : vB w L T) (hcd : lw_chr T (L : Int) = c) (hcL : ∀ q, 0 ≤ c q → q < L) (hnm : q_A w 55 = nm) (F p : Nat) (g : Bool) (u : Int32) (hp : p ≤ L) : ((lw_line c p).1 = false → ∃ l3 l4 op2, f_X11_workOut_R33 (F + 1) (vW w p (nI 0) (-1)) (b2i g) u 1 = f_X11_workOut_B96 (f_X11_workOut_R33 F) (vW w (lw_line c p).2.1 op2 (nI (lw_line c p).2.1)) l3 l4) ∧ ((lw_line c p).1 = true → ∃ (g2 : Bool) (u2 : Int32), f_X11_workOut_R33 (F + 1) (vW w p (nI 0) (-1)) (b2i g) u 1 = f_X11_workOut_B96 (f_X11_workOut_R33 F) (vW w (lw_line c p).2.1 (nI 0) (-1)) (b2i g2) u2 ∧ (g2 = false → u2 = u ∧ g = false) ∧ ∀ lns, (if g2 = true then u2 else lw_ev nm lns) = (if g = true then u else lw_ev nm ((lw_line c p).2.2 :: lns))) := by
  have hL := h.2.1
  have e0 : f_X11_workOut_R33 (F + 1) (vW w p (nI 0) (-1)) (b2i g) u 1 = f_X11_workOut_B33 (f_X11_workOut_R33 F) (vW w p (nI 0) (-1)) (b2i g) u 1 := rfl
  rw [e0]
  obtain ⟨v, op2, e1, e2⟩ := (m_parse h hcd hcL hnm lw_F).2.1 0 0 p q_rfuel (by omega) (by omega) hp (by show _ ≤ 2000; omega) (by show _ ≤ 100; omega)
  have s1 := sp_ok hcL lw_F 0 0 0 p (by omega) (by omega) hp
  unfold f_X11_workOut_B33 lw_line
  rw [if_neg (by decide), show f_X11_either (vW w p (nI 0) (-1)) = _ from e1, z_cl]
  rcases es : lw_sp c lw_F 0 0 0 p with ⟨ok, p2, cd⟩
  rw [es] at e2 s1
  have s2 : p2 ≤ L := s1.2.1
  cases ok
  · refine ⟨fun _ => ?_, fun ht => no_ft ht⟩
    show ∃ l3 l4 op2_1, q_cl (f_X11_takes (vW w p2 op2 (nI p2)) 63) _ = f_X11_workOut_B96 _ (vW w p2 op2_1 (nI p2)) l3 l4
    rw [v_takes_f (by omega), z_cl, if_pos rfl]
    unfold f_X11_workOut_B74
    rw [if_pos (v_ft (by omega))]
    exact ⟨_, _, _, rfl⟩
  · obtain ⟨e3, e4⟩ := e2 rfl
    subst e3
    have e4 : lw_W nm cd v := e4
    show ((if c p2 = 63 then _ else (true, p2, (none, cd))).1 = false → ∃ l3 l4 op2, q_cl (f_X11_takes (vW w p2 (nI 0) (-1)) 63) _ = _) ∧ (_ → ∃ g2 u2, q_cl (f_X11_takes (vW w p2 (nI 0) (-1)) 63) _ = _ ∧ _)
    by_cases hq : c p2 = 63
    · have hp2 := hcL p2 (by omega)
      rw [v_takes_y h hcd s2 _ 63 (by decide) hq, z_cl]
      simp only [if_pos hq]
      rw [if_neg (show ¬ (1 : Int32) = 0 by decide)]
      obtain ⟨v2, op3, k1, k2⟩ := (m_parse h hcd hcL hnm lw_F).2.1 0 0 (p2 + 1) q_rfuel (by omega) (by omega) (by omega) (by show _ ≤ 2000; omega) (by show _ ≤ 100; omega)
      have t1 := sp_ok hcL lw_F 0 0 0 (p2 + 1) (by omega) (by omega) (by omega)
      have eB : (if v = 0 then f_X11_workOut_B66 (f_X11_workOut_R33 F) (vW w (p2 + 1) (nI 0) (-1)) (b2i g) u 0 else f_X11_workOut_B66 (f_X11_workOut_R33 F) (vW w (p2 + 1) (nI 0) (-1)) (b2i g) u 1) = f_X11_workOut_B66 (f_X11_workOut_R33 F) (vW w (p2 + 1) (nI 0) (-1)) (b2i g) u (if v = 0 then 0 else 1) := by
        by_cases hv : v = 0
        · rw [if_pos hv, if_pos hv]
        · rw [if_neg hv, if_neg hv]
      rw [eB]
      unfold f_X11_workOut_B66
      rw [show f_X11_either (vW w (p2 + 1) (nI 0) (-1)) = _ from k1, z_cl]
      rcases es2 : lw_sp c lw_F 0 0 0 (p2 + 1) with ⟨ok2, p3, cd2⟩
      rw [es2] at k2 t1
      have t2 : p3 ≤ L := t1.2.1
      cases ok2
      · refine ⟨fun _ => ?_, fun ht => no_ft ht⟩
        show ∃ l3 l4 op2_1, f_X11_workOut_B74 (f_X11_workOut_R33 F) (vW w p3 op3 (nI p3)) _ _ _ _ = f_X11_workOut_B96 _ (vW w p3 op2_1 (nI p3)) l3 l4
        unfold f_X11_workOut_B74
        rw [if_pos (v_ft (by omega))]
        exact ⟨_, _, _, rfl⟩
      · obtain ⟨k3, k4⟩ := k2 rfl
        subst k3
        have k4 : lw_W nm cd2 v2 := k4
        refine ⟨fun ht => no_ft (Eq.symm ht), fun _ => ?_⟩
        show ∃ g2 u2, f_X11_workOut_B74 (f_X11_workOut_R33 F) (vW w p3 (nI 0) (-1)) (b2i g) u v2 (if v = 0 then 0 else 1) = f_X11_workOut_B96 _ (vW w p3 (nI 0) (-1)) (b2i g2) u2 ∧ (g2 = false → u2 = u ∧ g = false) ∧ ∀ lns, (if g2 = true then u2 else lw_ev nm lns) = (if g = true then u else (if lw_val nm cd = 0 then lw_ev nm lns else lw_val nm cd2))
        rw [W_val e4, W_val k4]
        unfold f_X11_workOut_B74
        rw [if_neg (v_nf w p3 (nI 0))]
        by_cases hv : v = 0
        · rw [if_pos hv, if_pos rfl]
          exact ⟨g, u, rfl, fun e => ⟨rfl, e⟩, fun lns => by rw [if_pos hv]⟩
        · rw [if_neg hv, if_neg (by decide)]
          cases g
          · rw [if_pos bz]
            exact ⟨true, v2, rfl, fun e => absurd e (by decide), fun lns => by rw [if_neg hv]; rfl⟩
          · rw [if_neg bnz]
            exact ⟨true, u, rfl, fun e => absurd e (by decide), fun lns => rfl⟩
    · rw [v_takes_n h hcd s2 _ 63 (by decide) hq, z_cl, if_pos rfl]
      simp only [if_neg hq]
      refine ⟨fun ht => no_ft (Eq.symm ht), fun _ => ?_⟩
      show ∃ g2 u2, f_X11_workOut_B74 (f_X11_workOut_R33 F) (vW w p2 (nI 0) (-1)) (b2i g) u v 1 = f_X11_workOut_B96 _ (vW w p2 (nI 0) (-1)) (b2i g2) u2 ∧ (g2 = false → u2 = u ∧ g = false) ∧ ∀ lns, (if g2 = true then u2 else lw_ev nm lns) = (if g = true then u else lw_val nm cd)
      rw [W_val e4]
      unfold f_X11_workOut_B74
      rw [if_neg (v_nf w p2 (nI 0)), if_neg (by decide)]
      cases g
      · rw [if_pos bz]
        exact ⟨true, v, rfl, fun e => absurd e (by decide), fun lns => rfl⟩
      · rw [if_neg bnz]
        exact ⟨true, u, rfl, fun e => absurd e (by decide), fun lns => rfl⟩
theorem m_text {w : qW} {L : Nat} {T : Nat → Int32} {c : Nat → Int} {nm : Nat → Int32} (h : vB w L T) (hcd : lw_chr T (L : Int) = c) (hcL : ∀ q, 0 ≤ c q → q < L) (hcN : ∀ q, c q = -1 ∧ L ≤ q ∨ 0 ≤ c q) (hnm : q_A w 55 = nm) : ∀ (f F p : Nat) (g : Bool) (u : Int32), p ≤ L → L + 1 ≤ f + p → f + 1 ≤ F → (g = false → u = 0) → (lw_text c f p).2.1 ≤ L ∧ ∃ v op2, f_X11_workOut_R33 F (vW w p (nI 0) (-1)) (b2i g) u 1 = some (v, vW w (lw_text c f p).2.1 op2 (if (lw_text c f p).1 = true then -1 else nI (lw_text c f p).2.1)) ∧ ((lw_text c f p).1 = true → v = if g = true then u else lw_ev nm (lw_text c f p).2.2)
  | 0, F, p, g, u, hp, hf, hF, hu => by omega
  | f + 1, 0, p, g, u, hp, hf, hF, hu => by omega
  | f + 1, 1, p, g, u, hp, hf, hF, hu => by omega
  | f + 1, F + 2, p, g, u, hp, hf, hF, hu => by
    have hL := h.2.1
    obtain ⟨m1, m2⟩ := m_line h hcd hcL hnm (F + 1) p g u hp
    have s1 := line_ok hcL hp
    unfold lw_text
    rcases e : lw_line c p with ⟨ok, p2, ln⟩
    rw [e] at m1 m2 s1
    have s2 : p2 ≤ L := s1.1
    cases ok
    · obtain ⟨l3, l4, op2, k1⟩ := m1 rfl
      refine ⟨s2, l4, op2, ?_, fun ht => no_ft ht⟩
      rw [show F + 2 = F + 1 + 1 from rfl, k1]
      unfold f_X11_workOut_B96
      show q_cl (f_X11_takes (vW w p2 op2 (nI p2)) 59) _ = some (l4, vW w p2 op2 (nI p2))
      rw [v_takes_f (by omega), z_cl]
      show f_X11_workOut_B33 (f_X11_workOut_R33 F) (vW w p2 op2 (nI p2)) l3 l4 0 = _
      unfold f_X11_workOut_B33
      rw [if_pos rfl, if_pos (v_ft (by omega))]
    · have s3 : p < p2 := s1.2.2 rfl
      obtain ⟨g2, u2, k1, k2, k3⟩ := m2 rfl
      have k1 : f_X11_workOut_R33 (F + 1 + 1) (vW w p (nI 0) (-1)) (b2i g) u 1 = f_X11_workOut_B96 (f_X11_workOut_R33 (F + 1)) (vW w p2 (nI 0) (-1)) (b2i g2) u2 := k1
      have k3 : ∀ lns, (if g2 = true then u2 else lw_ev nm lns) = (if g = true then u else lw_ev nm (ln :: lns)) := k3
      have hu2 : g2 = false → u2 = 0 := fun e => by rw [(k2 e).1]; exact hu (k2 e).2
      rw [show F + 2 = F + 1 + 1 from rfl, k1]
      unfold f_X11_workOut_B96
      show (if c p2 = -1 then (true, p2, [ln]) else _).2.1 ≤ L ∧ _
      have i14 : q_I (vW w p2 (nI 0) (-1)) 48 14 = nI L := h.1
      have i13 : q_I (vW w p2 (nI 0) (-1)) 48 13 = nI p2 := rfl
      rcases hcN p2 with ⟨hq, hq2⟩ | hq
      · simp only [if_pos hq]
        refine ⟨s2, u2, nI 0, ?_, fun _ => ?_⟩
        · rw [v_takes_n h hcd s2 _ 59 (by decide) (by rw [hq]; decide), z_cl]
          show f_X11_workOut_B33 (f_X11_workOut_R33 F) (vW w p2 (nI 0) (-1)) _ _ 0 = _
          unfold f_X11_workOut_B33
          rw [if_pos rfl, if_neg (v_nf w p2 (nI 0)), i14, i13, if_pos (nI_le (by omega) (by omega))]
          rfl
        · show u2 = if g = true then u else lw_ev nm [ln]
          rw [← k3]
          cases g2
          · exact hu2 rfl
          · rfl
      · have hq1 : ¬ c p2 = -1 := by omega
        have hp2 := hcL p2 hq
        simp only [if_neg hq1]
        by_cases h59 : c p2 = 59
        · simp only [if_pos h59]
          rw [v_takes_y h hcd s2 _ 59 (by decide) h59, z_cl]
          obtain ⟨i1, v, op2, i2, i3⟩ := m_text h hcd hcL hcN hnm f (F + 1) (p2 + 1) g2 u2 (by omega) (by omega) (by omega) hu2
          refine ⟨i1, v, op2, i2, fun ht => ?_⟩
          rw [i3 ht, k3]
        · simp only [if_neg h59]
          refine ⟨s2, 0, nI 0, ?_, fun ht => no_ft ht⟩
          rw [v_takes_n h hcd s2 _ 59 (by decide) h59, z_cl]
          show f_X11_workOut_B33 (f_X11_workOut_R33 F) (vW w p2 (nI 0) (-1)) _ _ 0 = _
          unfold f_X11_workOut_B33
          rw [if_pos rfl, if_neg (v_nf w p2 (nI 0)), i14, i13, if_neg (nI_ge (by omega) (by omega)), v_wrong, z_cl]
          rfl
theorem m_work {w : qW} {L : Nat} {T : Nat → Int32} {c : Nat → Int} (a : Int32) (hL : L ≤ 120) (ha : (a = 0 ∧ q_A w 54 = T) ∨ (a = -1 ∧ q_A w 53 = T)) (hcd : lw_chr T (L : Int) = c) (hT : ∀ j : Nat, (j : Int) < (L : Int) → 0 ≤ (T j).toInt) : (lw_text c 200 0).2.1 ≤ L ∧ ∃ v op2, f_X11_workOut w a (nI L) = some (v, vW (q_sI (q_sI w 48 12 a) 48 14 (nI L)) (lw_text c 200 0).2.1 op2 (if (lw_text c 200 0).1 = true then -1 else nI (lw_text c 200 0).2.1)) ∧ ((lw_text c 200 0).1 = true → v = lw_ev (q_A w 55) (lw_text c 200 0).2.2) := by
  have h : vB (q_sI (q_sI w 48 12 a) 48 14 (nI L)) L T := by
    refine ⟨rfl, hL, ?_⟩
    rcases ha with ⟨e1, e2⟩ | ⟨e1, e2⟩
    · exact Or.inl ⟨e1, e2⟩
    · exact Or.inr ⟨e1, e2⟩
  have hcL : ∀ q, 0 ≤ c q → q < L := by
    intro q hq
    rw [← hcd] at hq
    unfold lw_chr at hq
    by_cases hh : (q : Int) < (L : Int)
    · omega
    · rw [if_neg hh] at hq; omega
  have hcN : ∀ q, c q = -1 ∧ L ≤ q ∨ 0 ≤ c q := by
    intro q
    rw [← hcd]
    unfold lw_chr
    by_cases hh : (q : Int) < (L : Int)
    · rw [if_pos hh]; exact Or.inr (hT q hh)
    · rw [if_neg hh]; exact Or.inl ⟨rfl, by omega⟩
  have := m_text h hcd hcL hcN (nm := q_A w 55) rfl 200 q_fuel 0 false 0 (by omega) (by omega) (by rw [q_fuel_eq]; omega) (fun _ => rfl)
  obtain ⟨h1, v, op2, h2, h3⟩ := this
  refine ⟨h1, v, op2, ?_, fun ht => h3 ht⟩
  rw [← h2]
  unfold f_X11_workOut
  simp only [z_bn]
  have e : q_sI (q_sI (q_sI (q_sI (q_sI w 48 12 a) 48 13 0) 48 14 (nI L)) 48 15 (-1)) 48 16 0 = vW (q_sI (q_sI w 48 12 a) 48 14 (nI L)) 0 (nI 0) (-1) := by
    refine W_ext ?_ rfl rfl rfl
    funext o k
    unfold vW
    simp only [g_II, nI_0]
    by_cases h16 : o = 48 ∧ k = 16
    · have h15 : ¬ (o = 48 ∧ k = 15) := by omega
      simp only [if_pos h16, if_neg h15]
    · by_cases h14 : o = 48 ∧ k = 14
      · have h13 : ¬ (o = 48 ∧ k = 13) := by omega
        simp only [if_pos h14, if_neg h13, if_neg h16]
      · simp only [if_neg h16, if_neg h14]
  rw [e]
  rfl
/-- what the calls that only ask may change: the law's cells, the scratch arrays, the model's reading places -/
def scr (o : Nat) : Prop := (5 ≤ o ∧ o ≤ 8) ∨ (11 ≤ o ∧ o ≤ 15) ∨ (17 ≤ o ∧ o ≤ 23) ∨ o = 54 ∨ o = 55
theorem Jn_fr {w w2 : qW} (hJ : Jn w) (hI : ∀ o k, o ≠ 3 → o ≠ 16 → ¬ (o = 48 ∧ 9 ≤ k ∧ k ≤ 16) → q_I w2 o k = q_I w o k) (hA : ∀ o, ¬ scr o → o ≠ 4 → o ≠ 53 → q_A w2 o = q_A w o) (hG : q_G w2 = q_G w) (hL : jL w2) (hR : jR w2) : Jn w2 := by
  obtain ⟨gP, gC, gD, gT, gS, -, -⟩ := hJ
  have A : ∀ o, ¬ ((5 ≤ o ∧ o ≤ 8) ∨ (11 ≤ o ∧ o ≤ 15) ∨ (17 ≤ o ∧ o ≤ 23) ∨ o = 54 ∨ o = 55) → o ≠ 4 → o ≠ 53 → q_A w2 o = q_A w o := hA
  refine ⟨?_, ?_, ?_, ?_, ?_, hL, hR⟩
  · unfold jP
    rw [hI 1 1 (by omega) (by omega) (by omega), hI 1 2 (by omega) (by omega) (by omega), hI 48 6 (by omega) (by omega) (by omega), hI 48 7 (by omega) (by omega) (by omega), A 2 (by omega) (by omega) (by omega), A 49 (by omega) (by omega) (by omega)]
    exact gP
  · unfold jC
    rw [hI 1 1 (by omega) (by omega) (by omega), hI 1 2 (by omega) (by omega) (by omega), hI 24 2 (by omega) (by omega) (by omega), hI 24 3 (by omega) (by omega) (by omega), hI 48 5 (by omega) (by omega) (by omega), hI 48 4 (by omega) (by omega) (by omega), A 25 (by omega) (by omega) (by omega), A 50 (by omega) (by omega) (by omega), A 51 (by omega) (by omega) (by omega), A 52 (by omega) (by omega) (by omega)]
    exact gC
  · unfold jD
    rw [hI 1 1 (by omega) (by omega) (by omega), hI 1 2 (by omega) (by omega) (by omega), hI 26 2 (by omega) (by omega) (by omega), hI 26 3 (by omega) (by omega) (by omega), hI 26 4 (by omega) (by omega) (by omega), hI 48 20 (by omega) (by omega) (by omega), hI 48 21 (by omega) (by omega) (by omega), hI 48 22 (by omega) (by omega) (by omega), hI 48 18 (by omega) (by omega) (by omega), hI 48 23 (by omega) (by omega) (by omega), A 27 (by omega) (by omega) (by omega), A 28 (by omega) (by omega) (by omega), A 29 (by omega) (by omega) (by omega), A 30 (by omega) (by omega) (by omega), A 31 (by omega) (by omega) (by omega), A 56 (by omega) (by omega) (by omega), A 57 (by omega) (by omega) (by omega), A 58 (by omega) (by omega) (by omega), A 59 (by omega) (by omega) (by omega), A 60 (by omega) (by omega) (by omega)]
    exact gD
  · unfold jT
    rw [hI 32 1 (by omega) (by omega) (by omega), hI 32 3 (by omega) (by omega) (by omega), hI 48 28 (by omega) (by omega) (by omega), hI 48 31 (by omega) (by omega) (by omega), A 33 (by omega) (by omega) (by omega), A 34 (by omega) (by omega) (by omega), A 61 (by omega) (by omega) (by omega), A 62 (by omega) (by omega) (by omega)]
    exact gT
  · refine jS_of (fun d hd => ?_)
    have := jS_at gS d hd
    unfold jSd at this ⊢
    rw [hI 32 1 (by omega) (by omega) (by omega), hI (36 + 2 * d) 0 (by omega) (by omega) (by omega), hI (36 + 2 * d) 1 (by omega) (by omega) (by omega), hI (36 + 2 * d) 2 (by omega) (by omega) (by omega), A 63 (by omega) (by omega) (by omega), A 64 (by omega) (by omega) (by omega), hG]
    exact this
theorem m_copy {n : Nat} (hn : n ≤ 120) : ∀ (k F i : Nat) (w : qW), i + k = n → k < F → f_X11_law_R37 F w (nI n) (nI i) = some (1, q_sI (q_sA w 54 (fil (q_A w 53) (q_A w 54) i n)) 48 11 (nI n))
  | 0, F + 1, i, w, h1, _ => by
    show f_X11_law_B37 (f_X11_law_R37 F) w (nI n) (nI i) = _
    unfold f_X11_law_B37
    rw [if_pos (nI_le (by omega) (by omega)), z_bn, fil_stop (by omega), sA_self]
  | k + 1, F + 1, i, w, h1, h2 => by
    show f_X11_law_B37 (f_X11_law_R37 F) w (nI n) (nI i) = _
    have t0 : (nI i).toInt = (i : Int) := nI_toInt (by omega)
    unfold f_X11_law_B37
    rw [if_neg (nI_ge (by omega) (by omega)), z_ld _ _ _ _ (by rw [t0]; omega), z_st _ _ _ _ _ _ (by rw [t0]; omega), z_bn, nI_1, m_copy hn k F (i + 1) _ (by omega) (by omega), t0]
    have e : q_A (q_sA w 54 (upd (q_A w 54) ((i : Int)).toNat (q_A w 53 ((i : Int)).toNat))) 53 = q_A w 53 := rfl
    have e2 : q_A (q_sA w 54 (upd (q_A w 54) ((i : Int)).toNat (q_A w 53 ((i : Int)).toNat))) 54 = upd (q_A w 54) i (q_A w 53 i) := rfl
    rw [e, e2, sA_two, fil_step (by omega)]
theorem p_law : j_law := by
  intro w hJ
  obtain ⟨hP, hC, hD, hT, hS, hL, hR⟩ := id hJ
  obtain ⟨⟨f0, f1⟩, f2, f3, f4, f5, f6⟩ := id hL
  show ∃ r w1 w2, f_X10_law w = some (r, w1) ∧ f_X11_law w1 = some (r, w2) ∧ Jn w2
  obtain ⟨L, hLd⟩ : ∃ L, L = (q_I w 3 1).toInt.toNat := ⟨_, rfl⟩
  have fL : q_I w 3 1 = nI L := by rw [hLd]; exact z_nI _ f0
  have fL2 : (q_I w 3 1).toInt = (L : Int) := by omega
  have hL120 : L ≤ 120 := by omega
  have r56 : q_R w 3 5 = 5 ∨ q_R w 3 5 = 6 := by omega
  have r36 : q_R w 3 3 = 5 ∨ q_R w 3 3 = 6 := by omega
  have hB : pB w L := ⟨fL, hL120, r56⟩
  obtain ⟨c, hcd⟩ : ∃ c, lw_chr (q_A w 4) (L : Int) = c := ⟨_, rfl⟩
  have hcL : ∀ q, 0 ≤ c q → q < L := by
    intro q hq
    rw [← hcd] at hq
    unfold lw_chr at hq
    by_cases hh : (q : Int) < (L : Int)
    · omega
    · rw [if_neg hh] at hq; omega
  have hcN : ∀ q, c q = -1 ∨ 0 ≤ c q := by
    intro q
    rw [← hcd]
    unfold lw_chr
    by_cases hh : (q : Int) < (L : Int)
    · rw [if_pos hh]; exact Or.inr (f4 q (by omega)).1
    · rw [if_neg hh]; exact Or.inl rfl
  obtain ⟨d2, D2, g1, g2, g3, g4⟩ := l_text hB hcd hcL hcN 200 q_fuel 0 0 0 (q_A w (q_R w 3 5)) (by omega) (by omega) (by omega) (by omega) (by rw [q_fuel_eq]; omega)
  have eT : f_X3_readText (q_sI (q_sI w 3 2 0) 3 6 0) = some (b2i (lw_text c 200 0).1, pW w (lw_text c 200 0).2.1 d2 D2) := by
    unfold f_X3_readText
    rw [← g2]
    unfold pW
    rw [sA_self, nI_0]
  have hw : ∀ w1 : qW, q_I w1 48 9 = nI L → q_A w1 53 = q_A w 4 → (lw_text c 200 0).2.1 ≤ L ∧ ∃ op2, f_X11_law w1 = (if (lw_text c 200 0).1 = true then some (1, q_sI (q_sA (q_sI (vW (q_sI (q_sI w1 48 12 (-1)) 48 14 (nI L)) (lw_text c 200 0).2.1 op2 (-1)) 48 9 0) 54 (fil (q_A w1 53) (q_A w1 54) 0 L)) 48 11 (nI L)) else some ((-100 : Int32) - nI (lw_text c 200 0).2.1, q_sI (vW (q_sI (q_sI w1 48 12 (-1)) 48 14 (nI L)) (lw_text c 200 0).2.1 op2 (nI (lw_text c 200 0).2.1)) 48 9 0)) := by
    intro w1 h1 h2
    obtain ⟨k1, v, op2, k2, -⟩ := m_work (w := w1) (T := q_A w 4) (c := c) (-1) hL120 (Or.inr ⟨rfl, h2⟩) hcd (fun j hj => (f4 j (by omega)).1)
    refine ⟨k1, op2, ?_⟩
    unfold f_X11_law
    rw [h1, k2, z_cl]
    simp only [z_bn]
    have i9 : ∀ ft, q_I (vW (q_sI (q_sI w1 48 12 (-1)) 48 14 (nI L)) (lw_text c 200 0).2.1 op2 ft) 48 9 = nI L := fun _ => h1
    rw [i9]
    cases ht : (lw_text c 200 0).1 with
    | true =>
      simp only [if_true]
      rw [if_pos (show q_I (q_sI (vW (q_sI (q_sI w1 48 12 (-1)) 48 14 (nI L)) (lw_text c 200 0).2.1 op2 (-1)) 48 9 0) 48 15 < 0 from by show (-1 : Int32) < 0; decide)]
      have := m_copy hL120 L q_fuel 0 (q_sI (vW (q_sI (q_sI w1 48 12 (-1)) 48 14 (nI L)) (lw_text c 200 0).2.1 op2 (-1)) 48 9 0) (by omega) (by rw [q_fuel_eq]; omega)
      rw [nI_0] at this
      rw [this]
      rfl
    | false =>
      simp only [Bool.false_eq_true, if_false]
      have e15 : q_I (q_sI (vW (q_sI (q_sI w1 48 12 (-1)) 48 14 (nI L)) (lw_text c 200 0).2.1 op2 (nI (lw_text c 200 0).2.1)) 48 9 0) 48 15 = nI (lw_text c 200 0).2.1 := rfl
      rw [e15, if_neg (nI_pos (by omega))]
  obtain ⟨p2, hp2⟩ : ∃ p2, p2 = (lw_text c 200 0).2.1 := ⟨_, rfl⟩
  rw [← hp2] at hw eT g3
  have hIo : ∀ (p d : Nat) (D : Nat → Int32) (o k : Nat), o ≠ 3 → q_I (pW w p d D) o k = q_I w o k := by
    intro p d D o k ho
    unfold pW
    rw [g_II, if_neg (by omega), g_II, if_neg (by omega), g_IA]
  have hAo : ∀ (p d : Nat) (D : Nat → Int32) (o : Nat), o ≠ 5 → o ≠ 6 → q_A (pW w p d D) o = q_A w o := by
    intro p d D o h5 h6
    show q_A (q_sA w (q_R w 3 5) D) o = _
    rw [g_AA, if_neg (by omega)]
  cases ht : (lw_text c 200 0).1 with
  | false =>
    rw [ht] at eT hw
    have e1 : f_X10_law w = some ((-100 : Int32) - nI p2, q_sI (pW w p2 d2 D2) 3 1 0) := by
      unfold f_X10_law f_X3_learn
      rw [z_bn, z_bn, eT, z_cl, z_bn, if_pos bz, z_cl]
      have : q_I (q_sI (pW w p2 d2 D2) 3 1 0) 3 2 = nI p2 := rfl
      rw [this, if_pos (by rw [z_le, c0, nI_toInt (by omega)]; omega)]
    obtain ⟨-, op2, e2⟩ := hw (q_sI (pW w p2 d2 D2) 3 1 0) (by show q_I (pW w p2 d2 D2) 48 9 = _; rw [hIo _ _ _ _ _ (by omega), f2, fL]) (by show q_A (pW w p2 d2 D2) 53 = _; rw [hAo _ _ _ _ (by omega) (by omega), f3])
    rw [if_neg (by decide)] at e2
    refine ⟨_, _, _, e1, e2, ?_⟩
    refine Jn_fr hJ ?_ ?_ rfl ?_ ?_
    · intro o k h3 h16 h48
      unfold vW
      simp only [g_II]
      rw [if_neg (by omega), if_neg (by omega), if_neg (by omega), if_neg (by omega), if_neg (by omega), if_neg (by omega), if_neg (by omega)]
      exact hIo _ _ _ _ _ h3
    · intro o ho _ _
      unfold scr at ho
      exact hAo p2 d2 D2 o (by omega) (by omega)
    · refine ⟨(by decide : 0 ≤ (0 : Int32).toInt ∧ (0 : Int32).toInt ≤ 120), rfl, ?_, fun j hj => ?_, f5, ?_⟩
      · show q_A (pW w p2 d2 D2) 53 = q_A (pW w p2 d2 D2) 4
        rw [hAo _ _ _ _ (by omega) (by omega), hAo _ _ _ _ (by omega) (by omega), f3]
      · exact absurd (show (j : Int) < (0 : Int32).toInt from hj) (by rw [c0]; omega)
      · have q7 : q_I (pW w p2 d2 D2) 3 7 = q_I w 3 7 := rfl
        rcases f6 with ⟨k1, k2⟩ | ⟨k1, k2, k3, k4⟩
        · exact Or.inl ⟨k1, by show q_I (pW w p2 d2 D2) 48 11 = -1; rw [hIo _ _ _ _ _ (by omega), k2]⟩
        · have e11 : q_I (pW w p2 d2 D2) 48 11 = q_I w 48 11 := hIo _ _ _ _ _ (by omega)
          have e54 : q_A (pW w p2 d2 D2) 54 = q_A w 54 := hAo _ _ _ _ (by omega) (by omega)
          refine Or.inr ⟨k1, ?_, ?_, ?_⟩
          · show 0 ≤ (q_I (pW w p2 d2 D2) 48 11).toInt ∧ (q_I (pW w p2 d2 D2) 48 11).toInt ≤ 120
            rw [e11]; exact k2
          · show ∀ j : Nat, (j : Int) < (q_I (pW w p2 d2 D2) 48 11).toInt → 0 ≤ (q_A (pW w p2 d2 D2) 54 j).toInt ∧ (q_A (pW w p2 d2 D2) 54 j).toInt ≤ 255
            rw [e11, e54]; exact k3
          · show lw_Rel (if q_R w 3 3 = 5 then q_A (pW w p2 d2 D2) 5 else q_A (pW w p2 d2 D2) 6) (q_I w 3 4) (q_A (pW w p2 d2 D2) 54) (q_I (pW w p2 d2 D2) 48 11)
            rw [e11, e54]
            rcases f5 with ⟨a1, a2⟩ | ⟨a1, a2⟩
            · rw [if_pos a1] at k4 ⊢
              rw [show q_A (pW w p2 d2 D2) 5 = q_A w 5 from by show q_A (q_sA w (q_R w 3 5) D2) 5 = _; rw [g_AA, if_neg (by omega)]]
              exact k4
            · rw [if_neg (by omega)] at k4 ⊢
              rw [show q_A (pW w p2 d2 D2) 6 = q_A w 6 from by show q_A (q_sA w (q_R w 3 5) D2) 6 = _; rw [g_AA, if_neg (by omega)]]
              exact k4
    · exact hR
  | true =>
    rw [ht] at eT hw g4
    obtain ⟨g5, g6⟩ := g4 rfl
    have e1 : f_X10_law w = some (1, q_sI (q_sI (q_sR (q_sR (q_sI (pW w p2 d2 D2) 3 1 0) 3 3 (q_R w 3 5)) 3 5 (q_R w 3 3)) 3 4 (nI d2)) 3 7 1) := by
      unfold f_X10_law f_X3_learn
      rw [z_bn, z_bn, eT, z_cl, z_bn, if_neg bnz]
      have a3 : q_R (q_sI (pW w p2 d2 D2) 3 1 0) 3 3 = q_R w 3 3 := rfl
      have a5 : q_R (q_sI (pW w p2 d2 D2) 3 1 0) 3 5 = q_R w 3 5 := rfl
      rw [a3, a5, q_rf_5 _ r36, q_rf_5 _ r56]
      simp only [z_bn]
      rw [z_cl, if_neg (by decide)]
      rfl
    obtain ⟨-, op2, e2⟩ := hw (q_sI (q_sI (q_sR (q_sR (q_sI (pW w p2 d2 D2) 3 1 0) 3 3 (q_R w 3 5)) 3 5 (q_R w 3 3)) 3 4 (nI d2)) 3 7 1) (by show q_I (pW w p2 d2 D2) 48 9 = _; rw [hIo _ _ _ _ _ (by omega), f2, fL]) (by show q_A (pW w p2 d2 D2) 53 = _; rw [hAo _ _ _ _ (by omega) (by omega), f3])
    rw [if_pos rfl] at e2
    refine ⟨_, _, _, e1, e2, ?_⟩
    refine Jn_fr hJ ?_ ?_ rfl ?_ ?_
    · intro o k h3 h16 h48
      unfold vW
      simp only [g_II, g_IR, g_IA]
      rw [if_neg (by omega), if_neg (by omega), if_neg (by omega), if_neg (by omega), if_neg (by omega), if_neg (by omega), if_neg (by omega), if_neg (by omega), if_neg (by omega), if_neg (by omega)]
      exact hIo _ _ _ _ _ h3
    · intro o ho _ _
      unfold scr at ho
      show q_A (q_sA _ 54 _) o = _
      rw [g_AA, if_neg (by omega)]
      exact hAo p2 d2 D2 o (by omega) (by omega)
    · have e53 : q_A (pW w p2 d2 D2) 53 = q_A w 53 := hAo _ _ _ _ (by omega) (by omega)
      have e4 : q_A (pW w p2 d2 D2) 4 = q_A w 4 := hAo _ _ _ _ (by omega) (by omega)
      have tL : (nI L).toInt = (L : Int) := nI_toInt (by omega)
      have t54 : ∀ j : Nat, (j : Int) < (L : Int) → fil (q_A (pW w p2 d2 D2) 53) (q_A (pW w p2 d2 D2) 54) 0 L j = q_A w 4 j := by
        intro j hj
        unfold fil
        rw [if_pos (by omega), e53, f3]
      refine ⟨(by decide : 0 ≤ (0 : Int32).toInt ∧ (0 : Int32).toInt ≤ 120), rfl, ?_, fun j hj => ?_, ?_, Or.inr ⟨rfl, ?_, ?_, ?_⟩⟩
      · show q_A (pW w p2 d2 D2) 53 = q_A (pW w p2 d2 D2) 4
        rw [e53, e4, f3]
      · exact absurd (show (j : Int) < (0 : Int32).toInt from hj) (by rw [c0]; omega)
      · show (q_R w 3 5 = 5 ∧ q_R w 3 3 = 6) ∨ (q_R w 3 5 = 6 ∧ q_R w 3 3 = 5)
        omega
      · show 0 ≤ (nI L).toInt ∧ (nI L).toInt ≤ 120
        rw [tL]; omega
      · show ∀ j : Nat, (j : Int) < (nI L).toInt → 0 ≤ (fil (q_A (pW w p2 d2 D2) 53) (q_A (pW w p2 d2 D2) 54) 0 L j).toInt ∧ (fil (q_A (pW w p2 d2 D2) 53) (q_A (pW w p2 d2 D2) 54) 0 L j).toInt ≤ 255
        intro j hj
        rw [tL] at hj
        rw [t54 j hj]
        exact f4 j (by omega)
      · show lw_Rel (if q_R w 3 5 = 5 then q_A (pW w p2 d2 D2) 5 else q_A (pW w p2 d2 D2) 6) (nI d2) (fil (q_A (pW w p2 d2 D2) 53) (q_A (pW w p2 d2 D2) 54) 0 L) (nI L)
        have eD : (if q_R w 3 5 = 5 then q_A (pW w p2 d2 D2) 5 else q_A (pW w p2 d2 D2) 6) = D2 := by
          rcases r56 with a | a
          · rw [if_pos a]
            show q_A (q_sA w (q_R w 3 5) D2) 5 = D2
            rw [g_AA, if_pos a.symm]
          · rw [if_neg (by omega)]
            show q_A (q_sA w (q_R w 3 5) D2) 6 = D2
            rw [g_AA, if_pos a.symm]
        rw [eD]
        have ec : lw_chr (fil (q_A (pW w p2 d2 D2) 53) (q_A (pW w p2 d2 D2) 54) 0 L) (nI L).toInt = c := by
          rw [← hcd, tL]
          funext q
          unfold lw_chr
          by_cases hh : (q : Int) < (L : Int)
          · rw [if_pos hh, if_pos hh, t54 q hh]
          · rw [if_neg hh, if_neg hh]
        refine ⟨(lw_text c 200 0).2.2, by rw [ec, ht], by rw [ec], ?_, by omega, fun i q hi => ?_⟩
        · rw [nI_toInt (by omega)]; omega
        · rw [g6]
          have := lw_wr_at _ (q_A w (q_R w 3 5)) 0 i q hi
          rw [Nat.zero_add] at this
          exact this
    · exact hR
