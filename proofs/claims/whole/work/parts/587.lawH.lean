/-! the law's text: the code is sound, and the class's machine works it out -/
def lw_ht : List (Nat × Nat) → Nat → Option Nat
  | [], h => some h
  | (0, v) :: t, h => if v < 10000 ∧ h < 64 then lw_ht t (h + 1) else none
  | (1, v) :: t, h => if v < 6 ∧ h < 64 then lw_ht t (h + 1) else none
  | (2, _) :: _, _ => none
  | (3, _) :: _, _ => none
  | (4, v) :: t, h => if v = 0 ∧ 1 ≤ h then lw_ht t h else none
  | (5, v) :: t, h => if v = 0 ∧ 1 ≤ h then lw_ht t h else none
  | (o + 6, v) :: t, h => if o < 10 ∧ v = 0 ∧ 2 ≤ h then lw_ht t (h - 1) else none
def lw_H (cd : List (Nat × Nat)) (d : Nat) : Prop := ∀ (t : List (Nat × Nat)) (h : Nat), h + d ≤ 64 → lw_ht (cd ++ t) h = lw_ht t (h + 1)
def lw_H1 (cd : List (Nat × Nat)) (d : Nat) : Prop := ∀ (t : List (Nat × Nat)) (h : Nat), h + d ≤ 64 → lw_ht (cd ++ t) (h + 1) = lw_ht t (h + 1)
theorem H_un4 {cd : List (Nat × Nat)} {d e : Nat} (h : lw_H cd d) (he : d ≤ e) : lw_H (cd ++ [(4, 0)]) e := by
  intro t n hn
  rw [List.append_assoc, h _ _ (by omega)]
  show (if 0 = 0 ∧ 1 ≤ n + 1 then lw_ht t (n + 1) else none) = _
  rw [if_pos (by omega)]
theorem H_un5 {cd : List (Nat × Nat)} {d e : Nat} (h : lw_H cd d) (he : d ≤ e) : lw_H (cd ++ [(5, 0)]) e := by
  intro t n hn
  rw [List.append_assoc, h _ _ (by omega)]
  show (if 0 = 0 ∧ 1 ≤ n + 1 then lw_ht t (n + 1) else none) = _
  rw [if_pos (by omega)]
theorem ht_bin (t : List (Nat × Nat)) (n : Nat) (o : Nat) (h6 : 6 ≤ o) (h16 : o < 16) : lw_ht ((o, 0) :: t) (n + 1 + 1) = lw_ht t (n + 1) := by
  obtain ⟨k, rfl⟩ : ∃ k, o = k + 6 := ⟨o - 6, by omega⟩
  show (if k < 10 ∧ 0 = 0 ∧ 2 ≤ n + 1 + 1 then lw_ht t (n + 1 + 1 - 1) else none) = _
  rw [if_pos (by omega)]
  rfl
theorem sp_ht {c : Nat → Int} {L : Nat} (hc : ∀ q, 0 ≤ c q → q < L) : ∀ (f lv op p : Nat), lv ≤ 5 → op ≤ 6 → p ≤ L → ((lw_sp c f 0 lv op p).1 = true → lw_H (lw_sp c f 0 lv op p).2.2 (1 + 5 * (6 - op) + (5 - lv))) ∧ (lv < 5 → (lw_sp c f 1 lv op p).1 = true → lw_H1 (lw_sp c f 1 lv op p).2.2 (1 + 5 * (6 - op) + (5 - lv)))
  | 0, lv, op, p, _, _, _ => by
    have e : ∀ m, lw_sp c 0 m lv op p = (false, p, []) := fun m => by rw [lw_sp]
    rw [e, e]
    exact ⟨fun h => no_ft h, fun _ h => no_ft h⟩
  | f + 1, lv, op, p, hl, ho, hp => by
    refine ⟨?_, ?_⟩
    · by_cases h5 : lv < 5
      · rcases e : lw_sp c f 0 (lv + 1) op p with ⟨ok, p2, cd⟩
        have i1 := (sp_ht hc f (lv + 1) op p (by omega) ho hp).1
        have s1 := sp_ok hc f 0 (lv + 1) op p (by omega) (by omega) hp
        rw [e] at i1 s1
        cases ok
        · rw [sp_lv0 f lv op h5 e]
          exact fun h => no_ft h
        · have i2 : lw_H cd (1 + 5 * (6 - op) + (5 - (lv + 1))) := i1 rfl
          rw [sp_lv1 f lv op h5 e]
          intro ht
          have i3 := (sp_ht hc f lv op p2 hl ho s1.2.1).2 h5 ht
          intro t n hn
          show lw_ht ((cd ++ (lw_sp c f 1 lv op p2).2.2) ++ t) n = _
          rw [List.append_assoc, i2 _ _ (by omega), i3 _ _ hn]
      · have h5 : lv = 5 := by omega
        subst h5
        cases hd : lw_dig (c p) with
        | true =>
          rw [sp_dig f op hd]
          have h2 := (lw_num_ok hc 4 p 0 1 hp (by omega)).2.2
          intro _ t n hn
          show (if (lw_num c 4 p 0).2 < 10000 ∧ n < 64 then lw_ht t (n + 1) else none) = _
          rw [if_pos ⟨by omega, by omega⟩]
        | false =>
          cases hn : lw_nam (c p) with
          | some nn =>
            rw [sp_nam f op hd hn]
            have := lw_nam_lt hn
            intro _ t n hn
            show (if nn < 6 ∧ n < 64 then lw_ht t (n + 1) else none) = _
            rw [if_pos ⟨by omega, by omega⟩]
          | none =>
            by_cases h6 : 6 ≤ op
            · rw [sp_six f op hd hn h6]
              exact fun h => no_ft h
            · by_cases c1 : c p = 40
              · rw [sp_par f op h6 c1]
                have hpL := hc p (by omega)
                rcases e : lw_sp c f 0 0 (op + 1) (p + 1) with ⟨ok, p2, cd⟩
                have i1 := (sp_ht hc f 0 (op + 1) (p + 1) (by omega) (by omega) hpL).1
                rw [e] at i1
                cases ok
                · exact fun h => no_ft h
                · have i2 : lw_H cd (1 + 5 * (6 - (op + 1)) + (5 - 0)) := i1 rfl
                  show (if c p2 = 41 then (true, p2 + 1, cd) else (false, p2, [])).1 = true → _
                  by_cases c2 : c p2 = 41
                  · simp only [if_pos c2]
                    intro _ t n hn
                    exact i2 t n (by omega)
                  · simp only [if_neg c2]
                    exact fun h => no_ft h
              · by_cases c2 : c p = 33
                · rw [sp_not f op h6 c2]
                  have hpL := hc p (by omega)
                  have i1 := (sp_ht hc f 5 (op + 1) (p + 1) (by omega) (by omega) hpL).1
                  intro ht
                  exact H_un4 (i1 ht) (by omega)
                · by_cases c3 : c p = 45
                  · rw [sp_neg f op h6 c3]
                    have hpL := hc p (by omega)
                    have i1 := (sp_ht hc f 5 (op + 1) (p + 1) (by omega) (by omega) hpL).1
                    intro ht
                    exact H_un5 (i1 ht) (by omega)
                  · rw [sp_bad f op hd hn h6 c1 c2 c3]
                    exact fun h => no_ft h
    · intro h5
      cases hop : lw_opr lv (c p) with
      | none =>
        rw [sp_m0 f lv op hop]
        intro _ t n hn
        rfl
      | some o =>
        obtain ⟨o1, o2, o3, o4⟩ := lw_opr_lt hop
        have hpL := hc p o4
        rcases e : lw_sp c f 0 (lv + 1) op (p + 1) with ⟨ok, p2, cd⟩
        have i1 := (sp_ht hc f (lv + 1) op (p + 1) (by omega) ho hpL).1
        have s1 := sp_ok hc f 0 (lv + 1) op (p + 1) (by omega) (by omega) hpL
        rw [e] at i1 s1
        cases ok
        · rw [sp_m1 f lv op hop e]
          exact fun h => no_ft h
        · have i2 : lw_H cd (1 + 5 * (6 - op) + (5 - (lv + 1))) := i1 rfl
          by_cases h2 : lv = 2
          · subst h2
            rw [sp_m2 f op hop e]
            intro _ t n hn
            show lw_ht ((cd ++ [(o, 0)]) ++ t) (n + 1) = _
            rw [List.append_assoc, i2 _ _ (by omega)]
            exact ht_bin t n o o1 o2
          · rw [sp_m3 f lv op h2 hop e]
            intro ht t n hn
            have i3 := (sp_ht hc f lv op p2 hl ho s1.2.1).2 h5 ht
            show lw_ht ((cd ++ (o, 0) :: (lw_sp c f 1 lv op p2).2.2) ++ t) (n + 1) = _
            rw [List.append_assoc, i2 _ _ (by omega)]
            show lw_ht ((o, 0) :: ((lw_sp c f 1 lv op p2).2.2 ++ t)) (n + 1 + 1) = _
            rw [ht_bin _ n o o1 o2, i3 _ _ hn]
def lnOk (ln : lw_Ln) : Prop := lw_ht ln.2 0 = some 1 ∧ ∀ c, ln.1 = some c → lw_ht c 0 = some 1
theorem H_0 {cd : List (Nat × Nat)} {d : Nat} (h : lw_H cd d) (hd : d ≤ 64) : lw_ht cd 0 = some 1 := by
  have := h [] 0 (by omega)
  rw [List.append_nil] at this
  exact this
theorem line_ht {c : Nat → Int} {L : Nat} (hc : ∀ q, 0 ≤ c q → q < L) {p : Nat} (hp : p ≤ L) : (lw_line c p).1 = true → lnOk (lw_line c p).2.2 := by
  unfold lw_line
  have i1 := (sp_ht hc lw_F 0 0 p (by omega) (by omega) hp).1
  have s1 := sp_ok hc lw_F 0 0 0 p (by omega) (by omega) hp
  rcases e : lw_sp c lw_F 0 0 0 p with ⟨ok, p2, cd⟩
  rw [e] at i1 s1
  cases ok
  · exact fun h => no_ft h
  · have i2 : lw_ht cd 0 = some 1 := H_0 (i1 rfl) (by omega)
    show (if c p2 = 63 then _ else (true, p2, (none, cd))).1 = true → _
    by_cases h : c p2 = 63
    · simp only [if_pos h]
      have hL := hc p2 (by omega)
      have t1 := (sp_ht hc lw_F 0 0 (p2 + 1) (by omega) (by omega) (by omega)).1
      rcases e2 : lw_sp c lw_F 0 0 0 (p2 + 1) with ⟨ok2, p3, cd2⟩
      rw [e2] at t1
      cases ok2
      · exact fun h => no_ft h
      · exact fun _ => ⟨H_0 (t1 rfl) (by omega), fun c hc => by injection hc with hc; rw [← hc]; exact i2⟩
    · simp only [if_neg h]
      exact fun _ => ⟨i2, fun c hc => absurd hc (by simp)⟩
theorem text_ht {c : Nat → Int} {L : Nat} (hc : ∀ q, 0 ≤ c q → q < L) : ∀ (f p : Nat), p ≤ L → (lw_text c f p).1 = true → ∀ ln, ln ∈ (lw_text c f p).2.2 → lnOk ln
  | 0, p, _, h, _, _ => no_ft h
  | f + 1, p, hp, h, ln, hm => by
    have l1 := line_ht hc hp
    have l2 := line_ok hc hp
    unfold lw_text at h hm
    rcases e : lw_line c p with ⟨ok, p2, l⟩
    rw [e] at h hm l1 l2
    cases ok
    · exact no_ft h
    · have l1 : lnOk l := l1 rfl
      have h : (if c p2 = -1 then (true, p2, [l]) else if c p2 = 59 then _ else (false, p2, [])).1 = true := h
      have hm : ln ∈ (if c p2 = -1 then (true, p2, [l]) else if c p2 = 59 then _ else (false, p2, [])).2.2 := hm
      by_cases h1 : c p2 = -1
      · simp only [if_pos h1] at h hm
        have : ln = l := by simpa using hm
        rw [this]; exact l1
      · simp only [if_neg h1] at h hm
        by_cases h2 : c p2 = 59
        · simp only [if_pos h2] at h hm
          have hm : ln ∈ l :: (lw_text c f (p2 + 1)).2.2 := hm
          have h : (lw_text c f (p2 + 1)).1 = true := h
          have := hc p2 (by omega)
          rcases List.mem_cons.mp hm with q | q
          · rw [q]; exact l1
          · exact text_ht hc f (p2 + 1) (by omega) h ln q
        · simp only [if_neg h2] at h
          exact absurd h (by decide)
theorem ex_congr {nm nm2 : Nat → Int32} (h6 : ∀ i, i < 6 → nm i = nm2 i) : ∀ (cd : List (Nat × Nat)) (st : List Int32) (k : Nat), lw_ht cd st.length = some k → lw_ex nm cd st = lw_ex nm2 cd st ∧ (lw_ex nm cd st).length = k
  | [], st, k, h => ⟨rfl, by injection h⟩
  | (0, v) :: t, st, k, h => by
    have h : (if v < 10000 ∧ st.length < 64 then lw_ht t (st.length + 1) else none) = some k := h
    by_cases hh : v < 10000 ∧ st.length < 64
    · rw [if_pos hh] at h
      exact ex_congr h6 t (Int32.ofNat v :: st) k h
    · rw [if_neg hh] at h; exact absurd h (by simp)
  | (1, v) :: t, st, k, h => by
    have h : (if v < 6 ∧ st.length < 64 then lw_ht t (st.length + 1) else none) = some k := h
    by_cases hh : v < 6 ∧ st.length < 64
    · rw [if_pos hh] at h
      have := ex_congr h6 t (nm v :: st) k h
      show lw_ex nm t (nm v :: st) = lw_ex nm2 t (nm2 v :: st) ∧ _
      rw [← h6 v hh.1]
      exact this
    · rw [if_neg hh] at h; exact absurd h (by simp)
  | (2, v) :: t, st, k, h => absurd h (by unfold lw_ht; simp)
  | (3, v) :: t, st, k, h => absurd h (by unfold lw_ht; simp)
  | (4, v) :: t, [], k, h => by
    have h : (if v = 0 ∧ 1 ≤ 0 then lw_ht t 0 else none) = some k := h
    rw [if_neg (by omega)] at h; exact absurd h (by simp)
  | (4, v) :: t, x :: st, k, h => by
    have h : (if v = 0 ∧ 1 ≤ st.length + 1 then lw_ht t (st.length + 1) else none) = some k := h
    by_cases hh : v = 0 ∧ 1 ≤ st.length + 1
    · rw [if_pos hh] at h
      exact ex_congr h6 t ((if x = 0 then 1 else 0) :: st) k h
    · rw [if_neg hh] at h; exact absurd h (by simp)
  | (5, v) :: t, [], k, h => by
    have h : (if v = 0 ∧ 1 ≤ 0 then lw_ht t 0 else none) = some k := h
    rw [if_neg (by omega)] at h; exact absurd h (by simp)
  | (5, v) :: t, x :: st, k, h => by
    have h : (if v = 0 ∧ 1 ≤ st.length + 1 then lw_ht t (st.length + 1) else none) = some k := h
    by_cases hh : v = 0 ∧ 1 ≤ st.length + 1
    · rw [if_pos hh] at h
      exact ex_congr h6 t (-x :: st) k h
    · rw [if_neg hh] at h; exact absurd h (by simp)
  | (o + 6, v) :: t, st, k, h => by
    have h : (if o < 10 ∧ v = 0 ∧ 2 ≤ st.length then lw_ht t (st.length - 1) else none) = some k := h
    by_cases hh : o < 10 ∧ v = 0 ∧ 2 ≤ st.length
    · rw [if_pos hh] at h
      match st, hh, h with
      | y :: x :: st, hh, h =>
        rw [ex_bin nm t st x y v (o + 6) (by omega) (by omega), ex_bin nm2 t st x y v (o + 6) (by omega) (by omega)]
        exact ex_congr h6 t (lw_bin (o + 6) x y :: st) k h
      | [y], hh, _ => exact absurd hh.2.2 (by show ¬ 2 ≤ 1; omega)
      | [], hh, _ => exact absurd hh.2.2 (by show ¬ 2 ≤ 0; omega)
    · rw [if_neg hh] at h; exact absurd h (by simp)
theorem val_congr {nm nm2 : Nat → Int32} (h6 : ∀ i, i < 6 → nm i = nm2 i) {cd : List (Nat × Nat)} {k : Nat} (h : lw_ht cd 0 = some k) : lw_val nm cd = lw_val nm2 cd := by
  unfold lw_val
  rw [(ex_congr h6 cd [] k h).1]
theorem ev_congr {nm nm2 : Nat → Int32} (h6 : ∀ i, i < 6 → nm i = nm2 i) : ∀ lns : List lw_Ln, (∀ ln, ln ∈ lns → lnOk ln) → lw_ev nm lns = lw_ev nm2 lns
  | [], _ => rfl
  | (none, cd) :: t, h => by
    have h1 := h _ (List.mem_cons_self ..)
    show lw_val nm cd = lw_val nm2 cd
    exact val_congr h6 h1.1
  | (some c, cd) :: t, h => by
    have h1 := h _ (List.mem_cons_self ..)
    show (if lw_val nm c = 0 then lw_ev nm t else lw_val nm cd) = (if lw_val nm2 c = 0 then lw_ev nm2 t else lw_val nm2 cd)
    rw [val_congr h6 h1.1, val_congr h6 (h1.2 c rfl), ev_congr h6 t (fun ln hl => h ln (List.mem_cons_of_mem _ hl))]
