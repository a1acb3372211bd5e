def q_Lk (own : String) (idx ci k : Nat) : Prop := ∃ (C : String) (T : u_T) (N : Nat), vwCl[ci]? = some (C, T, N) ∧ k < N ∧ (T k).1 = C ∧ (∀ w ∈ u_ws C T N, w ∈ q_gW) ∧ (Cond.fieldLink own idx C (T k).2.1 (T k).2.2.1 ∈ q_gW ∨ ∃ host, Cond.fieldLinkNest own idx C (T k).2.1 (T k).2.2.1 host ∈ q_nW)
def q_LkP (own : String) (idx ci k : Nat) (ty : FieldType) : Prop := ∃ (C : String) (T : u_T) (N : Nat) (ty0 : Nat → FieldType), vwCl[ci]? = some (C, T, N) ∧ k < N ∧ (T k).1 = C ∧ (∀ w ∈ u_ws C T N, w ∈ q_gW) ∧ (∀ j, j < N → parseFieldDescriptor (T j).2.2.1 = some (ty0 j)) ∧ (∀ a, a < N → ∀ b, b < N → a ≠ b → (T a).2.1 ≠ (T b).2.1) ∧ (T k).2.2.2 = false ∧ parseFieldDescriptor (T k).2.2.1 = some ty ∧ Cond.fieldLink own idx C (T k).2.1 (T k).2.2.1 ∈ q_gW
def q_LkS (own : String) (idx k : Nat) : Prop := ∃ z : String × String, q_Ts[k]? = some z ∧ (Cond.fieldLink own idx z.1 z.2 "[I" ∈ q_gW ∨ ∃ host, Cond.fieldLinkNest own idx z.1 z.2 "[I" host ∈ q_nW)
theorem q_good {ws : List Cond} (h : ∀ w ∈ ws, w ∈ q_gW) : GoodIn q_gW ws := fun w hw => ⟨h w hw, good_of_word (List.mem_filter.mp (h w hw)).2⟩
section
variable {α : Type} {E : qE} {Γ : qC} {own : String} {cc : ByteArray} {nL d : Nat} {F : α → qW → Prop} {pc : Nat} {L : List (Option Value)} {st : List Value} {w : qW} {oo : Option (α × qW)}
theorem e_getV (G : q_Ok E Γ own cc nL d) {o k ci idx : Nat} {sl : List (Option (Option Nat))} {x : Option (Option Nat)} (hs : q_shp[o]? = some (.inl (ci, sl))) (hk : sl[k]? = some x) (hlk : q_Lk own idx ci k) (dd : decode cc pc = .ok (.getfield idx, 3)) {H : Heap} {locs : List Loc} {ls : Array Slot} {rest : List Value} (hR : q_Rel E w H) (kk : q_W Γ H locs (F0 (q_m Γ) (pc + 3) ls (q_slot (q_ρ E) w o k x :: rest))) : q_W Γ H locs (F0 (q_m Γ) pc ls (.ref (q_ρ E o) :: rest)) := by
  obtain ⟨C, T, N, hc, hkN, h1, hin, hl1⟩ := hlk
  have hts := G.2.2.2.2.1
  have hGl := G.2.2.2.2.2.1
  rcases hl1 with hl1 | ⟨host, hl1⟩
  · exact va_get G.1 G.2.1 hts hin G.2.2.2.1 hGl.1 hR.1 o (q_world_at hs) hc k hkN (hts _ hl1) (fun z hz => by rw [h1] at hz; exact hz) (q_slot_at hk) dd kk
  · exact va_getN G.1 G.2.1 hts hin G.2.2.2.1 hGl.1 hR.1 o (q_world_at hs) hc k hkN (va_Nw.use rfl (hGl.2.2.2.1 _ hl1)) (fun z hz => by rw [h1] at hz; exact hz) (q_slot_at hk) dd kk
theorem e_getI (G : q_Ok E Γ own cc nL d) {o k ci idx : Nat} {sl : List (Option (Option Nat))} (hs : q_shp[o]? = some (.inl (ci, sl))) (hk : sl[k]? = some none) (hlk : q_Lk own idx ci k) (dd : decode cc pc = .ok (.getfield idx, 3)) (kk : q_Ev E Γ nL F (pc + 3) L (.int (q_I w o k) :: st) w oo) : q_Ev E Γ nL F pc L (.ref o :: st) w oo := by
  intro r w9 ho hF H locs ls hR hS hl
  exact e_getV G hs hk hlk dd hR (kk r w9 ho hF H locs ls hR hS hl)
theorem e_getF (G : q_Ok E Γ own cc nL d) {o k ci idx r0 : Nat} {sl : List (Option (Option Nat))} (hs : q_shp[o]? = some (.inl (ci, sl))) (hk : sl[k]? = some (some (some r0))) (hlk : q_Lk own idx ci k) (dd : decode cc pc = .ok (.getfield idx, 3)) (kk : q_Ev E Γ nL F (pc + 3) L (.ref r0 :: st) w oo) : q_Ev E Γ nL F pc L (.ref o :: st) w oo := by
  intro r w9 ho hF H locs ls hR hS hl
  exact e_getV G hs hk hlk dd hR (kk r w9 ho hF H locs ls hR hS hl)
theorem e_getD (G : q_Ok E Γ own cc nL d) {o k ci idx n : Nat} {sl : List (Option (Option Nat))} {kq : Nat → Option (α × qW)} (hs : q_shp[o]? = some (.inl (ci, sl))) (hk : sl[k]? = some (some none)) (hlk : q_Lk own idx ci k) (dd : decode cc pc = .ok (.getfield idx, 3)) (kk : ∀ id : Nat, q_shp[id]? = some (.inr (.inl n)) → q_Ev E Γ nL F (pc + 3) L (.ref id :: st) w (kq id)) : q_Ev E Γ nL F pc L (.ref o :: st) w (q_rf (q_R w o k) n kq) := by
  intro r w9 ho hF H locs ls hR hS hl
  unfold q_rf at ho
  by_cases hq : q_shp[q_R w o k]? = some (.inr (.inl n))
  · rw [if_pos hq] at ho
    exact e_getV G hs hk hlk dd hR (kk _ hq r w9 ho hF H locs ls hR hS hl)
  · rw [if_neg hq] at ho; cases ho
theorem e_putI (G : q_Ok E Γ own cc nL d) {o k ci idx : Nat} {ty : FieldType} {v : Int32} {sl : List (Option (Option Nat))} {kq : qW → Option (α × qW)} (hs : q_shp[o]? = some (.inl (ci, sl))) (hk : sl[k]? = some none) (hlk : q_LkP own idx ci k ty) (hn : narrow ty (.int v) = .int v) (hf : fits ty (.int v) = true) (dd : decode cc pc = .ok (.putfield idx, 3)) (kk : ∀ w2 : qW, q_Ev E Γ nL F (pc + 3) L st w2 (kq w2)) : q_Ev E Γ nL F pc L (.int v :: .ref o :: st) w (q_bn (q_sI w o k v) kq) := by
  intro r w9 ho hF H locs ls hR hS hl
  obtain ⟨C, T, N, ty0, hc, hkN, h1, hin, hty, hnm, hfin, hd, hl1⟩ := hlk
  have hts := G.2.2.2.2.1
  have hGl := G.2.2.2.2.2.1
  have hw : (q_world E w).set o (q_ρ E o, .inr (ci, (sl.mapIdx (fun j x => q_slot (q_ρ E) w o j x)).set k (.int v))) = q_world E (q_sI w o k v) := q_world_set hs (by rw [q_slots_sI hk]; rfl) (fun a s2 h => q_cell_sI s2 h)
  refine va_put (v := .int v) G.1 G.2.1 hts hin ty0 hty hnm G.2.2.2.1 hGl.1 hR.1 hR.2 hS o (q_world_at hs) hc k hkN (hts _ hl1) (fun z hz => by rw [h1] at hz; exact hz) hfin hd hn hf (by simpa using (List.getElem?_eq_some_iff.mp hk).1) dd (fun H1 locs1 g1 g2 g3 => ?_)
  rw [hw] at g1 g2
  exact kk _ r w9 ho hF H1 locs1 ls ⟨g1, g2⟩ g3 hl
theorem e_putD (G : q_Ok E Γ own cc nL d) {o k ci idx v : Nat} {ty : FieldType} {sl : List (Option (Option Nat))} {kq : qW → Option (α × qW)} (hs : q_shp[o]? = some (.inl (ci, sl))) (hk : sl[k]? = some (some none)) (hlk : q_LkP own idx ci k (.array ty)) (dd : decode cc pc = .ok (.putfield idx, 3)) (kk : ∀ w2 : qW, q_Ev E Γ nL F (pc + 3) L st w2 (kq w2)) : q_Ev E Γ nL F pc L (.ref v :: .ref o :: st) w (q_bn (q_sR w o k v) kq) := by
  intro r w9 ho hF H locs ls hR hS hl
  obtain ⟨C, T, N, ty0, hc, hkN, h1, hin, hty, hnm, hfin, hd, hl1⟩ := hlk
  have hts := G.2.2.2.2.1
  have hGl := G.2.2.2.2.2.1
  have hw : (q_world E w).set o (q_ρ E o, .inr (ci, (sl.mapIdx (fun j x => q_slot (q_ρ E) w o j x)).set k (.ref (q_ρ E v)))) = q_world E (q_sR w o k v) := q_world_set hs (by rw [q_slots_sR hk]; rfl) (fun a s2 h => q_cell_sR s2 h)
  refine va_put (v := .ref (q_ρ E v)) G.1 G.2.1 hts hin ty0 hty hnm G.2.2.2.1 hGl.1 hR.1 hR.2 hS o (q_world_at hs) hc k hkN (hts _ hl1) (fun z hz => by rw [h1] at hz; exact hz) hfin hd rfl rfl (by simpa using (List.getElem?_eq_some_iff.mp hk).1) dd (fun H1 locs1 g1 g2 g3 => ?_)
  rw [hw] at g1 g2
  exact kk _ r w9 ho hF H1 locs1 ls ⟨g1, g2⟩ g3 hl
theorem e_gets (G : q_Ok E Γ own cc nL d) {k idx id : Nat} (hid : id = 100 + k) (hlk : q_LkS own idx k) (dd : decode cc pc = .ok (.getstatic idx, 3)) (kk : q_Ev E Γ nL F (pc + 3) L (.ref id :: st) w oo) : q_Ev E Γ nL F pc L st w oo := by
  subst hid
  intro r w9 ho hF H locs ls hR hS hl
  have hts := G.2.2.2.2.1
  have hGl := G.2.2.2.2.2.1
  obtain ⟨z, hz, hl1⟩ := hlk
  rcases hl1 with hl1 | ⟨host, hl1⟩
  · exact va_gets G.1 G.2.1 (hGl.2.2.1 k z hz) hS G.2.2.2.1 (hts _ hl1) (fun _ h => h) dd (kk r w9 ho hF H locs ls hR hS hl)
  · exact va_getsN G.1 G.2.1 (hGl.2.2.1 k z hz) hS G.2.2.2.1 (va_Nw.use rfl (hGl.2.2.2.1 _ hl1)) (fun _ h => h) dd (kk r w9 ho hF H locs ls hR hS hl)
theorem e_iald (G : q_Ok E Γ own cc nL d) {o n : Nat} {j : Int32} {kq : Int32 → Option (α × qW)} (hs : q_shp[o]? = some (.inr (.inl n))) (dd : decode cc pc = .ok (.iaload, 1)) (kk : ∀ v : Int32, q_Ev E Γ nL F (pc + 1) L (.int v :: st) w (kq v)) : q_Ev E Γ nL F pc L (.int j :: .ref o :: st) w (q_ld (q_A w o) n j kq) := by
  intro r w9 ho hF H locs ls hR hS hl
  unfold q_ld at ho
  by_cases hq : q_in j n = true
  · rw [if_pos hq] at ho
    exact va_iald G.1 G.2.1 G.2.2.2.2.2.1.1 hR.1 o 0 (q_world_at hs) rfl (q_in_spec hq) dd (kk _ r w9 ho hF H locs ls hR hS hl)
  · rw [if_neg hq] at ho; cases ho
theorem e_lald (G : q_Ok E Γ own cc nL d) {o n : Nat} {j : Int32} {kq : Int64 → Option (α × qW)} (hs : q_shp[o]? = some (.inr (.inr (.inl n)))) (dd : decode cc pc = .ok (.laload, 1)) (kk : ∀ v : Int64, q_Ev E Γ nL F (pc + 1) L (.long v :: st) w (kq v)) : q_Ev E Γ nL F pc L (.int j :: .ref o :: st) w (q_ld (q_G w o) n j kq) := by
  intro r w9 ho hF H locs ls hR hS hl
  unfold q_ld at ho
  by_cases hq : q_in j n = true
  · rw [if_pos hq] at ho
    exact va_lald G.1 G.2.1 G.2.2.2.2.2.1.1 hR.1 o 1 (q_world_at hs) rfl (q_in_spec hq) dd (kk _ r w9 ho hF H locs ls hR hS hl)
  · rw [if_neg hq] at ho; cases ho
theorem e_iast (G : q_Ok E Γ own cc nL d) {o n : Nat} {j v : Int32} {kq : qW → Option (α × qW)} (hs : q_shp[o]? = some (.inr (.inl n))) (dd : decode cc pc = .ok (.iastore, 1)) (kk : ∀ w2 : qW, q_Ev E Γ nL F (pc + 1) L st w2 (kq w2)) : q_Ev E Γ nL F pc L (.int v :: .int j :: .ref o :: st) w (q_st w o n j v kq) := by
  intro r w9 ho hF H locs ls hR hS hl
  unfold q_st at ho
  by_cases hq : q_in j n = true
  · rw [if_pos hq] at ho
    have hw : (q_world E w).set o (q_ρ E o, .inl ((q_cA E).1, n, .inl (upd (q_A w o) j.toNatClampNeg v))) = q_world E (q_sA w o (upd (q_A w o) j.toNatClampNeg v)) := q_world_set hs (by simp [q_cell, q_A, q_sA]) (fun a s2 h => q_cell_sA s2 h)
    refine va_iast G.1 G.2.1 G.2.2.2.2.2.1.1 hR.1 hR.2 hS o 0 (q_world_at hs) rfl (q_in_spec hq) dd (fun H1 locs1 g1 g2 g3 => ?_)
    rw [hw] at g1 g2
    exact kk _ r w9 ho hF H1 locs1 ls ⟨g1, g2⟩ g3 hl
  · rw [if_neg hq] at ho; cases ho
theorem e_last (G : q_Ok E Γ own cc nL d) {o n : Nat} {j : Int32} {v : Int64} {kq : qW → Option (α × qW)} (hs : q_shp[o]? = some (.inr (.inr (.inl n)))) (dd : decode cc pc = .ok (.lastore, 1)) (kk : ∀ w2 : qW, q_Ev E Γ nL F (pc + 1) L st w2 (kq w2)) : q_Ev E Γ nL F pc L (.long v :: .int j :: .ref o :: st) w (q_stl w o n j v kq) := by
  intro r w9 ho hF H locs ls hR hS hl
  unfold q_stl at ho
  by_cases hq : q_in j n = true
  · rw [if_pos hq] at ho
    have hw : (q_world E w).set o (q_ρ E o, .inl ((q_cA E).2.1, n, .inr (.inl (vp_updL (q_G w o) j.toNatClampNeg v)))) = q_world E (q_sG w o (vp_updL (q_G w o) j.toNatClampNeg v)) := q_world_set hs (by simp [q_cell, q_G, q_sG]) (fun a s2 h => q_cell_sG s2 h)
    refine va_last G.1 G.2.1 G.2.2.2.2.2.1.1 hR.1 hR.2 hS o 1 (q_world_at hs) rfl (q_in_spec hq) dd (fun H1 locs1 g1 g2 g3 => ?_)
    rw [hw] at g1 g2
    exact kk _ r w9 ho hF H1 locs1 ls ⟨g1, g2⟩ g3 hl
  · rw [if_neg hq] at ho; cases ho
theorem e_alen (G : q_Ok E Γ own cc nL d) {o n : Nat} (hs : q_shp[o]? = some (.inr (.inl n))) (dd : decode cc pc = .ok (.arraylength, 1)) (kk : q_Ev E Γ nL F (pc + 1) L (.int (Int32.ofNat n) :: st) w oo) : q_Ev E Γ nL F pc L (.ref o :: st) w oo := by
  intro r w9 ho hF H locs ls hR hS hl
  exact va_alen G.1 G.2.1 G.2.2.2.2.2.1.1 hR.1 o 0 (q_world_at hs) (ty := .int) rfl rfl dd (kk r w9 ho hF H locs ls hR hS hl)
theorem e_alenl (G : q_Ok E Γ own cc nL d) {o n : Nat} (hs : q_shp[o]? = some (.inr (.inr (.inl n)))) (dd : decode cc pc = .ok (.arraylength, 1)) (kk : q_Ev E Γ nL F (pc + 1) L (.int (Int32.ofNat n) :: st) w oo) : q_Ev E Γ nL F pc L (.ref o :: st) w oo := by
  intro r w9 ho hF H locs ls hR hS hl
  exact va_alen G.1 G.2.1 G.2.2.2.2.2.1.1 hR.1 o 1 (q_world_at hs) (ty := .long) rfl rfl dd (kk r w9 ho hF H locs ls hR hS hl)
theorem e_tald (G : q_Ok E Γ own cc nL d) {k id : Nat} {j : Int32} {kq : Int32 → Option (α × qW)} (hid : id = 100 + k) (hk : k < 6) (dd : decode cc pc = .ok (.iaload, 1)) (kk : ∀ v : Int32, q_Ev E Γ nL F (pc + 1) L (.int v :: st) w (kq v)) : q_Ev E Γ nL F pc L (.int j :: .ref id :: st) w (q_ld (q_T k) (q_Tn k) j kq) := by
  subst hid
  intro r w9 ho hF H locs ls hR hS hl
  unfold q_ld at ho
  by_cases hq : q_in j (q_Tn k) = true
  · rw [if_pos hq] at ho
    exact va_ti G.1 G.2.1 (G.2.2.2.2.2.1.2.1 k hk) hS (q_in_spec hq) rfl dd (kk _ r w9 ho hF H locs ls hR hS hl)
  · rw [if_neg hq] at ho; cases ho
theorem e_tlen (G : q_Ok E Γ own cc nL d) {k id : Nat} (hid : id = 100 + k) (hk : k < 6) (dd : decode cc pc = .ok (.arraylength, 1)) (kk : q_Ev E Γ nL F (pc + 1) L (.int (Int32.ofNat (q_Tn k)) :: st) w oo) : q_Ev E Γ nL F pc L (.ref id :: st) w oo := by
  subst hid
  intro r w9 ho hF H locs ls hR hS hl
  exact va_tlen G.1 G.2.1 (G.2.2.2.2.2.1.2.1 k hk) hS rfl dd (kk r w9 ho hF H locs ls hR hS hl)
theorem e_sald (G : q_Ok E Γ own cc nL d) {j : Int32} {kq : Int32 → Option (α × qW)} (dd : decode cc pc = .ok (.iaload, 1)) (kk : ∀ v : Int32, q_Ev E Γ nL F (pc + 1) L (.int v :: st) w (kq v)) : q_Ev E Γ nL F pc L (.int j :: .ref 106 :: st) w (q_ld (q_xs E) (q_Lz E) j kq) := by
  intro r w9 ho hF H locs ls hR hS hl
  unfold q_ld at ho
  by_cases hq : q_in j (q_Lz E) = true
  · rw [if_pos hq] at ho
    exact va_ti G.1 G.2.1 G.2.2.2.2.2.1.2.2.2.2 hS (q_in_spec hq) rfl dd (kk _ r w9 ho hF H locs ls hR hS hl)
  · rw [if_neg hq] at ho; cases ho
theorem e_slen (G : q_Ok E Γ own cc nL d) (dd : decode cc pc = .ok (.arraylength, 1)) (kk : q_Ev E Γ nL F (pc + 1) L (.int (Int32.ofNat (q_Lz E)) :: st) w oo) : q_Ev E Γ nL F pc L (.ref 106 :: st) w oo := by
  intro r w9 ho hF H locs ls hR hS hl
  exact va_tlen G.1 G.2.1 G.2.2.2.2.2.1.2.2.2.2 hS rfl dd (kk r w9 ho hF H locs ls hR hS hl)
theorem q_she_at {j : Int32} (h : q_in j 6 = true) : q_shelf (q_she j) ∧ (([36, 38, 40, 42, 44, 46] : List Nat)[j.toNatClampNeg]?) = some (q_she j) := by
  have h1 := q_in_spec h
  have hlt : j.toNatClampNeg < 6 := Nat.not_le.mp fun q => h1 (Or.inr q)
  unfold q_she
  generalize j.toNatClampNeg = i at hlt
  match i, hlt with
  | 0, _ => exact ⟨⟨rfl, rfl⟩, rfl⟩
  | 1, _ => exact ⟨⟨rfl, rfl⟩, rfl⟩
  | 2, _ => exact ⟨⟨rfl, rfl⟩, rfl⟩
  | 3, _ => exact ⟨⟨rfl, rfl⟩, rfl⟩
  | 4, _ => exact ⟨⟨rfl, rfl⟩, rfl⟩
  | 5, _ => exact ⟨⟨rfl, rfl⟩, rfl⟩
theorem e_aald (G : q_Ok E Γ own cc nL d) {j : Int32} {kq : Nat → Option (α × qW)} (dd : decode cc pc = .ok (.aaload, 1)) (kk : ∀ id : Nat, q_shelf id → q_Ev E Γ nL F (pc + 1) L (.ref id :: st) w (kq id)) : q_Ev E Γ nL F pc L (.int j :: .ref 35 :: st) w (q_al j kq) := by
  intro r w9 ho hF H locs ls hR hS hl
  unfold q_al at ho
  by_cases hq : q_in j 6 = true
  · rw [if_pos hq] at ho
    obtain ⟨h1, h2⟩ := q_she_at hq
    have hs : q_shp[35]? = some (.inr (.inr (.inr [36, 38, 40, 42, 44, 46]))) := rfl
    refine va_aldq G.1 G.2.1 G.2.2.2.2.2.1.1 hR.1 35 2 (C := "HiredShade$Shelf") (q_world_at hs) rfl (q_in_spec hq) dd ?_
    have h3 : va_rf ((([36, 38, 40, 42, 44, 46] : List Nat)[j.toNatClampNeg]?).map (q_ρ E)) = .ref (q_ρ E (q_she j)) := by rw [h2]; rfl
    rw [h3]
    exact kk _ h1 r w9 ho hF H locs ls hR hS hl
  · rw [if_neg hq] at ho; cases ho
theorem e_ldc (G : q_Ok E Γ own cc nL d) {idx : Nat} {v : Int32} (hc : Cond.constant own idx v ∈ q_gW) (dd : decode cc pc = .ok (.ldc idx, 2)) (kk : q_Ev E Γ nL F (pc + 2) L (.int v :: st) w oo) : q_Ev E Γ nL F pc L st w oo := by
  intro r w9 ho hF H locs ls hR hS hl
  exact lv_ldc G.1 G.2.1 G.2.2.2.1 (G.2.2.2.2.1 _ hc) dd (kk r w9 ho hF H locs ls hR hS hl)
theorem e_ldcw (G : q_Ok E Γ own cc nL d) {idx : Nat} {v : Int32} (hc : Cond.constant own idx v ∈ q_gW) (dd : decode cc pc = .ok (.ldc_w idx, 3)) (kk : q_Ev E Γ nL F (pc + 3) L (.int v :: st) w oo) : q_Ev E Γ nL F pc L st w oo := by
  intro r w9 ho hF H locs ls hR hS hl
  exact lv_ldcw G.1 G.2.1 G.2.2.2.1 (G.2.2.2.2.1 _ hc) dd (kk r w9 ho hF H locs ls hR hS hl)
theorem e_ldc2 (G : q_Ok E Γ own cc nL d) {idx : Nat} {v : Int64} (hc : Cond.constantLong own idx v ∈ q_gW) (dd : decode cc pc = .ok (.ldc2_w idx, 3)) (kk : q_Ev E Γ nL F (pc + 3) L (.long v :: st) w oo) : q_Ev E Γ nL F pc L st w oo := by
  intro r w9 ho hF H locs ls hR hS hl
  exact lv_ldc2 G.1 G.2.1 G.2.2.2.1 (G.2.2.2.2.1 _ hc) dd (kk r w9 ho hF H locs ls hR hS hl)
def q_Mth (own : String) (idx : Nat) (y : MethodName) (cy : ByteArray) (ny : Nat) : Prop := Cond.methodLink own idx y ∈ q_gW ∧ Cond.static y ∈ q_gW ∧ Cond.initialized "java/lang/Math" ∈ q_gW ∧ Cond.code y cy ny (some .int) ∈ q_gW
theorem e_mmax (G : q_Ok E Γ own cc nL d) {idx : Nat} {x y : Int32} (hm : q_Mth own idx Lib.Math.max.name Lib.Math.max.code 2) (hd : 1 ≤ d) (hw : (st.map fun v => v.category).sum ≤ 8) (dd : decode cc pc = .ok (.invokestatic idx, 3)) (kk : q_Ev E Γ nL F (pc + 3) L (.int (if x < y then y else x) :: st) w oo) : q_Ev E Γ nL F pc L (.int y :: .int x :: st) w oo := by
  intro r w9 ho hF H locs ls hR hS hl
  have hts := G.2.2.2.2.1
  obtain ⟨g1, g2, g3, g4, g5, g6, g7, g8, g9, g10⟩ := G
  exact va_mmax g1 g2 (g3.trans hl.1.symm) g4 (hts _ hm.1) (hts _ hm.2.1) (hts _ hm.2.2.1) (hts _ hm.2.2.2) (Nat.le_trans hd g7) (by rw [q_v_sum]; omega) g9 g10 dd (kk r w9 ho hF H locs ls hR hS hl)
theorem e_mmin (G : q_Ok E Γ own cc nL d) {idx : Nat} {x y : Int32} (hm : q_Mth own idx Lib.Math.min.name Lib.Math.min.code 2) (hd : 1 ≤ d) (hw : (st.map fun v => v.category).sum ≤ 8) (dd : decode cc pc = .ok (.invokestatic idx, 3)) (kk : q_Ev E Γ nL F (pc + 3) L (.int (if y < x then y else x) :: st) w oo) : q_Ev E Γ nL F pc L (.int y :: .int x :: st) w oo := by
  intro r w9 ho hF H locs ls hR hS hl
  have hts := G.2.2.2.2.1
  obtain ⟨g1, g2, g3, g4, g5, g6, g7, g8, g9, g10⟩ := G
  exact va_mmin g1 g2 (g3.trans hl.1.symm) g4 (hts _ hm.1) (hts _ hm.2.1) (hts _ hm.2.2.1) (hts _ hm.2.2.2) (Nat.le_trans hd g7) (by rw [q_v_sum]; omega) g9 g10 dd (kk r w9 ho hF H locs ls hR hS hl)
theorem e_mabs (G : q_Ok E Γ own cc nL d) {idx : Nat} {x : Int32} (hm : q_Mth own idx Lib.Math.abs.name Lib.Math.abs.code 1) (hd : 1 ≤ d) (hw : (st.map fun v => v.category).sum ≤ 8) (dd : decode cc pc = .ok (.invokestatic idx, 3)) (kk : q_Ev E Γ nL F (pc + 3) L (.int (if 0 ≤ x then x else 0 - x) :: st) w oo) : q_Ev E Γ nL F pc L (.int x :: st) w oo := by
  intro r w9 ho hF H locs ls hR hS hl
  have hts := G.2.2.2.2.1
  obtain ⟨g1, g2, g3, g4, g5, g6, g7, g8, g9, g10⟩ := G
  exact va_mabs g1 g2 (g3.trans hl.1.symm) g4 (hts _ hm.1) (hts _ hm.2.1) (hts _ hm.2.2.1) (hts _ hm.2.2.2) (Nat.le_trans hd g7) (by rw [q_v_sum]; omega) g9 g10 dd (kk r w9 ho hF H locs ls hR hS hl)
def q_cok (sp dp n : Int32) (n0 n1 : Nat) : Bool := !(decide (sp < 0)) && (!(decide (dp < 0)) && (!(decide (n < 0)) && (decide (sp.toNatClampNeg + n.toNatClampNeg ≤ n0) && decide (dp.toNatClampNeg + n.toNatClampNeg ≤ n1))))
def q_cpi {β : Type} (w : qW) (a n0 b n1 : Nat) (sp dp n : Int32) (k : qW → Option β) : Option β := if q_cok sp dp n n0 n1 = true then k (q_sA w b (va_cpy (q_A w a) (q_A w b) sp.toNatClampNeg dp.toNatClampNeg n.toNatClampNeg)) else none
def q_cpl {β : Type} (w : qW) (a n0 b n1 : Nat) (sp dp n : Int32) (k : qW → Option β) : Option β := if q_cok sp dp n n0 n1 = true then k (q_sG w b (va_cpy (q_G w a) (q_G w b) sp.toNatClampNeg dp.toNatClampNeg n.toNatClampNeg)) else none
def q_Cpy (own : String) (idx : Nat) : Prop := Cond.methodLink own idx arraycopyName ∈ q_gW ∧ Cond.native arraycopyName ∈ q_gW ∧ Cond.static arraycopyName ∈ q_gW ∧ Cond.initialized "java/lang/System" ∈ q_gW
theorem q_cok_spec {sp dp n : Int32} {n0 n1 : Nat} (h : q_cok sp dp n n0 n1 = true) : ¬ sp < 0 ∧ ¬ dp < 0 ∧ ¬ n < 0 ∧ sp.toNatClampNeg + n.toNatClampNeg ≤ n0 ∧ dp.toNatClampNeg + n.toNatClampNeg ≤ n1 := by
  unfold q_cok at h
  simp only [Bool.and_eq_true, Bool.not_eq_true', decide_eq_false_iff_not, decide_eq_true_eq] at h
  exact h
theorem q_natw : nativeFrameWords "java/lang/System" "arraycopy" 5 + 11 + 8 ≤ 64 := by decide +kernel
theorem e_copyi (G : q_Ok E Γ own cc nL d) {idx a n0 b n1 : Nat} {sp dp n : Int32} {kq : qW → Option (α × qW)} (hc : q_Cpy own idx) (hs0 : q_shp[a]? = some (.inr (.inl n0))) (hs1 : q_shp[b]? = some (.inr (.inl n1))) (hd : 1 ≤ d) (hw : (st.map fun v => v.category).sum ≤ 8) (dd : decode cc pc = .ok (.invokestatic idx, 3)) (kk : ∀ w2 : qW, q_Ev E Γ nL F (pc + 3) L st w2 (kq w2)) : q_Ev E Γ nL F pc L (.int n :: .int dp :: .ref b :: .int sp :: .ref a :: st) w (q_cpi w a n0 b n1 sp dp n kq) := by
  intro r w9 ho hF H locs ls hR hS hl
  unfold q_cpi at ho
  by_cases hq : q_cok sp dp n n0 n1 = true
  · rw [if_pos hq] at ho
    obtain ⟨h1, h2, h3, h4, h5⟩ := q_cok_spec hq
    have hts := G.2.2.2.2.1
    have hww : (q_world E w).set b (q_ρ E b, .inl ((q_cA E).1, n1, .inl (va_cpy (q_A w a) (q_A w b) sp.toNatClampNeg dp.toNatClampNeg n.toNatClampNeg))) = q_world E (q_sA w b (va_cpy (q_A w a) (q_A w b) sp.toNatClampNeg dp.toNatClampNeg n.toNatClampNeg)) := q_world_set hs1 (by simp [q_cell, q_A, q_sA]) (fun a s2 h => q_cell_sA s2 h)
    obtain ⟨g1, g2, g3, g4, g5, g6, g7, g8, g9, g10⟩ := G
    have hn := q_natw
    refine va_copyi g1 g2 (g3.trans hl.1.symm) g4 (hts _ hc.1) (hts _ hc.2.1) (hts _ hc.2.2.1) (hts _ hc.2.2.2) g6.1 hR.1 hR.2 hS a b 0 0 (ty := .int) (q_world_at hs0) (q_world_at hs1) rfl rfl rfl h1 h2 h3 h4 h5 (fun _ _ => rfl) (Nat.le_trans hd g7) (by rw [q_v_sum]; omega) dd (fun H1 locs1 e1 e2 e3 => ?_)
    rw [hww] at e1 e2
    exact kk _ r w9 ho hF H1 locs1 ls ⟨e1, e2⟩ e3 hl
  · rw [if_neg hq] at ho; cases ho
theorem e_copyl (G : q_Ok E Γ own cc nL d) {idx a n0 b n1 : Nat} {sp dp n : Int32} {kq : qW → Option (α × qW)} (hc : q_Cpy own idx) (hs0 : q_shp[a]? = some (.inr (.inr (.inl n0)))) (hs1 : q_shp[b]? = some (.inr (.inr (.inl n1)))) (hd : 1 ≤ d) (hw : (st.map fun v => v.category).sum ≤ 8) (dd : decode cc pc = .ok (.invokestatic idx, 3)) (kk : ∀ w2 : qW, q_Ev E Γ nL F (pc + 3) L st w2 (kq w2)) : q_Ev E Γ nL F pc L (.int n :: .int dp :: .ref b :: .int sp :: .ref a :: st) w (q_cpl w a n0 b n1 sp dp n kq) := by
  intro r w9 ho hF H locs ls hR hS hl
  unfold q_cpl at ho
  by_cases hq : q_cok sp dp n n0 n1 = true
  · rw [if_pos hq] at ho
    obtain ⟨h1, h2, h3, h4, h5⟩ := q_cok_spec hq
    have hts := G.2.2.2.2.1
    have hww : (q_world E w).set b (q_ρ E b, .inl ((q_cA E).2.1, n1, .inr (.inl (va_cpy (q_G w a) (q_G w b) sp.toNatClampNeg dp.toNatClampNeg n.toNatClampNeg)))) = q_world E (q_sG w b (va_cpy (q_G w a) (q_G w b) sp.toNatClampNeg dp.toNatClampNeg n.toNatClampNeg)) := q_world_set hs1 (by simp [q_cell, q_G, q_sG]) (fun a s2 h => q_cell_sG s2 h)
    obtain ⟨g1, g2, g3, g4, g5, g6, g7, g8, g9, g10⟩ := G
    have hn := q_natw
    refine va_copyl g1 g2 (g3.trans hl.1.symm) g4 (hts _ hc.1) (hts _ hc.2.1) (hts _ hc.2.2.1) (hts _ hc.2.2.2) g6.1 hR.1 hR.2 hS a b 1 1 (ty := .long) (q_world_at hs0) (q_world_at hs1) rfl rfl rfl h1 h2 h3 h4 h5 (fun _ _ => rfl) (Nat.le_trans hd g7) (by rw [q_v_sum]; omega) dd (fun H1 locs1 e1 e2 e3 => ?_)
    rw [hww] at e1 e2
    exact kk _ r w9 ho hF H1 locs1 ls ⟨e1, e2⟩ e3 hl
  · rw [if_neg hq] at ho; cases ho
end
