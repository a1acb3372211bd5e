/-! an abstract world: int fields, dynamic references, contents of int and long arrays, by the number of the object -/
abbrev qW : Type := (Nat → Nat → Int32) × (Nat → Nat → Nat) × (Nat → Nat → Int32) × (Nat → Nat → Int64)
def q_I (w : qW) (o k : Nat) : Int32 := w.1 o k
def q_R (w : qW) (o k : Nat) : Nat := w.2.1 o k
def q_A (w : qW) (o : Nat) : Nat → Int32 := w.2.2.1 o
def q_G (w : qW) (o : Nat) : Nat → Int64 := w.2.2.2 o
def q_sI (w : qW) (o k : Nat) (v : Int32) : qW := (fun a b => if a = o ∧ b = k then v else w.1 a b, w.2)
def q_sR (w : qW) (o k : Nat) (v : Nat) : qW := (w.1, fun a b => if a = o ∧ b = k then v else w.2.1 a b, w.2.2)
def q_sA (w : qW) (o : Nat) (f : Nat → Int32) : qW := (w.1, w.2.1, fun a => if a = o then f else w.2.2.1 a, w.2.2.2)
def q_sG (w : qW) (o : Nat) (f : Nat → Int64) : qW := (w.1, w.2.1, w.2.2.1, fun a => if a = o then f else w.2.2.2 a)
/-- a cell's shape: an object (class, slots: none an int, some none a reference that changes, some some a fixed one), an int array, a long array, an array of references -/
abbrev qS : Type := (Nat × List (Option (Option Nat))) ⊕ Nat ⊕ Nat ⊕ List Nat
abbrev qE : Type := va_G × (ClassId × ClassId × ClassId) × (Nat → Nat) × Nat × Nat × (Nat → Int32)
abbrev q_D (E : qE) : va_G := E.1
abbrev q_cA (E : qE) : ClassId × ClassId × ClassId := E.2.1
abbrev q_ρ (E : qE) : Nat → Nat := E.2.2.1
abbrev q_N (E : qE) : Nat := E.2.2.2.1
abbrev q_Lz (E : qE) : Nat := E.2.2.2.2.1
abbrev q_xs (E : qE) : Nat → Int32 := E.2.2.2.2.2
def q_A0 (E : qE) : Nat → Prop := fun q => q_N E ≤ q
def q_slot (ρ : Nat → Nat) (w : qW) (o k : Nat) : Option (Option Nat) → Value
  | none => .int (q_I w o k)
  | some none => .ref (ρ (q_R w o k))
  | some (some r) => .ref (ρ r)
def q_cell (E : qE) (w : qW) (o : Nat) : qS → va_E
  | .inl (ci, sl) => .inr (ci, sl.mapIdx (fun k x => q_slot (q_ρ E) w o k x))
  | .inr (.inl n) => .inl ((q_cA E).1, n, .inl (q_A w o))
  | .inr (.inr (.inl n)) => .inl ((q_cA E).2.1, n, .inr (.inl (q_G w o)))
  | .inr (.inr (.inr rs)) => .inl ((q_cA E).2.2, rs.length, .inr (.inr (.inr (.inr (fun j => (rs[j]?).map (q_ρ E))))))
def q_shp : List qS := [
  .inl (10, [some (some 1), some (some 3), some (some 9), some (some 10), some (some 16), some (some 21), some (some 24), some (some 26), some (some 32), some (some 35)]),
  .inl (4, [some (some 2), none, none]), .inr (.inl 64),
  .inl (3, [some (some 4), none, none, some none, none, some none, none, none, some (some 7), some (some 8)]), .inr (.inl 120), .inr (.inl 128), .inr (.inl 128), .inr (.inl 64), .inr (.inl 6),
  .inl (5, [some (some 1), some (some 3)]),
  .inl (7, [some (some 1), some (some 9), some (some 11), some (some 12), some (some 13), some (some 14), some (some 15)]), .inr (.inl 96), .inr (.inl 672), .inr (.inl 128), .inr (.inl 128), .inr (.inl 84),
  .inl (0, [some (some 1), some (some 9), some (some 17), some (some 18), none, none, some (some 19), some (some 20), none, none]), .inr (.inl 20), .inr (.inl 20), .inr (.inl 20), .inr (.inl 140),
  .inl (9, [some (some 1), some (some 9), some none, some none]), .inr (.inl 1728), .inr (.inl 1728),
  .inl (1, [some (some 1), some (some 25), none, none]), .inr (.inl 160),
  .inl (2, [some (some 1), some (some 27), none, none, none, some (some 28), some (some 29), some (some 30), some (some 31)]), .inr (.inl 6), .inr (.inl 7), .inr (.inl 7), .inr (.inl 8), .inr (.inl 6),
  .inl (8, [some (some 33), none, some (some 34), none, none]), .inr (.inl 50), .inr (.inl 24),
  .inr (.inr (.inr [36, 38, 40, 42, 44, 46])),
  .inl (6, [none, none, none, some (some 37)]), .inr (.inr (.inl 60)),
  .inl (6, [none, none, none, some (some 39)]), .inr (.inr (.inl 60)),
  .inl (6, [none, none, none, some (some 41)]), .inr (.inr (.inl 60)),
  .inl (6, [none, none, none, some (some 43)]), .inr (.inr (.inl 60)),
  .inl (6, [none, none, none, some (some 45)]), .inr (.inr (.inl 60)),
  .inl (6, [none, none, none, some (some 47)]), .inr (.inr (.inl 60)),
  .inl (11, [some (some 49), some (some 50), some (some 51), some (some 52), none, none, none, none, some (some 53), none, some (some 54), none, none, none, none, none, none, some (some 55), none, some (some 56), none, none, none, none, some (some 57), some (some 58), some (some 59), some (some 60), none, some (some 61), some (some 62), none, none, none, some (some 63), some (some 64), some (some 65), some (some 66)]),
  .inr (.inl 57), .inr (.inl 40), .inr (.inl 40), .inr (.inl 40), .inr (.inl 120), .inr (.inl 120), .inr (.inl 6), .inr (.inl 5), .inr (.inl 7), .inr (.inl 7), .inr (.inl 8), .inr (.inl 5), .inr (.inl 50), .inr (.inl 24), .inr (.inl 6), .inr (.inl 6), .inr (.inr (.inl 360)), .inr (.inr (.inl 60))]
def q_world (E : qE) (w : qW) : va_W := q_shp.mapIdx (fun o sh => (q_ρ E o, q_cell E w o sh))
theorem q_world_at {E : qE} {w : qW} {o : Nat} {sh : qS} (h : q_shp[o]? = some sh) : (q_world E w)[o]? = some (q_ρ E o, q_cell E w o sh) := by
  unfold q_world
  rw [List.getElem?_mapIdx, h]
  rfl
/-- a cell of a world that differs from another at one number alone -/
theorem q_world_set {E : qE} {w w' : qW} {o : Nat} {sh : qS} (h : q_shp[o]? = some sh) {c : va_E} (hc : q_cell E w' o sh = c) (hne : ∀ (a : Nat) (s2 : qS), a ≠ o → q_cell E w' a s2 = q_cell E w a s2) : (q_world E w).set o (q_ρ E o, c) = q_world E w' := by
  apply List.ext_getElem?
  intro i
  by_cases hi : i = o
  · subst hi
    have hl : i < (q_world E w).length := by
      have := (List.getElem?_eq_some_iff.mp h).1
      simpa [q_world] using this
    rw [List.getElem?_set_self hl, q_world_at h, hc]
  · rw [List.getElem?_set_ne (Ne.symm hi)]
    unfold q_world
    rw [List.getElem?_mapIdx, List.getElem?_mapIdx]
    cases hsh : q_shp[i]? with
    | none => rfl
    | some s2 => show some (q_ρ E i, _) = some (q_ρ E i, _); rw [hne i s2 hi]
theorem q_cell_sI {E : qE} {w : qW} {o k : Nat} {v : Int32} {a : Nat} (s2 : qS) (h : a ≠ o) : q_cell E (q_sI w o k v) a s2 = q_cell E w a s2 := by
  rcases s2 with ⟨ci, sl⟩ | n | n | rs
  · show Sum.inr (ci, sl.mapIdx _) = Sum.inr (ci, sl.mapIdx _)
    congr 2
    apply List.ext_getElem?
    intro i
    rw [List.getElem?_mapIdx, List.getElem?_mapIdx]
    cases sl[i]? with
    | none => rfl
    | some x =>
      rcases x with _ | _ | r
      · simp [q_slot, q_I, q_sI, h]
      · rfl
      · rfl
  · rfl
  · rfl
  · rfl
theorem q_cell_sR {E : qE} {w : qW} {o k : Nat} {v : Nat} {a : Nat} (s2 : qS) (h : a ≠ o) : q_cell E (q_sR w o k v) a s2 = q_cell E w a s2 := by
  rcases s2 with ⟨ci, sl⟩ | n | n | rs
  · show Sum.inr (ci, sl.mapIdx _) = Sum.inr (ci, sl.mapIdx _)
    congr 2
    apply List.ext_getElem?
    intro i
    rw [List.getElem?_mapIdx, List.getElem?_mapIdx]
    cases sl[i]? with
    | none => rfl
    | some x =>
      rcases x with _ | _ | r
      · rfl
      · simp [q_slot, q_R, q_sR, h]
      · rfl
  · rfl
  · rfl
  · rfl
theorem q_cell_sA {E : qE} {w : qW} {o : Nat} {f : Nat → Int32} {a : Nat} (s2 : qS) (h : a ≠ o) : q_cell E (q_sA w o f) a s2 = q_cell E w a s2 := by
  rcases s2 with ⟨ci, sl⟩ | n | n | rs
  · rfl
  · simp [q_cell, q_A, q_sA, h]
  · rfl
  · rfl
theorem q_cell_sG {E : qE} {w : qW} {o : Nat} {f : Nat → Int64} {a : Nat} (s2 : qS) (h : a ≠ o) : q_cell E (q_sG w o f) a s2 = q_cell E w a s2 := by
  rcases s2 with ⟨ci, sl⟩ | n | n | rs
  · rfl
  · rfl
  · simp [q_cell, q_G, q_sG, h]
  · rfl
/-- the object's own slots behind a store -/
theorem q_slots_sI {E : qE} {w : qW} {o k : Nat} {v : Int32} {sl : List (Option (Option Nat))} (hk : sl[k]? = some none) : (sl.mapIdx (fun j x => q_slot (q_ρ E) w o j x)).set k (.int v) = sl.mapIdx (fun j x => q_slot (q_ρ E) (q_sI w o k v) o j x) := by
  have hl := (List.getElem?_eq_some_iff.mp hk).1
  apply List.ext_getElem?
  intro i
  by_cases hi : i = k
  · subst hi
    rw [List.getElem?_set_self (by simpa using hl), List.getElem?_mapIdx, hk]
    simp [q_slot, q_I, q_sI]
  · rw [List.getElem?_set_ne (Ne.symm hi), List.getElem?_mapIdx, List.getElem?_mapIdx]
    cases sl[i]? with
    | none => rfl
    | some x =>
      rcases x with _ | _ | r
      · simp [q_slot, q_I, q_sI, hi]
      · rfl
      · rfl
theorem q_slots_sR {E : qE} {w : qW} {o k : Nat} {v : Nat} {sl : List (Option (Option Nat))} (hk : sl[k]? = some (some none)) : (sl.mapIdx (fun j x => q_slot (q_ρ E) w o j x)).set k (.ref (q_ρ E v)) = sl.mapIdx (fun j x => q_slot (q_ρ E) (q_sR w o k v) o j x) := by
  have hl := (List.getElem?_eq_some_iff.mp hk).1
  apply List.ext_getElem?
  intro i
  by_cases hi : i = k
  · subst hi
    rw [List.getElem?_set_self (by simpa using hl), List.getElem?_mapIdx, hk]
    simp [q_slot, q_R, q_sR]
  · rw [List.getElem?_set_ne (Ne.symm hi), List.getElem?_mapIdx, List.getElem?_mapIdx]
    cases sl[i]? with
    | none => rfl
    | some x =>
      rcases x with _ | _ | r
      · rfl
      · simp [q_slot, q_R, q_sR, hi]
      · rfl
theorem q_slot_at {E : qE} {w : qW} {o k : Nat} {sl : List (Option (Option Nat))} {x : Option (Option Nat)} (hk : sl[k]? = some x) : (sl.mapIdx (fun j y => q_slot (q_ρ E) w o j y))[k]? = some (q_slot (q_ρ E) w o k x) := by
  rw [List.getElem?_mapIdx, hk]
  rfl
/-! what holds of every state: classes, tables, statics, links of nest mates -/
def q_tys (E : qE) : List (ClassId × FieldType) := [((q_cA E).1, .int), ((q_cA E).2.1, .long), ((q_cA E).2.2, .object "HiredShade$Shelf")]
def q_T (k : Nat) : Nat → Int32 := match k with
  | 0 => fun j => [0, 0, 0, 0, 0, 0, 1, 0].getD j 0
  | 1 => fun j => [143, 2, 4, 99, 143, 4095, 12, 9].getD j 0
  | 2 => fun j => [4, 0, 1, 2, 3].getD j 0
  | 3 => fun j => [4, 3, 2, 1, 1, 1, 2, 2, 1, 2, 3, 4].getD j 0
  | 4 => fun j => [-1, 0, 0, 2, 1, 3, 0, 4].getD j 0
  | 5 => fun j => [1, 10, 11, 2, 20, 0, 0, 0, 0, 30, 0, 0, 0, 41, 40, 0, 0, 0, 50, 0, 0, 0, 0, 60, 70, 0, 0, 0, 0, 80, 0, 81].getD j 0
  | _ => fun _ => 0
def q_Tn (k : Nat) : Nat := match k with
  | 0 => 8
  | 1 => 8
  | 2 => 5
  | 3 => 12
  | 4 => 8
  | 5 => 32
  | _ => 0
def q_Ts : List (String × String) := [("HiredShade$People", "LOWEST"), ("HiredShade$People", "HIGHEST"), ("HiredShade", "STEP_ORDER"), ("HiredShade$Shade", "LONG"), ("HiredShade$Trees", "ABOVE"), ("HiredShade$Trees", "OWN")]
def q_isNest : Cond → Bool
  | .fieldLinkNest _ _ _ _ _ _ => true
  | .methodLinkNest _ _ _ _ => true
  | _ => false
def q_gW : List Cond := lw_tbl.filter goodWord
def q_nW : List Cond := lw_tbl.filter q_isNest
def q_Gl (E : qE) (U : State) (H : Heap) : Prop := va_K (q_D E) vwCl (q_tys E) U ∧ (∀ k, k < 6 → va_T .int (q_ρ E (100 + k)) (q_Tn k) (fun j => .int (q_T k j)) (q_A0 E) U H) ∧ (∀ (k : Nat) (z : String × String), q_Ts[k]? = some z → va_Z z.1 z.2 "[I" (.ref (q_ρ E (100 + k))) (q_A0 E) U H) ∧ (∀ w ∈ q_nW, va_Nw w U) ∧ va_T .int (q_ρ E 106) (q_Lz E) (fun j => .int (q_xs E j)) (q_A0 E) U H
theorem q_nest_moved {s U : State} (hW : s.WarmedH U.vm) (h : ∀ w ∈ q_nW, va_Nw w s) : ∀ w ∈ q_nW, va_Nw w U := by
  intro w hw
  have h1 := h w hw
  have h2 : q_isNest w = true := (List.mem_filter.mp hw).2
  cases w with
  | fieldLinkNest a i b n d h => exact va_Nw.warmF hW h1
  | methodLinkNest a i x h => exact va_Nw.warmM hW h1
  | _ => simp [q_isNest] at h2
theorem q_Gl.moved {E : qE} {s U : State} {H : Heap} {locs : List Loc} (h : q_Gl E s s.heap) (hW : s.WarmedH U.vm) (hS : va_S (q_A0 E) s.heap H locs) : q_Gl E U H := by
  obtain ⟨h1, h2, h3, h4, h5⟩ := h
  have hk : ∀ a : Nat, a < s.heap.size → ¬ q_A0 E a → H[a]? = s.heap[a]? := fun a h1 h2 => hS.2.1 a h1 h2
  exact ⟨va_K.moved hW.alike h1, fun k hk2 => ((h2 k hk2).kept hk).moved hW.alike, fun k z hz => ((h3 k z hz).kept hk).moved hW.alike, q_nest_moved hW h4, (h5.kept hk).moved hW.alike⟩
theorem q_Gl.same {E : qE} {u U : State} {H : Heap} (h : q_Gl E u H) (hvm : u.vm = U.vm) : q_Gl E U H := by
  obtain ⟨h1, h2, h3, h4, h5⟩ := h
  have ha : u.vm.Alike U.vm := by rw [hvm]; exact Vm.Alike.refl _
  refine ⟨va_K.moved ha h1, fun k hk2 => (h2 k hk2).moved ha, fun k z hz => (h3 k z hz).moved ha, fun w hw => ?_, h5.moved ha⟩
  have h2 : q_isNest w = true := (List.mem_filter.mp hw).2
  have h6 := h4 w hw
  cases w with
  | fieldLinkNest a i b n d h => exact va_Nw.same rfl hvm h6
  | methodLinkNest a i x h => exact va_Nw.same rfl hvm h6
  | _ => simp [q_isNest] at h2
def q_Rel (E : qE) (w : qW) (H : Heap) : Prop := va_P (q_D E) vwCl (q_world E w) H ∧ va_D (q_A0 E) (q_world E w)
