/-! the judgement: from this point of a method the machine comes to the end that the pure program o tells; every rule is one instruction -/
def q_v (ρ : Nat → Nat) : Value → Value
  | .ref i => .ref (ρ i)
  | v => v
def q_LH (ρ : Nat → Nat) (ls : Array Slot) (nL : Nat) (L : List (Option Value)) : Prop := ls.size = nL ∧ lv_wf ls ∧ ∀ (i : Nat) (v : Value), L[i]? = some (some v) → ls[i]? = some (.val (q_v ρ v))
abbrev qC : Type := Program × Launch × Env × Room × State × MethodId × Array Value × List Frame × Method × Code × (State → Prop) × Nat × Nat
abbrev q_p (Γ : qC) : Program := Γ.1
abbrev q_l (Γ : qC) : Launch := Γ.2.1
abbrev q_e (Γ : qC) : Env := Γ.2.2.1
abbrev q_Rm (Γ : qC) : Room := Γ.2.2.2.1
abbrev q_s (Γ : qC) : State := Γ.2.2.2.2.1
abbrev q_m (Γ : qC) : MethodId := Γ.2.2.2.2.2.1
abbrev q_as (Γ : qC) : Array Value := Γ.2.2.2.2.2.2.1
abbrev q_be (Γ : qC) : List Frame := Γ.2.2.2.2.2.2.2.1
abbrev q_me (Γ : qC) : Method := Γ.2.2.2.2.2.2.2.2.1
abbrev q_c (Γ : qC) : Code := Γ.2.2.2.2.2.2.2.2.2.1
abbrev q_Qt (Γ : qC) : State → Prop := Γ.2.2.2.2.2.2.2.2.2.2.1
abbrev q_ce (Γ : qC) : Nat := Γ.2.2.2.2.2.2.2.2.2.2.2.1
abbrev q_sl (Γ : qC) : Nat := Γ.2.2.2.2.2.2.2.2.2.2.2.2
def q_W (Γ : qC) (H : Heap) (locs : List Loc) (g : JFrame) : Prop := W (q_p Γ) (q_l Γ) (q_e Γ) (q_Rm Γ) (q_s Γ) (q_m Γ) (q_as Γ) (q_be Γ) (q_me Γ) (q_c Γ) H locs (q_ce Γ) (q_sl Γ) (q_Qt Γ) g
def q_Ok (E : qE) (Γ : qC) (own : String) (cc : ByteArray) (nL d : Nat) : Prop :=
  (q_p Γ).tables.exec = Jvm.exec ∧ (q_c Γ).code = cc ∧ (q_c Γ).maxLocals = nL ∧ (q_s Γ).vm.findClass own = some (q_m Γ).cls ∧ (∀ w ∈ q_gW, w.before (q_as Γ) (q_s Γ) = true) ∧ q_Gl E (q_s Γ) (q_s Γ).heap ∧ d ≤ (q_Rm Γ).frames ∧ 64 * d ≤ (q_Rm Γ).locals ∧ q_ce Γ ≤ (q_Rm Γ).cells ∧ q_sl Γ ≤ (q_Rm Γ).slots
def q_Ev {α : Type} (E : qE) (Γ : qC) (nL : Nat) (F : α → qW → Prop) (pc : Nat) (L : List (Option Value)) (st : List Value) (w : qW) (o : Option (α × qW)) : Prop :=
  ∀ (r : α) (w' : qW), o = some (r, w') → F r w' → ∀ (H : Heap) (locs : List Loc) (ls : Array Slot), q_Rel E w H → va_S (q_A0 E) (q_s Γ).heap H locs → q_LH (q_ρ E) ls nL L → q_W Γ H locs (F0 (q_m Γ) pc ls (st.map (q_v (q_ρ E))))
/-! the words of the pure programs -/
def q_bn {α β : Type} (v : α) (k : α → Option β) : Option β := k v
def q_cl {α β : Type} (o : Option (α × qW)) (k : α → qW → Option β) : Option β := match o with
  | none => none
  | some (r, w) => k r w
def q_in (j : Int32) (n : Nat) : Bool := !(decide (j < 0) || decide (n ≤ j.toNatClampNeg))
theorem q_in_spec {j : Int32} {n : Nat} (h : q_in j n = true) : vp_in j n := by
  unfold q_in at h
  unfold vp_in
  simpa using h
def q_ld {α β : Type} (f : Nat → α) (n : Nat) (j : Int32) (k : α → Option β) : Option β := if q_in j n = true then k (f j.toNatClampNeg) else none
def q_st {β : Type} (w : qW) (o n : Nat) (j v : Int32) (k : qW → Option β) : Option β := if q_in j n = true then k (q_sA w o (upd (q_A w o) j.toNatClampNeg v)) else none
def q_stl {β : Type} (w : qW) (o n : Nat) (j : Int32) (v : Int64) (k : qW → Option β) : Option β := if q_in j n = true then k (q_sG w o (vp_updL (q_G w o) j.toNatClampNeg v)) else none
def q_nz {β : Type} (y : Int32) (k : Option β) : Option β := if y = 0 then none else k
def q_rem (x y : Int32) : Int32 := x - x / y * y
def q_rf {β : Type} (id n : Nat) (k : Nat → Option β) : Option β := if q_shp[id]? = some (.inr (.inl n)) then k id else none
def q_she (j : Int32) : Nat := 36 + 2 * j.toNatClampNeg
def q_al {β : Type} (j : Int32) (k : Nat → Option β) : Option β := if q_in j 6 = true then k (q_she j) else none
def q_shelf (id : Nat) : Prop := q_shp[id]? = some (.inl (6, [none, none, none, some (some (id + 1))])) ∧ q_shp[id + 1]? = some (.inr (.inr (.inl 60)))
def q_ush (x y : Int32) : Int32 := (x.toUInt32 >>> (y.toUInt32 &&& Int32.toUInt32 31)).toInt32
def q_lt (x y : Int32) : Prop := x < y
/-- storing into locals: what is overwritten goes -/
def q_stL (L : List (Option Value)) (i : Nat) (v : Value) : List (Option Value) := L.mapIdx (fun j x => if j = i then some v else match x with
  | some (.long _) => if j + 1 = i then none else x
  | some (.double _) => if j + 1 = i then none else x
  | _ => x)
def q_stL2 (L : List (Option Value)) (i : Nat) (v : Value) : List (Option Value) := L.mapIdx (fun j x => if j = i then some v else if j = i + 1 then none else match x with
  | some (.long _) => if j + 1 = i then none else x
  | some (.double _) => if j + 1 = i then none else x
  | _ => x)
def q_le : List (Option Value) → List (Option Value) → Prop
  | [], _ => True
  | none :: a, _ :: b => q_le a b
  | some v :: a, some u :: b => v = u ∧ q_le a b
  | _, _ => False
theorem q_le_spec : ∀ {a b : List (Option Value)}, q_le a b → ∀ (i : Nat) (v : Value), a[i]? = some (some v) → b[i]? = some (some v)
  | [], _, _, i, v, h => by simp at h
  | none :: a, y :: b, hq, i, v, h => by
    cases i with
    | zero => simp at h
    | succ i => exact q_le_spec (a := a) (b := b) hq i v (by simpa using h)
  | some x :: a, some u :: b, hq, i, v, h => by
    obtain ⟨h1, h2⟩ := hq
    cases i with
    | zero => simpa [h1] using h
    | succ i => exact q_le_spec (a := a) (b := b) h2 i v (by simpa using h)
  | some x :: a, none :: b, hq, i, v, h => hq.elim
  | some x :: a, [], hq, i, v, h => hq.elim
  | none :: a, [], hq, i, v, h => hq.elim
theorem q_v_cat (ρ : Nat → Nat) (v : Value) : (q_v ρ v).category = v.category := by cases v <;> rfl
theorem q_v_sum (ρ : Nat → Nat) (st : List Value) : ((st.map (q_v ρ)).map fun v => v.category).sum = (st.map fun v => v.category).sum := by
  rw [List.map_map]
  congr 1
  apply List.map_congr_left
  intro v _
  exact q_v_cat ρ v
/-- the listed locals, as the kit's list -/
def q_lv (ρ : Nat → Nat) (L : List (Option Value)) : List (Nat × Value) := (L.zipIdx).filterMap (fun q => q.1.map (fun v => (q.2, q_v ρ v)))
theorem q_lv_mem {ρ : Nat → Nat} {L : List (Option Value)} {i : Nat} {v : Value} (h : L[i]? = some (some v)) : (i, q_v ρ v) ∈ q_lv ρ L := by
  unfold q_lv
  refine List.mem_filterMap.mpr ⟨(some v, i), ?_, rfl⟩
  exact List.mem_zipIdx_iff_getElem?.mpr h
theorem q_LH.has {ρ : Nat → Nat} {ls : Array Slot} {nL : Nat} {L : List (Option Value)} (h : q_LH ρ ls nL L) : lv_has ls nL (q_lv ρ L) := by
  refine ⟨h.1, h.2.1, fun q hq => ?_⟩
  unfold q_lv at hq
  obtain ⟨⟨x, i⟩, h1, h2⟩ := List.mem_filterMap.mp hq
  have h3 := List.mem_zipIdx_iff_getElem?.mp h1
  cases x with
  | none => simp at h2
  | some v =>
    have h4 : (i, q_v ρ v) = q := by simpa using h2
    subst h4
    exact h.2.2 i v h3
theorem q_LH.store1 {ρ : Nat → Nat} {ls' : Array Slot} {nL i : Nat} {L : List (Option Value)} {v : Value} (h : lv_has ls' nL ((i, q_v ρ v) :: (q_lv ρ L).filter (fun q => !(q.1 == i) && !(q.1 + 1 == i && q.2.category == 2)))) : q_LH ρ ls' nL (q_stL L i v) := by
  refine ⟨h.1, h.2.1, fun j u hj => ?_⟩
  unfold q_stL at hj
  rw [List.getElem?_mapIdx] at hj
  cases hx : L[j]? with
  | none => rw [hx] at hj; simp at hj
  | some x =>
    rw [hx] at hj
    by_cases hji : j = i
    · subst hji
      have hu : v = u := by simpa using hj
      subst hu
      exact h.2.2 (j, q_v ρ v) List.mem_cons_self
    · have hxu : x = some u ∧ ¬ (u.category = 2 ∧ j + 1 = i) := by
        simp only [Option.map_some, hji, if_false, Option.some.injEq] at hj
        cases x with
        | none => simp at hj
        | some y =>
          cases y with
          | long z =>
            simp only at hj
            by_cases hz : j + 1 = i
            · rw [if_pos hz] at hj; cases hj
            · rw [if_neg hz] at hj
              exact ⟨hj, fun q => hz q.2⟩
          | double z =>
            simp only at hj
            by_cases hz : j + 1 = i
            · rw [if_pos hz] at hj; cases hj
            · rw [if_neg hz] at hj
              exact ⟨hj, fun q => hz q.2⟩
          | _ =>
            simp only at hj
            refine ⟨hj, fun q => ?_⟩
            have := Option.some.inj hj
            subst this
            first | (simp [Value.category] at q; done) | (exact absurd q.1 (by simp [Value.category]))
      obtain ⟨rfl, hn⟩ := hxu
      refine h.2.2 (j, q_v ρ u) (List.mem_cons_of_mem _ (List.mem_filter.mpr ⟨q_lv_mem hx, ?_⟩))
      simp only [Bool.and_eq_true, Bool.not_eq_true', beq_eq_false_iff_ne, ne_eq, Bool.and_eq_false_iff, q_v_cat]
      refine ⟨hji, ?_⟩
      by_cases hz : j + 1 = i
      · exact Or.inr (fun q => hn ⟨q, hz⟩)
      · exact Or.inl hz
theorem q_LH.store2 {ρ : Nat → Nat} {ls' : Array Slot} {nL i : Nat} {L : List (Option Value)} {v : Value} (h : lv_has ls' nL ((i, q_v ρ v) :: (q_lv ρ L).filter (fun q => !(q.1 == i) && (!(q.1 == i + 1) && !(q.1 + 1 == i && q.2.category == 2))))) : q_LH ρ ls' nL (q_stL2 L i v) := by
  refine ⟨h.1, h.2.1, fun j u hj => ?_⟩
  unfold q_stL2 at hj
  rw [List.getElem?_mapIdx] at hj
  cases hx : L[j]? with
  | none => rw [hx] at hj; simp at hj
  | some x =>
    rw [hx] at hj
    by_cases hji : j = i
    · subst hji
      have hu : v = u := by simpa using hj
      subst hu
      exact h.2.2 (j, q_v ρ v) List.mem_cons_self
    · by_cases hj1 : j = i + 1
      · subst hj1
        simp at hj
      · have hxu : x = some u ∧ ¬ (u.category = 2 ∧ j + 1 = i) := by
          simp only [Option.map_some, hji, hj1, if_false, Option.some.injEq] at hj
          cases x with
          | none => simp at hj
          | some y =>
            cases y with
            | long z =>
              simp only at hj
              by_cases hz : j + 1 = i
              · rw [if_pos hz] at hj; cases hj
              · rw [if_neg hz] at hj
                exact ⟨hj, fun q => hz q.2⟩
            | double z =>
              simp only at hj
              by_cases hz : j + 1 = i
              · rw [if_pos hz] at hj; cases hj
              · rw [if_neg hz] at hj
                exact ⟨hj, fun q => hz q.2⟩
            | _ =>
              simp only at hj
              refine ⟨hj, fun q => ?_⟩
              have := Option.some.inj hj
              subst this
              first | (simp [Value.category] at q; done) | (exact absurd q.1 (by simp [Value.category]))
        obtain ⟨rfl, hn⟩ := hxu
        refine h.2.2 (j, q_v ρ u) (List.mem_cons_of_mem _ (List.mem_filter.mpr ⟨q_lv_mem hx, ?_⟩))
        simp only [Bool.and_eq_true, Bool.not_eq_true', beq_eq_false_iff_ne, ne_eq, Bool.and_eq_false_iff, q_v_cat]
        refine ⟨hji, hj1, ?_⟩
        by_cases hz : j + 1 = i
        · exact Or.inr (fun q => hn ⟨q, hz⟩)
        · exact Or.inl hz
