/-! THE CLAIM OUT OF ONE WALK OF THE LAW'S BODY. Your part is whole_start (and what it stands on); all else here is the same for every law, but numbers. -/
def R_law : String := "HiredShadeLaw"
def lw_P (b : Addr) (xs : List Int32) (args : Array Value) (s : State) : Prop := args = #[.ref b] ∧ s.IntsAt b xs ∧ xs.length ≤ 3072 ∧ (Jvm.Cond.and given_1 narrow_1).before args s = true
def lw_Q (_ : Array Value) (s : State) (o : Outcome) (t : State) : Prop := o = .returned (some (.int 1)) ∧ Framed s o t [] 600000 7302250
def lw_Z (below : List Frame) (a : Array Value) (s : State) : State → Prop := fun t => ∃ o, t.status = .running ∧ Ended t below o ∧ lw_Q a s o t
/-- the law's own end, with 1 on the stack, nothing written that was there before, its room as the claim has it -/
theorem lw_ret {p : Program} {l : Launch} {e : Env} {s : State} {m : MethodId} {below : List Frame} {meth : Method} {c : Code} {b : Nat} (hx : p.tables.exec = Jvm.exec) (hb : c.code = code) (hr : meth.sig.returnType = ret) (hlocks : meth.locks = false) {pc : Nat} {H : Heap} {ls : Array Slot} (hdg : decode code pc = .ok (.ireturn, 1)) : W p l e room_1 s m #[Value.ref b] below meth c H [] 600000 7302250 (lw_Z below #[Value.ref b] s) (F0 m pc ls [.int 1]) := by
  intro T hT X
  obtain ⟨fs, hret, hrun, hended, hW, hframe⟩ := X.leave (v := some (.int 1)) (hlocks := hlocks) (fun h => by rw [hr] at h; cases h)
  have hmeth' : T.vm.method? m = some meth := X.method'
  refine ⟨T.setFrames fs, ?_, .returned (some (.int 1)), hrun, hended, rfl, ⟨_, rfl⟩, hW, hframe⟩
  jvm_step X.here [X.here.top, hx, hb, hdg, hmeth', hr, ret, narrow_b1]
  (try refine ⟨rfl, ?_⟩); (try refine ⟨rfl, ?_⟩)
  first | (intro acts; rw [hret _ acts rfl rfl rfl]) | rw [hret _ _ rfl rfl rfl]
  exact Steps.refl _
/-- what holds at the law's entry: the machine, the code, the tables' words (any of lw_tbl by 'hts w (by decide +kernel)'), the script of L ints xs at the cell b, what the Statement gives of the start (any of its parts by flat_of_before) -/
def lw_At (p : Program) (s : State) (m : MethodId) (meth : Method) (c : Code) (b L : Nat) (xs : Nat → Int32) : Prop :=
  p.tables.exec = Jvm.exec ∧ c.code = code ∧ meth.sig.returnType = ret ∧ c.maxLocals = 4 ∧ s.vm.findClass R_law = some m.cls ∧ (∀ w ∈ lw_tbl, w.before #[Value.ref b] s = true) ∧ va_X b L xs s s.heap ∧ b < s.heap.size ∧ meth.locks = false ∧ (Jvm.Cond.and given_1 narrow_1).before #[Value.ref b] s = true
theorem q_stat0 {b : Nat} {s : State} {A : Nat → Prop} (hts : ∀ w ∈ lw_tbl, w.before #[Value.ref b] s = true) (hs : ∀ c ∈ flatC (Jvm.Cond.and given_1 narrow_1), c.before #[Value.ref b] s = true) (hA : ∀ a : Nat, a < s.heap.size → ¬ A a) : ∃ t : Nat, va_Z "HiredShade$People" "LOWEST" "[I" (.ref t) A s s.heap ∧ va_T .int t (q_Tn 0) (fun j => .int (q_T 0 j)) A s s.heap := by
  obtain ⟨t, h1, h2⟩ := va_Tof (tm := (Term.static "HiredShade$People" "LOWEST" "[I")) (ty := .int) (N := 8) (f := fun j => .int (q_T 0 j)) (A := A) (by decide) (hs (Cond.arrayOf (Term.static "HiredShade$People" "LOWEST" "[I") .int) (by decide +kernel)) (va_eqt (hs (Cond.eq (.length (Term.static "HiredShade$People" "LOWEST" "[I")) (.int 8)) (by decide +kernel))) (fun j hj => by
    match j, hj with
    | 0, _ => exact va_eqt (hs (Cond.eq (.elem (Term.static "HiredShade$People" "LOWEST" "[I") (.int 0)) (.int 0)) (by decide +kernel))
    | 1, _ => exact va_eqt (hs (Cond.eq (.elem (Term.static "HiredShade$People" "LOWEST" "[I") (.int 1)) (.int 0)) (by decide +kernel))
    | 2, _ => exact va_eqt (hs (Cond.eq (.elem (Term.static "HiredShade$People" "LOWEST" "[I") (.int 2)) (.int 0)) (by decide +kernel))
    | 3, _ => exact va_eqt (hs (Cond.eq (.elem (Term.static "HiredShade$People" "LOWEST" "[I") (.int 3)) (.int 0)) (by decide +kernel))
    | 4, _ => exact va_eqt (hs (Cond.eq (.elem (Term.static "HiredShade$People" "LOWEST" "[I") (.int 4)) (.int 0)) (by decide +kernel))
    | 5, _ => exact va_eqt (hs (Cond.eq (.elem (Term.static "HiredShade$People" "LOWEST" "[I") (.int 5)) (.int 0)) (by decide +kernel))
    | 6, _ => exact va_eqt (hs (Cond.eq (.elem (Term.static "HiredShade$People" "LOWEST" "[I") (.int 6)) (.int 1)) (by decide +kernel))
    | 7, _ => exact va_eqt (hs (Cond.eq (.elem (Term.static "HiredShade$People" "LOWEST" "[I") (.int 7)) (.int 0)) (by decide +kernel))
    | j + 8, h => exact absurd h (by omega)) hA
  exact ⟨t, va_Zref (hts (.laysStatic "HiredShade$People" "LOWEST" "[I") (List.mem_of_getElem? (i := 391) (by decide +kernel))) (hts _ (List.mem_filter.mp wz_X4).1) h1 hA, h2⟩
theorem q_stat1 {b : Nat} {s : State} {A : Nat → Prop} (hts : ∀ w ∈ lw_tbl, w.before #[Value.ref b] s = true) (hs : ∀ c ∈ flatC (Jvm.Cond.and given_1 narrow_1), c.before #[Value.ref b] s = true) (hA : ∀ a : Nat, a < s.heap.size → ¬ A a) : ∃ t : Nat, va_Z "HiredShade$People" "HIGHEST" "[I" (.ref t) A s s.heap ∧ va_T .int t (q_Tn 1) (fun j => .int (q_T 1 j)) A s s.heap := by
  obtain ⟨t, h1, h2⟩ := va_Tof (tm := (Term.static "HiredShade$People" "HIGHEST" "[I")) (ty := .int) (N := 8) (f := fun j => .int (q_T 1 j)) (A := A) (by decide) (hs (Cond.arrayOf (Term.static "HiredShade$People" "HIGHEST" "[I") .int) (by decide +kernel)) (va_eqt (hs (Cond.eq (.length (Term.static "HiredShade$People" "HIGHEST" "[I")) (.int 8)) (by decide +kernel))) (fun j hj => by
    match j, hj with
    | 0, _ => exact va_eqt (hs (Cond.eq (.elem (Term.static "HiredShade$People" "HIGHEST" "[I") (.int 0)) (.int 143)) (by decide +kernel))
    | 1, _ => exact va_eqt (hs (Cond.eq (.elem (Term.static "HiredShade$People" "HIGHEST" "[I") (.int 1)) (.int 2)) (by decide +kernel))
    | 2, _ => exact va_eqt (hs (Cond.eq (.elem (Term.static "HiredShade$People" "HIGHEST" "[I") (.int 2)) (.int 4)) (by decide +kernel))
    | 3, _ => exact va_eqt (hs (Cond.eq (.elem (Term.static "HiredShade$People" "HIGHEST" "[I") (.int 3)) (.int 99)) (by decide +kernel))
    | 4, _ => exact va_eqt (hs (Cond.eq (.elem (Term.static "HiredShade$People" "HIGHEST" "[I") (.int 4)) (.int 143)) (by decide +kernel))
    | 5, _ => exact va_eqt (hs (Cond.eq (.elem (Term.static "HiredShade$People" "HIGHEST" "[I") (.int 5)) (.int 4095)) (by decide +kernel))
    | 6, _ => exact va_eqt (hs (Cond.eq (.elem (Term.static "HiredShade$People" "HIGHEST" "[I") (.int 6)) (.int 12)) (by decide +kernel))
    | 7, _ => exact va_eqt (hs (Cond.eq (.elem (Term.static "HiredShade$People" "HIGHEST" "[I") (.int 7)) (.int 9)) (by decide +kernel))
    | j + 8, h => exact absurd h (by omega)) hA
  exact ⟨t, va_Zref (hts (.laysStatic "HiredShade$People" "HIGHEST" "[I") (List.mem_of_getElem? (i := 393) (by decide +kernel))) (hts _ (List.mem_filter.mp wz_X4).1) h1 hA, h2⟩
theorem q_stat2 {b : Nat} {s : State} {A : Nat → Prop} (hts : ∀ w ∈ lw_tbl, w.before #[Value.ref b] s = true) (hs : ∀ c ∈ flatC (Jvm.Cond.and given_1 narrow_1), c.before #[Value.ref b] s = true) (hA : ∀ a : Nat, a < s.heap.size → ¬ A a) : ∃ t : Nat, va_Z "HiredShade" "STEP_ORDER" "[I" (.ref t) A s s.heap ∧ va_T .int t (q_Tn 2) (fun j => .int (q_T 2 j)) A s s.heap := by
  obtain ⟨t, h1, h2⟩ := va_Tof (tm := (Term.static "HiredShade" "STEP_ORDER" "[I")) (ty := .int) (N := 5) (f := fun j => .int (q_T 2 j)) (A := A) (by decide) (hs (Cond.arrayOf (Term.static "HiredShade" "STEP_ORDER" "[I") .int) (by decide +kernel)) (va_eqt (hs (Cond.eq (.length (Term.static "HiredShade" "STEP_ORDER" "[I")) (.int 5)) (by decide +kernel))) (fun j hj => by
    match j, hj with
    | 0, _ => exact va_eqt (hs (Cond.eq (.elem (Term.static "HiredShade" "STEP_ORDER" "[I") (.int 0)) (.int 4)) (by decide +kernel))
    | 1, _ => exact va_eqt (hs (Cond.eq (.elem (Term.static "HiredShade" "STEP_ORDER" "[I") (.int 1)) (.int 0)) (by decide +kernel))
    | 2, _ => exact va_eqt (hs (Cond.eq (.elem (Term.static "HiredShade" "STEP_ORDER" "[I") (.int 2)) (.int 1)) (by decide +kernel))
    | 3, _ => exact va_eqt (hs (Cond.eq (.elem (Term.static "HiredShade" "STEP_ORDER" "[I") (.int 3)) (.int 2)) (by decide +kernel))
    | 4, _ => exact va_eqt (hs (Cond.eq (.elem (Term.static "HiredShade" "STEP_ORDER" "[I") (.int 4)) (.int 3)) (by decide +kernel))
    | j + 5, h => exact absurd h (by omega)) hA
  exact ⟨t, va_Zref (hts (.laysStatic "HiredShade" "STEP_ORDER" "[I") (List.mem_of_getElem? (i := 723) (by decide +kernel))) (hts _ (List.mem_filter.mp wz_X10).1) h1 hA, h2⟩
theorem q_stat3 {b : Nat} {s : State} {A : Nat → Prop} (hts : ∀ w ∈ lw_tbl, w.before #[Value.ref b] s = true) (hs : ∀ c ∈ flatC (Jvm.Cond.and given_1 narrow_1), c.before #[Value.ref b] s = true) (hA : ∀ a : Nat, a < s.heap.size → ¬ A a) : ∃ t : Nat, va_Z "HiredShade$Shade" "LONG" "[I" (.ref t) A s s.heap ∧ va_T .int t (q_Tn 3) (fun j => .int (q_T 3 j)) A s s.heap := by
  obtain ⟨t, h1, h2⟩ := va_Tof (tm := (Term.static "HiredShade$Shade" "LONG" "[I")) (ty := .int) (N := 12) (f := fun j => .int (q_T 3 j)) (A := A) (by decide) (hs (Cond.arrayOf (Term.static "HiredShade$Shade" "LONG" "[I") .int) (by decide +kernel)) (va_eqt (hs (Cond.eq (.length (Term.static "HiredShade$Shade" "LONG" "[I")) (.int 12)) (by decide +kernel))) (fun j hj => by
    match j, hj with
    | 0, _ => exact va_eqt (hs (Cond.eq (.elem (Term.static "HiredShade$Shade" "LONG" "[I") (.int 0)) (.int 4)) (by decide +kernel))
    | 1, _ => exact va_eqt (hs (Cond.eq (.elem (Term.static "HiredShade$Shade" "LONG" "[I") (.int 1)) (.int 3)) (by decide +kernel))
    | 2, _ => exact va_eqt (hs (Cond.eq (.elem (Term.static "HiredShade$Shade" "LONG" "[I") (.int 2)) (.int 2)) (by decide +kernel))
    | 3, _ => exact va_eqt (hs (Cond.eq (.elem (Term.static "HiredShade$Shade" "LONG" "[I") (.int 3)) (.int 1)) (by decide +kernel))
    | 4, _ => exact va_eqt (hs (Cond.eq (.elem (Term.static "HiredShade$Shade" "LONG" "[I") (.int 4)) (.int 1)) (by decide +kernel))
    | 5, _ => exact va_eqt (hs (Cond.eq (.elem (Term.static "HiredShade$Shade" "LONG" "[I") (.int 5)) (.int 1)) (by decide +kernel))
    | 6, _ => exact va_eqt (hs (Cond.eq (.elem (Term.static "HiredShade$Shade" "LONG" "[I") (.int 6)) (.int 2)) (by decide +kernel))
    | 7, _ => exact va_eqt (hs (Cond.eq (.elem (Term.static "HiredShade$Shade" "LONG" "[I") (.int 7)) (.int 2)) (by decide +kernel))
    | 8, _ => exact va_eqt (hs (Cond.eq (.elem (Term.static "HiredShade$Shade" "LONG" "[I") (.int 8)) (.int 1)) (by decide +kernel))
    | 9, _ => exact va_eqt (hs (Cond.eq (.elem (Term.static "HiredShade$Shade" "LONG" "[I") (.int 9)) (.int 2)) (by decide +kernel))
    | 10, _ => exact va_eqt (hs (Cond.eq (.elem (Term.static "HiredShade$Shade" "LONG" "[I") (.int 10)) (.int 3)) (by decide +kernel))
    | 11, _ => exact va_eqt (hs (Cond.eq (.elem (Term.static "HiredShade$Shade" "LONG" "[I") (.int 11)) (.int 4)) (by decide +kernel))
    | j + 12, h => exact absurd h (by omega)) hA
  exact ⟨t, va_Zref (hts (.laysStatic "HiredShade$Shade" "LONG" "[I") (List.mem_of_getElem? (i := 542) (by decide +kernel))) (hts _ (List.mem_filter.mp wz_X5).1) h1 hA, h2⟩
theorem q_stat4 {b : Nat} {s : State} {A : Nat → Prop} (hts : ∀ w ∈ lw_tbl, w.before #[Value.ref b] s = true) (hs : ∀ c ∈ flatC (Jvm.Cond.and given_1 narrow_1), c.before #[Value.ref b] s = true) (hA : ∀ a : Nat, a < s.heap.size → ¬ A a) : ∃ t : Nat, va_Z "HiredShade$Trees" "ABOVE" "[I" (.ref t) A s s.heap ∧ va_T .int t (q_Tn 4) (fun j => .int (q_T 4 j)) A s s.heap := by
  obtain ⟨t, h1, h2⟩ := va_Tof (tm := (Term.static "HiredShade$Trees" "ABOVE" "[I")) (ty := .int) (N := 8) (f := fun j => .int (q_T 4 j)) (A := A) (by decide) (hs (Cond.arrayOf (Term.static "HiredShade$Trees" "ABOVE" "[I") .int) (by decide +kernel)) (va_eqt (hs (Cond.eq (.length (Term.static "HiredShade$Trees" "ABOVE" "[I")) (.int 8)) (by decide +kernel))) (fun j hj => by
    match j, hj with
    | 0, _ => exact va_eqt (hs (Cond.eq (.elem (Term.static "HiredShade$Trees" "ABOVE" "[I") (.int 0)) (.int (-1))) (by decide +kernel))
    | 1, _ => exact va_eqt (hs (Cond.eq (.elem (Term.static "HiredShade$Trees" "ABOVE" "[I") (.int 1)) (.int 0)) (by decide +kernel))
    | 2, _ => exact va_eqt (hs (Cond.eq (.elem (Term.static "HiredShade$Trees" "ABOVE" "[I") (.int 2)) (.int 0)) (by decide +kernel))
    | 3, _ => exact va_eqt (hs (Cond.eq (.elem (Term.static "HiredShade$Trees" "ABOVE" "[I") (.int 3)) (.int 2)) (by decide +kernel))
    | 4, _ => exact va_eqt (hs (Cond.eq (.elem (Term.static "HiredShade$Trees" "ABOVE" "[I") (.int 4)) (.int 1)) (by decide +kernel))
    | 5, _ => exact va_eqt (hs (Cond.eq (.elem (Term.static "HiredShade$Trees" "ABOVE" "[I") (.int 5)) (.int 3)) (by decide +kernel))
    | 6, _ => exact va_eqt (hs (Cond.eq (.elem (Term.static "HiredShade$Trees" "ABOVE" "[I") (.int 6)) (.int 0)) (by decide +kernel))
    | 7, _ => exact va_eqt (hs (Cond.eq (.elem (Term.static "HiredShade$Trees" "ABOVE" "[I") (.int 7)) (.int 4)) (by decide +kernel))
    | j + 8, h => exact absurd h (by omega)) hA
  exact ⟨t, va_Zref (hts (.laysStatic "HiredShade$Trees" "ABOVE" "[I") (List.mem_of_getElem? (i := 996) (by decide +kernel))) (hts _ (List.mem_filter.mp wz_X8).1) h1 hA, h2⟩
theorem q_stat5 {b : Nat} {s : State} {A : Nat → Prop} (hts : ∀ w ∈ lw_tbl, w.before #[Value.ref b] s = true) (hs : ∀ c ∈ flatC (Jvm.Cond.and given_1 narrow_1), c.before #[Value.ref b] s = true) (hA : ∀ a : Nat, a < s.heap.size → ¬ A a) : ∃ t : Nat, va_Z "HiredShade$Trees" "OWN" "[I" (.ref t) A s s.heap ∧ va_T .int t (q_Tn 5) (fun j => .int (q_T 5 j)) A s s.heap := by
  obtain ⟨t, h1, h2⟩ := va_Tof (tm := (Term.static "HiredShade$Trees" "OWN" "[I")) (ty := .int) (N := 32) (f := fun j => .int (q_T 5 j)) (A := A) (by decide) (hs (Cond.arrayOf (Term.static "HiredShade$Trees" "OWN" "[I") .int) (by decide +kernel)) (va_eqt (hs (Cond.eq (.length (Term.static "HiredShade$Trees" "OWN" "[I")) (.int 32)) (by decide +kernel))) (fun j hj => by
    match j, hj with
    | 0, _ => exact va_eqt (hs (Cond.eq (.elem (Term.static "HiredShade$Trees" "OWN" "[I") (.int 0)) (.int 1)) (by decide +kernel))
    | 1, _ => exact va_eqt (hs (Cond.eq (.elem (Term.static "HiredShade$Trees" "OWN" "[I") (.int 1)) (.int 10)) (by decide +kernel))
    | 2, _ => exact va_eqt (hs (Cond.eq (.elem (Term.static "HiredShade$Trees" "OWN" "[I") (.int 2)) (.int 11)) (by decide +kernel))
    | 3, _ => exact va_eqt (hs (Cond.eq (.elem (Term.static "HiredShade$Trees" "OWN" "[I") (.int 3)) (.int 2)) (by decide +kernel))
    | 4, _ => exact va_eqt (hs (Cond.eq (.elem (Term.static "HiredShade$Trees" "OWN" "[I") (.int 4)) (.int 20)) (by decide +kernel))
    | 5, _ => exact va_eqt (hs (Cond.eq (.elem (Term.static "HiredShade$Trees" "OWN" "[I") (.int 5)) (.int 0)) (by decide +kernel))
    | 6, _ => exact va_eqt (hs (Cond.eq (.elem (Term.static "HiredShade$Trees" "OWN" "[I") (.int 6)) (.int 0)) (by decide +kernel))
    | 7, _ => exact va_eqt (hs (Cond.eq (.elem (Term.static "HiredShade$Trees" "OWN" "[I") (.int 7)) (.int 0)) (by decide +kernel))
    | 8, _ => exact va_eqt (hs (Cond.eq (.elem (Term.static "HiredShade$Trees" "OWN" "[I") (.int 8)) (.int 0)) (by decide +kernel))
    | 9, _ => exact va_eqt (hs (Cond.eq (.elem (Term.static "HiredShade$Trees" "OWN" "[I") (.int 9)) (.int 30)) (by decide +kernel))
    | 10, _ => exact va_eqt (hs (Cond.eq (.elem (Term.static "HiredShade$Trees" "OWN" "[I") (.int 10)) (.int 0)) (by decide +kernel))
    | 11, _ => exact va_eqt (hs (Cond.eq (.elem (Term.static "HiredShade$Trees" "OWN" "[I") (.int 11)) (.int 0)) (by decide +kernel))
    | 12, _ => exact va_eqt (hs (Cond.eq (.elem (Term.static "HiredShade$Trees" "OWN" "[I") (.int 12)) (.int 0)) (by decide +kernel))
    | 13, _ => exact va_eqt (hs (Cond.eq (.elem (Term.static "HiredShade$Trees" "OWN" "[I") (.int 13)) (.int 41)) (by decide +kernel))
    | 14, _ => exact va_eqt (hs (Cond.eq (.elem (Term.static "HiredShade$Trees" "OWN" "[I") (.int 14)) (.int 40)) (by decide +kernel))
    | 15, _ => exact va_eqt (hs (Cond.eq (.elem (Term.static "HiredShade$Trees" "OWN" "[I") (.int 15)) (.int 0)) (by decide +kernel))
    | 16, _ => exact va_eqt (hs (Cond.eq (.elem (Term.static "HiredShade$Trees" "OWN" "[I") (.int 16)) (.int 0)) (by decide +kernel))
    | 17, _ => exact va_eqt (hs (Cond.eq (.elem (Term.static "HiredShade$Trees" "OWN" "[I") (.int 17)) (.int 0)) (by decide +kernel))
    | 18, _ => exact va_eqt (hs (Cond.eq (.elem (Term.static "HiredShade$Trees" "OWN" "[I") (.int 18)) (.int 50)) (by decide +kernel))
    | 19, _ => exact va_eqt (hs (Cond.eq (.elem (Term.static "HiredShade$Trees" "OWN" "[I") (.int 19)) (.int 0)) (by decide +kernel))
    | 20, _ => exact va_eqt (hs (Cond.eq (.elem (Term.static "HiredShade$Trees" "OWN" "[I") (.int 20)) (.int 0)) (by decide +kernel))
    | 21, _ => exact va_eqt (hs (Cond.eq (.elem (Term.static "HiredShade$Trees" "OWN" "[I") (.int 21)) (.int 0)) (by decide +kernel))
    | 22, _ => exact va_eqt (hs (Cond.eq (.elem (Term.static "HiredShade$Trees" "OWN" "[I") (.int 22)) (.int 0)) (by decide +kernel))
    | 23, _ => exact va_eqt (hs (Cond.eq (.elem (Term.static "HiredShade$Trees" "OWN" "[I") (.int 23)) (.int 60)) (by decide +kernel))
    | 24, _ => exact va_eqt (hs (Cond.eq (.elem (Term.static "HiredShade$Trees" "OWN" "[I") (.int 24)) (.int 70)) (by decide +kernel))
    | 25, _ => exact va_eqt (hs (Cond.eq (.elem (Term.static "HiredShade$Trees" "OWN" "[I") (.int 25)) (.int 0)) (by decide +kernel))
    | 26, _ => exact va_eqt (hs (Cond.eq (.elem (Term.static "HiredShade$Trees" "OWN" "[I") (.int 26)) (.int 0)) (by decide +kernel))
    | 27, _ => exact va_eqt (hs (Cond.eq (.elem (Term.static "HiredShade$Trees" "OWN" "[I") (.int 27)) (.int 0)) (by decide +kernel))
    | 28, _ => exact va_eqt (hs (Cond.eq (.elem (Term.static "HiredShade$Trees" "OWN" "[I") (.int 28)) (.int 0)) (by decide +kernel))
    | 29, _ => exact va_eqt (hs (Cond.eq (.elem (Term.static "HiredShade$Trees" "OWN" "[I") (.int 29)) (.int 80)) (by decide +kernel))
    | 30, _ => exact va_eqt (hs (Cond.eq (.elem (Term.static "HiredShade$Trees" "OWN" "[I") (.int 30)) (.int 0)) (by decide +kernel))
    | 31, _ => exact va_eqt (hs (Cond.eq (.elem (Term.static "HiredShade$Trees" "OWN" "[I") (.int 31)) (.int 81)) (by decide +kernel))
    | j + 32, h => exact absurd h (by omega)) hA
  exact ⟨t, va_Zref (hts (.laysStatic "HiredShade$Trees" "OWN" "[I") (List.mem_of_getElem? (i := 998) (by decide +kernel))) (hts _ (List.mem_filter.mp wz_X8).1) h1 hA, h2⟩
def q_w0 : qW := (fun o k => if o = 48 then (if k = 11 then -1 else 0) else if (o = 36 ∨ o = 38 ∨ o = 40 ∨ o = 42 ∨ o = 44 ∨ o = 46) ∧ k < 2 then -1 else 0, fun o k => if o = 3 then (if k = 3 then 5 else 6) else (if k = 2 then 22 else 23), fun o => if o = 63 then (upd (upd (upd (upd (upd (upd (fun _ => 0) 0 (-1)) 1 (-1)) 2 (-1)) 3 (-1)) 4 (-1)) 5 (-1)) else fun _ => 0, fun _ _ => 0)
def q_PureOK : Prop := ∀ (xs : Nat → Int32) (Lz : Nat), Lz ≤ 3072 → ∃ w2 : qW, f_L_law_R18 xs Lz q_fuel q_w0 0 = some (1, w2)
def q_sls (ρ : Nat → Nat) (w : qW) (o : Nat) : Nat → List (Option (Option Nat)) → List Value
  | _, [] => []
  | k, x :: t => q_slot ρ w o k x :: q_sls ρ w o (k + 1) t
theorem q_sls_eq (ρ : Nat → Nat) (w : qW) (o : Nat) : ∀ (sl : List (Option (Option Nat))) (n : Nat), sl.mapIdx (fun k x => q_slot ρ w o (k + n) x) = q_sls ρ w o n sl
  | [], _ => rfl
  | x :: t, n => by
    rw [List.mapIdx_cons]
    show q_slot ρ w o (0 + n) x :: t.mapIdx (fun k x => q_slot ρ w o (k + 1 + n) x) = _
    rw [Nat.zero_add]
    have h : (fun (k : Nat) (x : Option (Option Nat)) => q_slot ρ w o (k + 1 + n) x) = (fun k x => q_slot ρ w o (k + (n + 1)) x) := by funext k x; rw [show k + 1 + n = k + (n + 1) by omega]
    rw [h, q_sls_eq ρ w o t (n + 1)]
    rfl
def q_cells (E : qE) (w : qW) (o : Nat) : qS → va_E
  | .inl (ci, sl) => .inr (ci, q_sls (q_ρ E) w o 0 sl)
  | .inr (.inl n) => .inl ((q_cA E).1, n, .inl (q_A w o))
  | .inr (.inr (.inl n)) => .inl ((q_cA E).2.1, n, .inr (.inl (q_G w o)))
  | .inr (.inr (.inr rs)) => .inl ((q_cA E).2.2, rs.length, .inr (.inr (.inr (.inr (fun j => (rs[j]?).map (q_ρ E))))))
theorem q_cells_eq (E : qE) (w : qW) (o : Nat) (sh : qS) : q_cell E w o sh = q_cells E w o sh := by
  rcases sh with ⟨ci, sl⟩ | n | n | rs
  · show Sum.inr (ci, sl.mapIdx (fun k x => q_slot (q_ρ E) w o (k + 0) x)) = _
    rw [q_sls_eq]
    rfl
  · rfl
  · rfl
  · rfl
def q_wl (E : qE) (w : qW) : Nat → List qS → va_W
  | _, [] => []
  | o, sh :: t => (q_ρ E o, q_cells E w o sh) :: q_wl E w (o + 1) t
theorem q_wl_eq (E : qE) (w : qW) : ∀ (l : List qS) (n : Nat), l.mapIdx (fun o sh => (q_ρ E (o + n), q_cell E w (o + n) sh)) = q_wl E w n l
  | [], _ => rfl
  | x :: t, n => by
    rw [List.mapIdx_cons]
    show (q_ρ E (0 + n), q_cell E w (0 + n) x) :: t.mapIdx (fun o sh => (q_ρ E (o + 1 + n), q_cell E w (o + 1 + n) sh)) = _
    rw [Nat.zero_add, q_cells_eq]
    have h : (fun (o : Nat) (sh : qS) => ((q_ρ E (o + 1 + n), q_cell E w (o + 1 + n) sh) : Nat × va_E)) = (fun o sh => (q_ρ E (o + (n + 1)), q_cell E w (o + (n + 1)) sh)) := by funext o sh; rw [show o + 1 + n = o + (n + 1) by omega]
    rw [h, q_wl_eq E w t (n + 1)]
    rfl
theorem q_world_wl (E : qE) (w : qW) : q_world E w = q_wl E w 0 q_shp := q_wl_eq E w q_shp 0
set_option maxRecDepth 100000 in
set_option maxHeartbeats 4000000 in
theorem q_rel0 {dC : Nat → ClassId} {dI : Nat → Nat → Nat} {cI cJ cS : ClassId} {ρ : Nat → Nat} {N L : Nat} {xs : Nat → Int32} {H : Heap} (hP : va_P (dC, dI) vwCl [(ρ 0, .inr (10, [.ref (ρ 1), .ref (ρ 3), .ref (ρ 9), .ref (ρ 10), .ref (ρ 16), .ref (ρ 21), .ref (ρ 24), .ref (ρ 26), .ref (ρ 32), .ref (ρ 35)])), (ρ 1, .inr (4, [.ref (ρ 2), .int 0, .int 0])), (ρ 2, .inl (cI, 64, .inl (fun _ => 0))), (ρ 3, .inr (3, [.ref (ρ 4), .int 0, .int 0, .ref (ρ 5), .int 0, .ref (ρ 6), .int 0, .int 0, .ref (ρ 7), .ref (ρ 8)])), (ρ 4, .inl (cI, 120, .inl (fun _ => 0))), (ρ 5, .inl (cI, 128, .inl (fun _ => 0))), (ρ 6, .inl (cI, 128, .inl (fun _ => 0))), (ρ 7, .inl (cI, 64, .inl (fun _ => 0))), (ρ 8, .inl (cI, 6, .inl (fun _ => 0))), (ρ 9, .inr (5, [.ref (ρ 1), .ref (ρ 3)])), (ρ 10, .inr (7, [.ref (ρ 1), .ref (ρ 9), .ref (ρ 11), .ref (ρ 12), .ref (ρ 13), .ref (ρ 14), .ref (ρ 15)])), (ρ 11, .inl (cI, 96, .inl (fun _ => 0))), (ρ 12, .inl (cI, 672, .inl (fun _ => 0))), (ρ 13, .inl (cI, 128, .inl (fun _ => 0))), (ρ 14, .inl (cI, 128, .inl (fun _ => 0))), (ρ 15, .inl (cI, 84, .inl (fun _ => 0))), (ρ 16, .inr (0, [.ref (ρ 1), .ref (ρ 9), .ref (ρ 17), .ref (ρ 18), .int 0, .int 0, .ref (ρ 19), .ref (ρ 20), .int 0, .int 0])), (ρ 17, .inl (cI, 20, .inl (fun _ => 0))), (ρ 18, .inl (cI, 20, .inl (fun _ => 0))), (ρ 19, .inl (cI, 20, .inl (fun _ => 0))), (ρ 20, .inl (cI, 140, .inl (fun _ => 0))), (ρ 21, .inr (9, [.ref (ρ 1), .ref (ρ 9), .ref (ρ 22), .ref (ρ 23)])), (ρ 22, .inl (cI, 1728, .inl (fun _ => 0))), (ρ 23, .inl (cI, 1728, .inl (fun _ => 0))), (ρ 24, .inr (1, [.ref (ρ 1), .ref (ρ 25), .int 0, .int 0])), (ρ 25, .inl (cI, 160, .inl (fun _ => 0))), (ρ 26, .inr (2, [.ref (ρ 1), .ref (ρ 27), .int 0, .int 0, .int 0, .ref (ρ 28), .ref (ρ 29), .ref (ρ 30), .ref (ρ 31)])), (ρ 27, .inl (cI, 6, .inl (fun _ => 0))), (ρ 28, .inl (cI, 7, .inl (fun _ => 0))), (ρ 29, .inl (cI, 7, .inl (fun _ => 0))), (ρ 30, .inl (cI, 8, .inl (fun _ => 0))), (ρ 31, .inl (cI, 6, .inl (fun _ => 0))), (ρ 32, .inr (8, [.ref (ρ 33), .int 0, .ref (ρ 34), .int 0, .int 0])), (ρ 33, .inl (cI, 50, .inl (fun _ => 0))), (ρ 34, .inl (cI, 24, .inl (fun _ => 0))), (ρ 35, .inl (cS, 6, .inr (.inr (.inr (.inr (va_up (va_up (va_up (va_up (va_up (va_up (fun _ => none) 0 (some (ρ 36))) 1 (some (ρ 38))) 2 (some (ρ 40))) 3 (some (ρ 42))) 4 (some (ρ 44))) 5 (some (ρ 46)))))))), (ρ 36, .inr (6, [.int (-1), .int (-1), .int 0, .ref (ρ 37)])), (ρ 37, .inl (cJ, 60, .inr (.inl (fun _ => 0)))), (ρ 38, .inr (6, [.int (-1), .int (-1), .int 0, .ref (ρ 39)])), (ρ 39, .inl (cJ, 60, .inr (.inl (fun _ => 0)))), (ρ 40, .inr (6, [.int (-1), .int (-1), .int 0, .ref (ρ 41)])), (ρ 41, .inl (cJ, 60, .inr (.inl (fun _ => 0)))), (ρ 42, .inr (6, [.int (-1), .int (-1), .int 0, .ref (ρ 43)])), (ρ 43, .inl (cJ, 60, .inr (.inl (fun _ => 0)))), (ρ 44, .inr (6, [.int (-1), .int (-1), .int 0, .ref (ρ 45)])), (ρ 45, .inl (cJ, 60, .inr (.inl (fun _ => 0)))), (ρ 46, .inr (6, [.int (-1), .int (-1), .int 0, .ref (ρ 47)])), (ρ 47, .inl (cJ, 60, .inr (.inl (fun _ => 0)))), (ρ 48, .inr (11, [.ref (ρ 49), .ref (ρ 50), .ref (ρ 51), .ref (ρ 52), .int 0, .int 0, .int 0, .int 0, .ref (ρ 53), .int 0, .ref (ρ 54), .int (-1), .int 0, .int 0, .int 0, .int 0, .int 0, .ref (ρ 55), .int 0, .ref (ρ 56), .int 0, .int 0, .int 0, .int 0, .ref (ρ 57), .ref (ρ 58), .ref (ρ 59), .ref (ρ 60), .int 0, .ref (ρ 61), .ref (ρ 62), .int 0, .int 0, .int 0, .ref (ρ 63), .ref (ρ 64), .ref (ρ 65), .ref (ρ 66)])), (ρ 49, .inl (cI, 57, .inl (fun _ => 0))), (ρ 50, .inl (cI, 40, .inl (fun _ => 0))), (ρ 51, .inl (cI, 40, .inl (fun _ => 0))), (ρ 52, .inl (cI, 40, .inl (fun _ => 0))), (ρ 53, .inl (cI, 120, .inl (fun _ => 0))), (ρ 54, .inl (cI, 120, .inl (fun _ => 0))), (ρ 55, .inl (cI, 6, .inl (fun _ => 0))), (ρ 56, .inl (cI, 5, .inl (fun _ => 0))), (ρ 57, .inl (cI, 7, .inl (fun _ => 0))), (ρ 58, .inl (cI, 7, .inl (fun _ => 0))), (ρ 59, .inl (cI, 8, .inl (fun _ => 0))), (ρ 60, .inl (cI, 5, .inl (fun _ => 0))), (ρ 61, .inl (cI, 50, .inl (fun _ => 0))), (ρ 62, .inl (cI, 24, .inl (fun _ => 0))), (ρ 63, .inl (cI, 6, .inl (upd (upd (upd (upd (upd (upd (fun _ => 0) 0 (-1)) 1 (-1)) 2 (-1)) 3 (-1)) 4 (-1)) 5 (-1)))), (ρ 64, .inl (cI, 6, .inl (fun _ => 0))), (ρ 65, .inl (cJ, 360, .inr (.inl (fun _ => 0)))), (ρ 66, .inl (cJ, 60, .inr (.inl (fun _ => 0))))] H) (hD : va_D (fun q : Nat => N ≤ q) [(ρ 0, .inr (10, [.ref (ρ 1), .ref (ρ 3), .ref (ρ 9), .ref (ρ 10), .ref (ρ 16), .ref (ρ 21), .ref (ρ 24), .ref (ρ 26), .ref (ρ 32), .ref (ρ 35)])), (ρ 1, .inr (4, [.ref (ρ 2), .int 0, .int 0])), (ρ 2, .inl (cI, 64, .inl (fun _ => 0))), (ρ 3, .inr (3, [.ref (ρ 4), .int 0, .int 0, .ref (ρ 5), .int 0, .ref (ρ 6), .int 0, .int 0, .ref (ρ 7), .ref (ρ 8)])), (ρ 4, .inl (cI, 120, .inl (fun _ => 0))), (ρ 5, .inl (cI, 128, .inl (fun _ => 0))), (ρ 6, .inl (cI, 128, .inl (fun _ => 0))), (ρ 7, .inl (cI, 64, .inl (fun _ => 0))), (ρ 8, .inl (cI, 6, .inl (fun _ => 0))), (ρ 9, .inr (5, [.ref (ρ 1), .ref (ρ 3)])), (ρ 10, .inr (7, [.ref (ρ 1), .ref (ρ 9), .ref (ρ 11), .ref (ρ 12), .ref (ρ 13), .ref (ρ 14), .ref (ρ 15)])), (ρ 11, .inl (cI, 96, .inl (fun _ => 0))), (ρ 12, .inl (cI, 672, .inl (fun _ => 0))), (ρ 13, .inl (cI, 128, .inl (fun _ => 0))), (ρ 14, .inl (cI, 128, .inl (fun _ => 0))), (ρ 15, .inl (cI, 84, .inl (fun _ => 0))), (ρ 16, .inr (0, [.ref (ρ 1), .ref (ρ 9), .ref (ρ 17), .ref (ρ 18), .int 0, .int 0, .ref (ρ 19), .ref (ρ 20), .int 0, .int 0])), (ρ 17, .inl (cI, 20, .inl (fun _ => 0))), (ρ 18, .inl (cI, 20, .inl (fun _ => 0))), (ρ 19, .inl (cI, 20, .inl (fun _ => 0))), (ρ 20, .inl (cI, 140, .inl (fun _ => 0))), (ρ 21, .inr (9, [.ref (ρ 1), .ref (ρ 9), .ref (ρ 22), .ref (ρ 23)])), (ρ 22, .inl (cI, 1728, .inl (fun _ => 0))), (ρ 23, .inl (cI, 1728, .inl (fun _ => 0))), (ρ 24, .inr (1, [.ref (ρ 1), .ref (ρ 25), .int 0, .int 0])), (ρ 25, .inl (cI, 160, .inl (fun _ => 0))), (ρ 26, .inr (2, [.ref (ρ 1), .ref (ρ 27), .int 0, .int 0, .int 0, .ref (ρ 28), .ref (ρ 29), .ref (ρ 30), .ref (ρ 31)])), (ρ 27, .inl (cI, 6, .inl (fun _ => 0))), (ρ 28, .inl (cI, 7, .inl (fun _ => 0))), (ρ 29, .inl (cI, 7, .inl (fun _ => 0))), (ρ 30, .inl (cI, 8, .inl (fun _ => 0))), (ρ 31, .inl (cI, 6, .inl (fun _ => 0))), (ρ 32, .inr (8, [.ref (ρ 33), .int 0, .ref (ρ 34), .int 0, .int 0])), (ρ 33, .inl (cI, 50, .inl (fun _ => 0))), (ρ 34, .inl (cI, 24, .inl (fun _ => 0))), (ρ 35, .inl (cS, 6, .inr (.inr (.inr (.inr (va_up (va_up (va_up (va_up (va_up (va_up (fun _ => none) 0 (some (ρ 36))) 1 (some (ρ 38))) 2 (some (ρ 40))) 3 (some (ρ 42))) 4 (some (ρ 44))) 5 (some (ρ 46)))))))), (ρ 36, .inr (6, [.int (-1), .int (-1), .int 0, .ref (ρ 37)])), (ρ 37, .inl (cJ, 60, .inr (.inl (fun _ => 0)))), (ρ 38, .inr (6, [.int (-1), .int (-1), .int 0, .ref (ρ 39)])), (ρ 39, .inl (cJ, 60, .inr (.inl (fun _ => 0)))), (ρ 40, .inr (6, [.int (-1), .int (-1), .int 0, .ref (ρ 41)])), (ρ 41, .inl (cJ, 60, .inr (.inl (fun _ => 0)))), (ρ 42, .inr (6, [.int (-1), .int (-1), .int 0, .ref (ρ 43)])), (ρ 43, .inl (cJ, 60, .inr (.inl (fun _ => 0)))), (ρ 44, .inr (6, [.int (-1), .int (-1), .int 0, .ref (ρ 45)])), (ρ 45, .inl (cJ, 60, .inr (.inl (fun _ => 0)))), (ρ 46, .inr (6, [.int (-1), .int (-1), .int 0, .ref (ρ 47)])), (ρ 47, .inl (cJ, 60, .inr (.inl (fun _ => 0)))), (ρ 48, .inr (11, [.ref (ρ 49), .ref (ρ 50), .ref (ρ 51), .ref (ρ 52), .int 0, .int 0, .int 0, .int 0, .ref (ρ 53), .int 0, .ref (ρ 54), .int (-1), .int 0, .int 0, .int 0, .int 0, .int 0, .ref (ρ 55), .int 0, .ref (ρ 56), .int 0, .int 0, .int 0, .int 0, .ref (ρ 57), .ref (ρ 58), .ref (ρ 59), .ref (ρ 60), .int 0, .ref (ρ 61), .ref (ρ 62), .int 0, .int 0, .int 0, .ref (ρ 63), .ref (ρ 64), .ref (ρ 65), .ref (ρ 66)])), (ρ 49, .inl (cI, 57, .inl (fun _ => 0))), (ρ 50, .inl (cI, 40, .inl (fun _ => 0))), (ρ 51, .inl (cI, 40, .inl (fun _ => 0))), (ρ 52, .inl (cI, 40, .inl (fun _ => 0))), (ρ 53, .inl (cI, 120, .inl (fun _ => 0))), (ρ 54, .inl (cI, 120, .inl (fun _ => 0))), (ρ 55, .inl (cI, 6, .inl (fun _ => 0))), (ρ 56, .inl (cI, 5, .inl (fun _ => 0))), (ρ 57, .inl (cI, 7, .inl (fun _ => 0))), (ρ 58, .inl (cI, 7, .inl (fun _ => 0))), (ρ 59, .inl (cI, 8, .inl (fun _ => 0))), (ρ 60, .inl (cI, 5, .inl (fun _ => 0))), (ρ 61, .inl (cI, 50, .inl (fun _ => 0))), (ρ 62, .inl (cI, 24, .inl (fun _ => 0))), (ρ 63, .inl (cI, 6, .inl (upd (upd (upd (upd (upd (upd (fun _ => 0) 0 (-1)) 1 (-1)) 2 (-1)) 3 (-1)) 4 (-1)) 5 (-1)))), (ρ 64, .inl (cI, 6, .inl (fun _ => 0))), (ρ 65, .inl (cJ, 360, .inr (.inl (fun _ => 0)))), (ρ 66, .inl (cJ, 60, .inr (.inl (fun _ => 0))))]) : q_Rel ((dC, dI), (cI, cJ, cS), ρ, N, L, xs) q_w0 H := by
  have hf : va_up (va_up (va_up (va_up (va_up (va_up (fun _ => none) 0 (some (ρ 36))) 1 (some (ρ 38))) 2 (some (ρ 40))) 3 (some (ρ 42))) 4 (some (ρ 44))) 5 (some (ρ 46)) = (fun j => (([36, 38, 40, 42, 44, 46] : List Nat)[j]?).map ρ) := by
    funext j
    match j with
    | 0 => rfl
    | 1 => rfl
    | 2 => rfl
    | 3 => rfl
    | 4 => rfl
    | 5 => rfl
    | j + 6 => rfl
  rw [hf] at hP hD
  unfold q_Rel
  rw [q_world_wl]
  exact ⟨hP, hD⟩
