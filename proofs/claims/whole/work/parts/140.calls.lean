def q_Q {β : Type} (val : β → Option Value) (E : qE) (r : β) (w : qW) : Array Value → State → Outcome → State → Prop := fun _ s oc t => oc = .returned (val r) ∧ q_Rel E w t.heap ∧ va_F (q_A0 E) s t
def q_Pc (E : qE) (w : qW) (av : List Value) : Array Value → State → Prop := va_Pc (av.map (q_v (q_ρ E))) (fun U => q_Gl E U U.heap ∧ q_Rel E w U.heap)
def q_rm (d : Nat) : Room := { frames := d, cells := 0, slots := 0, locals := 64 * d }
def q_ws (y : MethodName) (cy : ByteArray) (ny : Nat) (rt : Option FieldType) : List Cond := .code y cy ny rt :: q_gW
/-- a method's contract: it does as the pure program o tells -/
def q_AC {β : Type} (val : β → Option Value) (rt : Option FieldType) (d : Nat) (y : MethodName) (cy : ByteArray) (ny : Nat) (av : List Value) (w : qW) (o : Option (β × qW)) : Prop :=
  ∀ (l : Launch) (E : qE) (r : β) (w' : qW), o = some (r, w') → Met l y (q_ws y cy ny rt) (q_rm d) (q_Pc E w av) (q_Q val E r w') 0 0 (q_A0 E)
theorem q_blind {E : qE} {w : qW} {av : List Value} : FrameBlind (q_Pc E w av) := by
  intro a U g mk h
  obtain ⟨h1, h2, h3⟩ := h
  exact ⟨h1, q_Gl.same (u := U) (U := U.calling g mk a) h2 rfl, h3⟩
def q_vi (r : Int32) : Option Value := some (.int r)
def q_vl (r : Int64) : Option Value := some (.long r)
def q_vv (_ : Unit) : Option Value := none
section
variable {p : Program} {l : Launch} {e : Env} {R : Room} {s : State} {m : MethodId} {args : Array Value} {below : List Frame} {meth : Method} {c : Code} {H : Heap} {locs : List Loc} {cells slots : Nat} {Q : State → Prop}
theorem q_after {β : Type} {val : β → Option Value} {E : qE} {rb : β} {wb : qW} {a : Array Value} {pc : Nat} {ls : Array Slot} {st0 rest : List Value} (hr : va_Run p l e R s m args below meth c H locs cells slots 0 0 (F0 m pc ls st0) rest (q_Q val E rb wb a) (q_A0 E)) (hS : va_S (q_A0 E) s.heap H locs)
    (kk : ∀ (H1 : Heap) (locs1 : List Loc), q_Rel E wb H1 → va_S (q_A0 E) s.heap H1 locs1 → W p l e R s m args below meth c H1 locs1 cells slots Q (F0 m (pc + 3) ls ((val rb).toList ++ rest))) : W p l e R s m args below meth c H locs cells slots Q (F0 m pc ls st0) := by
  intro T hT X
  obtain ⟨v, st₀, t, T', L, h0, X', hL, e1, e2, ⟨hv, hrel, hz, hk⟩, st⟩ := hr T hT X
  have hv : v = val rb := by injection hv
  subst hv
  rw [h0] at hz hk
  obtain ⟨t2, a1, b1⟩ := kk T'.heap (locs ++ L) (by rw [e1]; exact hrel)
    ⟨Nat.le_trans hS.1 (by rw [e1]; exact hz), fun q h1 h2 => by rw [e1, hk q (Nat.lt_of_lt_of_le h1 hS.1) h2]; exact hS.2.1 q h1 h2, fun q hq => by
      rcases List.mem_append.mp hq with h | h
      · exact hS.2.2 q h
      · exact hL q h⟩ T' rfl X'
  exact ⟨t2, st t2 a1, b1⟩
end
/-- the words of a call of an instance method, of a static one, of a static one of a nest mate -/
def q_CV (own : String) (idx ci : Nat) (y : MethodName) (cy : ByteArray) (ny : Nat) (rt : Option FieldType) (n : Nat) : Prop := ∃ q : vw_C, vwCl[ci]? = some q ∧ y.cls = q.1 ∧ (Cond.methodLink own idx y ∈ q_gW ∧ Cond.instanceMethod y ∈ q_gW ∧ Cond.selects y.cls y y ∈ q_gW ∧ Cond.initialized y.cls ∈ q_gW ∧ Cond.code y cy ny rt ∈ q_gW) ∧ (y.cls ≠ "java/lang/invoke/MethodHandle" ∧ y.cls ≠ "java/lang/invoke/VarHandle" ∧ (parseMethodDescriptor y.desc).map (fun d => d.parameters.length) = some n) ∧ ny ≤ 45
def q_CS (own : String) (idx : Nat) (y : MethodName) (cy : ByteArray) (ny : Nat) (rt : Option FieldType) (n : Nat) : Prop := (Cond.methodLink own idx y ∈ q_gW ∧ Cond.static y ∈ q_gW ∧ Cond.initialized y.cls ∈ q_gW ∧ Cond.code y cy ny rt ∈ q_gW) ∧ (y.cls ≠ "java/lang/invoke/MethodHandle" ∧ y.cls ≠ "java/lang/invoke/VarHandle" ∧ (parseMethodDescriptor y.desc).map (fun d => d.parameters.length) = some n) ∧ ny ≤ 45
def q_CN (own : String) (idx : Nat) (y : MethodName) (cy : ByteArray) (ny : Nat) (rt : Option FieldType) (n : Nat) : Prop := (∃ host, Cond.methodLinkNest own idx y host ∈ q_nW) ∧ (Cond.static y ∈ q_gW ∧ Cond.initialized y.cls ∈ q_gW ∧ Cond.code y cy ny rt ∈ q_gW) ∧ (y.cls ≠ "java/lang/invoke/MethodHandle" ∧ y.cls ≠ "java/lang/invoke/VarHandle" ∧ (parseMethodDescriptor y.desc).map (fun d => d.parameters.length) = some n) ∧ ny ≤ 45
section
variable {α β : Type} {val : β → Option Value} {E : qE} {Γ : qC} {own : String} {cc : ByteArray} {nL d : Nat} {F : α → qW → Prop} {pc : Nat} {L : List (Option Value)} {st : List Value} {w : qW} {ob : Option (β × qW)} {kq : β → qW → Option (α × qW)}
  {y : MethodName} {cy : ByteArray} {ny dy ci idx id : Nat} {rt : Option FieldType} {As : List Value} {sl : List (Option (Option Nat))} {st0 : List Value}
theorem q_wsin {Ts : List Cond} (h : Cond.code y cy ny rt ∈ q_gW) (hT : ∀ w ∈ Ts, w ∈ q_gW) : ∀ w ∈ Ts ++ q_ws y cy ny rt, w ∈ q_gW := by
  intro w hw
  rcases List.mem_append.mp hw with h1 | h1
  · exact hT w h1
  · rcases List.mem_cons.mp h1 with h2 | h2
    · rw [h2]; exact h
    · exact h2
theorem e_cV (hval : ∀ (r : β) (ρ : Nat → Nat), (val r).toList.map (q_v ρ) = (val r).toList) (G : q_Ok E Γ own cc nL d) (hC : q_CV own idx ci y cy ny rt As.length) (C : q_AC val rt dy y cy ny (.ref id :: As) w ob) (hs : q_shp[id]? = some (.inl (ci, sl))) (hd : dy + 1 ≤ d) (hst : st0 = As.reverse ++ .ref id :: st) (hw : (st.map fun v => v.category).sum ≤ 8) (dd : decode cc pc = .ok (.invokevirtual idx, 3))
    (k : ∀ (r : β) (w2 : qW), q_Ev E Γ nL F (pc + 3) L ((val r).toList ++ st) w2 (kq r w2)) : q_Ev E Γ nL F pc L st0 w (q_cl ob kq) := by
  subst hst
  intro r w9 ho hF H locs ls hR hS hl
  cases hob : ob with
  | none => rw [hob] at ho; cases ho
  | some q =>
    obtain ⟨rb, wb⟩ := q
    rw [hob] at ho
    have hM := C (q_l Γ) E rb wb hob
    obtain ⟨q, hq, hyc, ⟨w1, w2, w3, w4, w5⟩, hdd, hny⟩ := hC
    obtain ⟨g1, g2, g3, g4, g5, g6, g7, g8, g9, g10⟩ := G
    have hT : ∀ w ∈ wsV own idx y.cls y (q_ws y cy ny rt), w ∈ q_gW := by
      unfold wsV
      refine q_wsin w5 (fun w hw => ?_)
      simp only [List.mem_cons, List.not_mem_nil, or_false] at hw
      rcases hw with rfl | rfl | rfl | rfl
      · exact w1
      · exact w2
      · exact w3
      · exact w4
    have hcw := cwV (R := q_Rm Γ) (C := y.cls) (rm := q_rm dy) As.length g5 (q_good hT) rfl rfl rfl ⟨rfl, hdd⟩ ⟨show dy + 1 ≤ _ by omega, show 8 + (ny + 11) + 64 * dy ≤ _ by omega⟩
    have hrv : ((q_v (q_ρ E) (.ref id)) :: As.map (q_v (q_ρ E))) = (Value.ref id :: As).map (q_v (q_ρ E)) := rfl
    have hstk : (As.reverse ++ .ref id :: st).map (q_v (q_ρ E)) = (As.map (q_v (q_ρ E))).reverse ++ .ref (q_ρ E id) :: st.map (q_v (q_ρ E)) := by simp [q_v]
    have hrun := va_runV (p := q_p Γ) (e := q_e Γ) (below := q_be Γ) (meth := q_me Γ) (H := H) (locs := locs) (cells := q_ce Γ) (slots := q_sl Γ) (g := F0 (q_m Γ) pc ls ((As.reverse ++ .ref id :: st).map (q_v (q_ρ E)))) (As := As.map (q_v (q_ρ E))) (b := q_ρ E id) (rest := st.map (q_v (q_ρ E))) ⟨g1, g2, g3, g4, g5⟩ hM hcw
      ⟨q_blind, by rw [hyc]; exact va_recv g6.1 hR.1 hq (q_world_at hs), fun U hU hW => ⟨rfl, by rw [hU]; exact g6.moved hW hS, by rw [hU]; exact hR⟩⟩ rfl (by simp) hl.1 hstk (by show 2 * 0 + _ ≤ 8; rw [q_v_sum]; omega) dd ⟨g9, g10⟩
    refine q_after hrun hS (fun H1 locs1 hR1 hS1 => ?_)
    have := k rb wb r w9 ho hF H1 locs1 ls hR1 hS1 hl
    have hz : ((val rb).toList ++ st).map (q_v (q_ρ E)) = ((val rb).toList.map (q_v (q_ρ E))) ++ st.map (q_v (q_ρ E)) := by simp
    rw [hz, hval] at this
    exact this
theorem e_cS (hval : ∀ (r : β) (ρ : Nat → Nat), (val r).toList.map (q_v ρ) = (val r).toList) (G : q_Ok E Γ own cc nL d) (hC : q_CS own idx y cy ny rt As.length) (C : q_AC val rt dy y cy ny As w ob) (hd : dy + 1 ≤ d) (hst : st0 = As.reverse ++ st) (hw : (st.map fun v => v.category).sum ≤ 8) (dd : decode cc pc = .ok (.invokestatic idx, 3))
    (k : ∀ (r : β) (w2 : qW), q_Ev E Γ nL F (pc + 3) L ((val r).toList ++ st) w2 (kq r w2)) : q_Ev E Γ nL F pc L st0 w (q_cl ob kq) := by
  subst hst
  intro r w9 ho hF H locs ls hR hS hl
  cases hob : ob with
  | none => rw [hob] at ho; cases ho
  | some q =>
    obtain ⟨rb, wb⟩ := q
    rw [hob] at ho
    have hM := C (q_l Γ) E rb wb hob
    obtain ⟨⟨w1, w2, w4, w5⟩, hdd, hny⟩ := hC
    obtain ⟨g1, g2, g3, g4, g5, g6, g7, g8, g9, g10⟩ := G
    have hT : ∀ w ∈ va_wsS own idx y (q_ws y cy ny rt), w ∈ q_gW := by
      unfold va_wsS
      refine q_wsin w5 (fun w hw => ?_)
      simp only [List.mem_cons, List.not_mem_nil, or_false] at hw
      rcases hw with rfl | rfl | rfl
      · exact w1
      · exact w2
      · exact w4
    have hcw := va_cwS (R := q_Rm Γ) (rm := q_rm dy) As.length g5 (q_good hT) rfl rfl rfl hdd ⟨show dy + 1 ≤ _ by omega, show 8 + (ny + 11) + 64 * dy ≤ _ by omega⟩
    have hstk : (As.reverse ++ st).map (q_v (q_ρ E)) = (As.map (q_v (q_ρ E))).reverse ++ st.map (q_v (q_ρ E)) := by simp
    have hrun := va_runS (p := q_p Γ) (e := q_e Γ) (below := q_be Γ) (meth := q_me Γ) (H := H) (locs := locs) (cells := q_ce Γ) (slots := q_sl Γ) (g := F0 (q_m Γ) pc ls ((As.reverse ++ st).map (q_v (q_ρ E)))) (As := As.map (q_v (q_ρ E))) (rest := st.map (q_v (q_ρ E))) ⟨g1, g2, g3, g4, g5⟩ hM hcw
      ⟨q_blind, fun U hU hW => ⟨rfl, by rw [hU]; exact g6.moved hW hS, by rw [hU]; exact hR⟩⟩ rfl (by simp) hl.1 hstk (by show 2 * 0 + _ ≤ 8; rw [q_v_sum]; omega) dd ⟨g9, g10⟩
    refine q_after hrun hS (fun H1 locs1 hR1 hS1 => ?_)
    have := k rb wb r w9 ho hF H1 locs1 ls hR1 hS1 hl
    have hz : ((val rb).toList ++ st).map (q_v (q_ρ E)) = ((val rb).toList.map (q_v (q_ρ E))) ++ st.map (q_v (q_ρ E)) := by simp
    rw [hz, hval] at this
    exact this
theorem e_cN (hval : ∀ (r : β) (ρ : Nat → Nat), (val r).toList.map (q_v ρ) = (val r).toList) (G : q_Ok E Γ own cc nL d) (hC : q_CN own idx y cy ny rt As.length) (C : q_AC val rt dy y cy ny As w ob) (hd : dy + 1 ≤ d) (hst : st0 = As.reverse ++ st) (hw : (st.map fun v => v.category).sum ≤ 8) (dd : decode cc pc = .ok (.invokestatic idx, 3))
    (k : ∀ (r : β) (w2 : qW), q_Ev E Γ nL F (pc + 3) L ((val r).toList ++ st) w2 (kq r w2)) : q_Ev E Γ nL F pc L st0 w (q_cl ob kq) := by
  subst hst
  intro r w9 ho hF H locs ls hR hS hl
  cases hob : ob with
  | none => rw [hob] at ho; cases ho
  | some q =>
    obtain ⟨rb, wb⟩ := q
    rw [hob] at ho
    have hM := C (q_l Γ) E rb wb hob
    obtain ⟨⟨host, w1⟩, ⟨w2, w4, w5⟩, hdd, hny⟩ := hC
    obtain ⟨g1, g2, g3, g4, g5, g6, g7, g8, g9, g10⟩ := G
    have hT : ∀ w ∈ [] ++ q_ws y cy ny rt, w ∈ q_gW := q_wsin w5 (fun w hw => by cases hw)
    have hcw := va_cnB (R := q_Rm Γ) (rm := q_rm dy) As.length g5 (q_good hT) rfl rfl rfl (g6.2.2.2.1 _ w1) (g5 _ w4) hdd ⟨show dy + 1 ≤ _ by omega, show 8 + (ny + 11) + 64 * dy ≤ _ by omega⟩
    have hstk : (As.reverse ++ st).map (q_v (q_ρ E)) = (As.map (q_v (q_ρ E))).reverse ++ st.map (q_v (q_ρ E)) := by simp
    have hrun := va_runSN (p := q_p Γ) (e := q_e Γ) (below := q_be Γ) (meth := q_me Γ) (H := H) (locs := locs) (cells := q_ce Γ) (slots := q_sl Γ) (g := F0 (q_m Γ) pc ls ((As.reverse ++ st).map (q_v (q_ρ E)))) (As := As.map (q_v (q_ρ E))) (rest := st.map (q_v (q_ρ E))) ⟨g1, g2, g3, g4, g5⟩ hM ⟨hcw, g5 _ w2, trivial⟩
      ⟨q_blind, fun U hU hW => ⟨rfl, by rw [hU]; exact g6.moved hW hS, by rw [hU]; exact hR⟩⟩ rfl (by simp) hl.1 hstk (by show 2 * 0 + _ ≤ 8; rw [q_v_sum]; omega) dd ⟨g9, g10⟩
    refine q_after hrun hS (fun H1 locs1 hR1 hS1 => ?_)
    have := k rb wb r w9 ho hF H1 locs1 ls hR1 hS1 hl
    have hz : ((val rb).toList ++ st).map (q_v (q_ρ E)) = ((val rb).toList.map (q_v (q_ρ E))) ++ st.map (q_v (q_ρ E)) := by simp
    rw [hz, hval] at this
    exact this
end
theorem e_cVi {α : Type} {E : qE} {Γ : qC} {own : String} {cc : ByteArray} {nL d : Nat} {F : α → qW → Prop} {pc : Nat} {L : List (Option Value)} {st : List Value} {w : qW} {ob : Option (Int32 × qW)} {kq : Int32 → qW → Option (α × qW)} {y : MethodName} {cy : ByteArray} {ny dy ci idx id : Nat} {rt : Option FieldType} {As : List Value} {sl : List (Option (Option Nat))} {st0 : List Value} (G : q_Ok E Γ own cc nL d) (hC : q_CV own idx ci y cy ny rt As.length) (C : q_AC q_vi rt dy y cy ny (.ref id :: As) w ob) (hs : q_shp[id]? = some (.inl (ci, sl))) (hd : dy + 1 ≤ d) (hst : st0 = As.reverse ++ .ref id :: st) (hw : (st.map fun v => v.category).sum ≤ 8) (dd : decode cc pc = .ok (.invokevirtual idx, 3)) (k : ∀ (r : Int32) (w2 : qW), q_Ev E Γ nL F (pc + 3) L (.int r :: st) w2 (kq r w2)) : q_Ev E Γ nL F pc L st0 w (q_cl ob kq) := e_cV (fun _ _ => rfl) G hC C hs hd hst hw dd k
theorem e_cSi {α : Type} {E : qE} {Γ : qC} {own : String} {cc : ByteArray} {nL d : Nat} {F : α → qW → Prop} {pc : Nat} {L : List (Option Value)} {st : List Value} {w : qW} {ob : Option (Int32 × qW)} {kq : Int32 → qW → Option (α × qW)} {y : MethodName} {cy : ByteArray} {ny dy ci idx id : Nat} {rt : Option FieldType} {As : List Value} {sl : List (Option (Option Nat))} {st0 : List Value} (G : q_Ok E Γ own cc nL d) (hC : q_CS own idx y cy ny rt As.length) (C : q_AC q_vi rt dy y cy ny As w ob) (hd : dy + 1 ≤ d) (hst : st0 = As.reverse ++ st) (hw : (st.map fun v => v.category).sum ≤ 8) (dd : decode cc pc = .ok (.invokestatic idx, 3)) (k : ∀ (r : Int32) (w2 : qW), q_Ev E Γ nL F (pc + 3) L (.int r :: st) w2 (kq r w2)) : q_Ev E Γ nL F pc L st0 w (q_cl ob kq) := e_cS (fun _ _ => rfl) G hC C hd hst hw dd k
theorem e_cNi {α : Type} {E : qE} {Γ : qC} {own : String} {cc : ByteArray} {nL d : Nat} {F : α → qW → Prop} {pc : Nat} {L : List (Option Value)} {st : List Value} {w : qW} {ob : Option (Int32 × qW)} {kq : Int32 → qW → Option (α × qW)} {y : MethodName} {cy : ByteArray} {ny dy ci idx id : Nat} {rt : Option FieldType} {As : List Value} {sl : List (Option (Option Nat))} {st0 : List Value} (G : q_Ok E Γ own cc nL d) (hC : q_CN own idx y cy ny rt As.length) (C : q_AC q_vi rt dy y cy ny As w ob) (hd : dy + 1 ≤ d) (hst : st0 = As.reverse ++ st) (hw : (st.map fun v => v.category).sum ≤ 8) (dd : decode cc pc = .ok (.invokestatic idx, 3)) (k : ∀ (r : Int32) (w2 : qW), q_Ev E Γ nL F (pc + 3) L (.int r :: st) w2 (kq r w2)) : q_Ev E Γ nL F pc L st0 w (q_cl ob kq) := e_cN (fun _ _ => rfl) G hC C hd hst hw dd k
theorem e_cVl {α : Type} {E : qE} {Γ : qC} {own : String} {cc : ByteArray} {nL d : Nat} {F : α → qW → Prop} {pc : Nat} {L : List (Option Value)} {st : List Value} {w : qW} {ob : Option (Int64 × qW)} {kq : Int64 → qW → Option (α × qW)} {y : MethodName} {cy : ByteArray} {ny dy ci idx id : Nat} {rt : Option FieldType} {As : List Value} {sl : List (Option (Option Nat))} {st0 : List Value} (G : q_Ok E Γ own cc nL d) (hC : q_CV own idx ci y cy ny rt As.length) (C : q_AC q_vl rt dy y cy ny (.ref id :: As) w ob) (hs : q_shp[id]? = some (.inl (ci, sl))) (hd : dy + 1 ≤ d) (hst : st0 = As.reverse ++ .ref id :: st) (hw : (st.map fun v => v.category).sum ≤ 8) (dd : decode cc pc = .ok (.invokevirtual idx, 3)) (k : ∀ (r : Int64) (w2 : qW), q_Ev E Γ nL F (pc + 3) L (.long r :: st) w2 (kq r w2)) : q_Ev E Γ nL F pc L st0 w (q_cl ob kq) := e_cV (fun _ _ => rfl) G hC C hs hd hst hw dd k
theorem e_cSl {α : Type} {E : qE} {Γ : qC} {own : String} {cc : ByteArray} {nL d : Nat} {F : α → qW → Prop} {pc : Nat} {L : List (Option Value)} {st : List Value} {w : qW} {ob : Option (Int64 × qW)} {kq : Int64 → qW → Option (α × qW)} {y : MethodName} {cy : ByteArray} {ny dy ci idx id : Nat} {rt : Option FieldType} {As : List Value} {sl : List (Option (Option Nat))} {st0 : List Value} (G : q_Ok E Γ own cc nL d) (hC : q_CS own idx y cy ny rt As.length) (C : q_AC q_vl rt dy y cy ny As w ob) (hd : dy + 1 ≤ d) (hst : st0 = As.reverse ++ st) (hw : (st.map fun v => v.category).sum ≤ 8) (dd : decode cc pc = .ok (.invokestatic idx, 3)) (k : ∀ (r : Int64) (w2 : qW), q_Ev E Γ nL F (pc + 3) L (.long r :: st) w2 (kq r w2)) : q_Ev E Γ nL F pc L st0 w (q_cl ob kq) := e_cS (fun _ _ => rfl) G hC C hd hst hw dd k
theorem e_cNl {α : Type} {E : qE} {Γ : qC} {own : String} {cc : ByteArray} {nL d : Nat} {F : α → qW → Prop} {pc : Nat} {L : List (Option Value)} {st : List Value} {w : qW} {ob : Option (Int64 × qW)} {kq : Int64 → qW → Option (α × qW)} {y : MethodName} {cy : ByteArray} {ny dy ci idx id : Nat} {rt : Option FieldType} {As : List Value} {sl : List (Option (Option Nat))} {st0 : List Value} (G : q_Ok E Γ own cc nL d) (hC : q_CN own idx y cy ny rt As.length) (C : q_AC q_vl rt dy y cy ny As w ob) (hd : dy + 1 ≤ d) (hst : st0 = As.reverse ++ st) (hw : (st.map fun v => v.category).sum ≤ 8) (dd : decode cc pc = .ok (.invokestatic idx, 3)) (k : ∀ (r : Int64) (w2 : qW), q_Ev E Γ nL F (pc + 3) L (.long r :: st) w2 (kq r w2)) : q_Ev E Γ nL F pc L st0 w (q_cl ob kq) := e_cN (fun _ _ => rfl) G hC C hd hst hw dd k
theorem e_cVv {α : Type} {E : qE} {Γ : qC} {own : String} {cc : ByteArray} {nL d : Nat} {F : α → qW → Prop} {pc : Nat} {L : List (Option Value)} {st : List Value} {w : qW} {ob : Option (Unit × qW)} {kq : Unit → qW → Option (α × qW)} {y : MethodName} {cy : ByteArray} {ny dy ci idx id : Nat} {rt : Option FieldType} {As : List Value} {sl : List (Option (Option Nat))} {st0 : List Value} (G : q_Ok E Γ own cc nL d) (hC : q_CV own idx ci y cy ny rt As.length) (C : q_AC q_vv rt dy y cy ny (.ref id :: As) w ob) (hs : q_shp[id]? = some (.inl (ci, sl))) (hd : dy + 1 ≤ d) (hst : st0 = As.reverse ++ .ref id :: st) (hw : (st.map fun v => v.category).sum ≤ 8) (dd : decode cc pc = .ok (.invokevirtual idx, 3)) (k : ∀ (r : Unit) (w2 : qW), q_Ev E Γ nL F (pc + 3) L (st) w2 (kq r w2)) : q_Ev E Γ nL F pc L st0 w (q_cl ob kq) := e_cV (fun _ _ => rfl) G hC C hs hd hst hw dd k
theorem e_cSv {α : Type} {E : qE} {Γ : qC} {own : String} {cc : ByteArray} {nL d : Nat} {F : α → qW → Prop} {pc : Nat} {L : List (Option Value)} {st : List Value} {w : qW} {ob : Option (Unit × qW)} {kq : Unit → qW → Option (α × qW)} {y : MethodName} {cy : ByteArray} {ny dy ci idx id : Nat} {rt : Option FieldType} {As : List Value} {sl : List (Option (Option Nat))} {st0 : List Value} (G : q_Ok E Γ own cc nL d) (hC : q_CS own idx y cy ny rt As.length) (C : q_AC q_vv rt dy y cy ny As w ob) (hd : dy + 1 ≤ d) (hst : st0 = As.reverse ++ st) (hw : (st.map fun v => v.category).sum ≤ 8) (dd : decode cc pc = .ok (.invokestatic idx, 3)) (k : ∀ (r : Unit) (w2 : qW), q_Ev E Γ nL F (pc + 3) L (st) w2 (kq r w2)) : q_Ev E Γ nL F pc L st0 w (q_cl ob kq) := e_cS (fun _ _ => rfl) G hC C hd hst hw dd k
theorem e_cNv {α : Type} {E : qE} {Γ : qC} {own : String} {cc : ByteArray} {nL d : Nat} {F : α → qW → Prop} {pc : Nat} {L : List (Option Value)} {st : List Value} {w : qW} {ob : Option (Unit × qW)} {kq : Unit → qW → Option (α × qW)} {y : MethodName} {cy : ByteArray} {ny dy ci idx id : Nat} {rt : Option FieldType} {As : List Value} {sl : List (Option (Option Nat))} {st0 : List Value} (G : q_Ok E Γ own cc nL d) (hC : q_CN own idx y cy ny rt As.length) (C : q_AC q_vv rt dy y cy ny As w ob) (hd : dy + 1 ≤ d) (hst : st0 = As.reverse ++ st) (hw : (st.map fun v => v.category).sum ≤ 8) (dd : decode cc pc = .ok (.invokestatic idx, 3)) (k : ∀ (r : Unit) (w2 : qW), q_Ev E Γ nL F (pc + 3) L (st) w2 (kq r w2)) : q_Ev E Γ nL F pc L st0 w (q_cl ob kq) := e_cN (fun _ _ => rfl) G hC C hd hst hw dd k
/-! returns -/
def q_Fi (E : qE) (Γ : qC) (cc : ByteArray) (r : Int32) (w : qW) : Prop := ∀ (H : Heap) (locs : List Loc) (ls : Array Slot) (pc : Nat), q_Rel E w H → va_S (q_A0 E) (q_s Γ).heap H locs → decode cc pc = .ok (.ireturn, 1) → q_W Γ H locs (F0 (q_m Γ) pc ls [.int r])
def q_Fz (E : qE) (Γ : qC) (cc : ByteArray) (r : Int32) (w : qW) : Prop := ∀ (H : Heap) (locs : List Loc) (ls : Array Slot) (pc : Nat) (v : Int32), v &&& 1 = r → q_Rel E w H → va_S (q_A0 E) (q_s Γ).heap H locs → decode cc pc = .ok (.ireturn, 1) → q_W Γ H locs (F0 (q_m Γ) pc ls [.int v])
def q_Fl (E : qE) (Γ : qC) (cc : ByteArray) (r : Int64) (w : qW) : Prop := ∀ (H : Heap) (locs : List Loc) (ls : Array Slot) (pc : Nat), q_Rel E w H → va_S (q_A0 E) (q_s Γ).heap H locs → decode cc pc = .ok (.lreturn, 1) → q_W Γ H locs (F0 (q_m Γ) pc ls [.long r])
def q_Fv (E : qE) (Γ : qC) (cc : ByteArray) (_ : Unit) (w : qW) : Prop := ∀ (H : Heap) (locs : List Loc) (ls : Array Slot) (pc : Nat), q_Rel E w H → va_S (q_A0 E) (q_s Γ).heap H locs → decode cc pc = .ok (.return_, 1) → q_W Γ H locs (F0 (q_m Γ) pc ls [])
section
variable {E : qE} {Γ : qC} {cc : ByteArray} {nL pc : Nat} {L : List (Option Value)} {w : qW}
theorem e_iret {v : Int32} (dd : decode cc pc = .ok (.ireturn, 1)) : q_Ev E Γ nL (q_Fi E Γ cc) pc L [.int v] w (some (v, w)) := by
  intro r w9 ho hF H locs ls hR hS hl
  cases ho
  exact hF H locs ls pc hR hS dd
theorem e_zret {v : Int32} (dd : decode cc pc = .ok (.ireturn, 1)) : q_Ev E Γ nL (q_Fz E Γ cc) pc L [.int v] w (some (v &&& 1, w)) := by
  intro r w9 ho hF H locs ls hR hS hl
  cases ho
  exact hF H locs ls pc v rfl hR hS dd
theorem e_lret {v : Int64} (dd : decode cc pc = .ok (.lreturn, 1)) : q_Ev E Γ nL (q_Fl E Γ cc) pc L [.long v] w (some (v, w)) := by
  intro r w9 ho hF H locs ls hR hS hl
  cases ho
  exact hF H locs ls pc hR hS dd
theorem e_vret (dd : decode cc pc = .ok (.return_, 1)) : q_Ev E Γ nL (q_Fv E Γ cc) pc L [] w (some ((), w)) := by
  intro r w9 ho hF H locs ls hR hS hl
  cases ho
  exact hF H locs ls pc hR hS dd
end
