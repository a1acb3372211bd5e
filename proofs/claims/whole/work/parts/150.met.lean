def q_args : List Value → List (Option Value)
  | [] => []
  | v :: t => if v.category = 2 then some v :: none :: q_args t else some v :: q_args t
theorem q_args_len (ρ : Nat → Nat) : ∀ av : List Value, (lg_sl (av.map (q_v ρ))).length = (q_args av).length
  | [] => rfl
  | v :: t => by
    have ih := q_args_len ρ t
    unfold lg_sl at ih ⊢
    simp only [List.map_cons, List.flatMap_cons, List.length_append, q_args, q_v_cat]
    by_cases h : v.category = 2
    · simp only [h, if_true, List.length_cons, List.length_nil]; omega
    · simp only [h, if_false, List.length_cons, List.length_nil]; omega
theorem q_args_mem (ρ : Nat → Nat) : ∀ (av : List Value) (b i : Nat) (v : Value), (q_args av)[i]? = some (some v) → (b + i, q_v ρ v) ∈ lv_args b (av.map (q_v ρ))
  | [], b, i, v, h => by simp [q_args] at h
  | a :: t, b, i, v, h => by
    simp only [List.map_cons, lv_args, q_v_cat]
    unfold q_args at h
    by_cases hc : a.category = 2
    · rw [if_pos hc] at h
      rw [if_pos hc]
      match i, h with
      | 0, h => simp at h; subst h; exact List.mem_cons_self
      | 1, h => simp at h
      | i + 2, h =>
        have := q_args_mem ρ t (b + 2) i v (by simpa using h)
        refine List.mem_cons_of_mem _ ?_
        rw [show b + (i + 2) = b + 2 + i by omega]
        exact this
    · rw [if_neg hc] at h
      rw [if_neg hc]
      match i, h with
      | 0, h => simp at h; subst h; exact List.mem_cons_self
      | i + 1, h =>
        have := q_args_mem ρ t (b + 1) i v (by simpa using h)
        refine List.mem_cons_of_mem _ ?_
        rw [show b + (i + 1) = b + 1 + i by omega]
        exact this
theorem q_entry (ρ : Nat → Nat) {av : List Value} {nL k : Nat} {L0 : List (Option Value)} (hL : q_args av ++ List.replicate k none = L0) (hk : (q_args av).length + k = nL) : q_LH ρ ((lg_sl (av.map (q_v ρ)) ++ List.replicate (nL - (lg_sl (av.map (q_v ρ))).length) Slot.unset).toArray) nL L0 := by
  have h := lv_entry (av.map (q_v ρ)) (n := nL) (by rw [q_args_len]; omega)
  refine ⟨h.1, h.2.1, fun i v hi => ?_⟩
  subst hL
  by_cases hl : i < (q_args av).length
  · rw [List.getElem?_append_left hl] at hi
    have := q_args_mem ρ av 0 i v hi
    rw [Nat.zero_add] at this
    exact h.2.2 _ this
  · rw [List.getElem?_append_right (by omega), List.getElem?_replicate] at hi
    split at hi <;> simp at hi
section
variable {y : MethodName} {own : String} {cy : ByteArray} {ny d k : Nat} {av : List Value} {w : qW} {L0 : List (Option Value)}
theorem q_body {β : Type} {val : β → Option Value} {rt : Option FieldType} {o : Option (β × qW)} (Fn : qE → qC → ByteArray → β → qW → Prop) (hy : plainName y.cls = true) (hown : y.cls = own) (hL : q_args av ++ List.replicate k none = L0) (hk : (q_args av).length + k = ny)
    (hfin : ∀ (E : qE) (Γ : qC) (r : β) (w' : qW), (q_p Γ).tables.exec = Jvm.exec → (q_c Γ).code = cy → (q_me Γ).sig.returnType = rt → (q_me Γ).locks = false → q_Qt Γ = MQ (q_be Γ) (q_Q val E r w') (q_as Γ) (q_s Γ) (q_ce Γ) (q_sl Γ) (q_A0 E) → Fn E Γ cy r w')
    (h : ∀ (E : qE) (Γ : qC), q_Ok E Γ own cy ny d → q_Ev E Γ ny (Fn E Γ cy) 0 L0 [] w o) : q_AC val rt d y cy ny av w o := by
  intro l E r w' ho
  refine Met.ofW (cc := cy) (maxL := ny) (ret := rt) hy rfl ?_
  intro p e s m args below meth c s₁ B hml hv
  obtain ⟨rfl, hG, hR⟩ := hv
  have hts := atoms_spec (ws := q_ws y cy ny rt) B.pre
  have hf : s.vm.findClass own = some m.cls := hown ▸ findClass_of_methodNamed B.named
  have Gk : q_Ok E (p, l, e, (headSpec (q_ws y cy ny rt) (q_rm d)).room, s, m, (av.map (q_v (q_ρ E))).toArray, below, meth, c, MQ below (q_Q val E r w') (av.map (q_v (q_ρ E))).toArray s 0 0 (q_A0 E), 0, 0) own cy ny d :=
    ⟨B.exec, B.bytes, hml, hf, fun w hw => hts w (List.mem_cons_of_mem _ hw), hG, Nat.le_refl _, Nat.le_refl _, Nat.zero_le _, Nat.zero_le _⟩
  rw [lg_entry_eq]
  exact h E _ Gk r w' ho (hfin E _ r w' B.exec B.bytes B.returns B.notSynchronized rfl) s.heap [] _ hR va_S.rf (q_entry (q_ρ E) hL hk)
theorem q_met_i {o : Option (Int32 × qW)} (hy : plainName y.cls = true) (hown : y.cls = own) (hL : q_args av ++ List.replicate k none = L0) (hk : (q_args av).length + k = ny) (h : ∀ (E : qE) (Γ : qC), q_Ok E Γ own cy ny d → q_Ev E Γ ny (q_Fi E Γ cy) 0 L0 [] w o) : q_AC q_vi (some .int) d y cy ny av w o := by
  refine q_body q_Fi hy hown hL hk (fun E Γ r w' hx hb hr hlocks hQ => ?_) h
  intro H locs ls pc hR hS dd
  unfold q_W
  rw [hQ]
  exact W.iret hx hb hr (fun t ht hW => ⟨rfl, by rw [ht]; exact hR, hS.F ht⟩) hS.2.2 dd
theorem q_met_z {o : Option (Int32 × qW)} (hy : plainName y.cls = true) (hown : y.cls = own) (hL : q_args av ++ List.replicate k none = L0) (hk : (q_args av).length + k = ny) (h : ∀ (E : qE) (Γ : qC), q_Ok E Γ own cy ny d → q_Ev E Γ ny (q_Fz E Γ cy) 0 L0 [] w o) : q_AC q_vi (some .boolean) d y cy ny av w o := by
  refine q_body q_Fz hy hown hL hk (fun E Γ r w' hx hb hr hlocks hQ => ?_) h
  intro H locs ls pc v hv hR hS dd
  subst hv
  unfold q_W
  rw [hQ]
  intro T hT X
  obtain ⟨fs, hret, hrun, hended, hW, hframe⟩ := X.leave (v := some (.int (v &&& 1))) (fun h => by rw [hr] at h; cases h)
  have hmeth' : T.vm.method? (q_m Γ) = some (q_me Γ) := X.method'
  refine ⟨T.setFrames fs, ?_, .returned (some (.int (v &&& 1))), hrun, hended, ⟨rfl, by show q_Rel E w' T.heap; rw [hT]; exact hR, hS.F (show (T.setFrames fs).heap = H from hT)⟩, locs, ⟨⟨_, rfl⟩, hW, hframe⟩, hS.2.2⟩
  jvm_step X.here [X.here.top, hx, hb, dd, hmeth', hr, narrow]
  (try refine ⟨rfl, ?_⟩); (try refine ⟨rfl, ?_⟩)
  first | (intro acts; rw [hret _ acts rfl rfl rfl]) | rw [hret _ _ rfl rfl rfl]
  exact Steps.refl _
theorem q_met_l {o : Option (Int64 × qW)} (hy : plainName y.cls = true) (hown : y.cls = own) (hL : q_args av ++ List.replicate k none = L0) (hk : (q_args av).length + k = ny) (h : ∀ (E : qE) (Γ : qC), q_Ok E Γ own cy ny d → q_Ev E Γ ny (q_Fl E Γ cy) 0 L0 [] w o) : q_AC q_vl (some .long) d y cy ny av w o := by
  refine q_body q_Fl hy hown hL hk (fun E Γ r w' hx hb hr hlocks hQ => ?_) h
  intro H locs ls pc hR hS dd
  unfold q_W
  rw [hQ]
  exact W.lret hx hb hr (fun t ht hW => ⟨rfl, by rw [ht]; exact hR, hS.F ht⟩) hS.2.2 dd
theorem q_met_v {o : Option (Unit × qW)} (hy : plainName y.cls = true) (hown : y.cls = own) (hL : q_args av ++ List.replicate k none = L0) (hk : (q_args av).length + k = ny) (h : ∀ (E : qE) (Γ : qC), q_Ok E Γ own cy ny d → q_Ev E Γ ny (q_Fv E Γ cy) 0 L0 [] w o) : q_AC q_vv none d y cy ny av w o := by
  refine q_body q_Fv hy hown hL hk (fun E Γ r w' hx hb hr hlocks hQ => ?_) h
  intro H locs ls pc hR hS dd
  unfold q_W
  rw [hQ]
  exact W.vret hx hb hr (fun t ht hW => ⟨rfl, by rw [ht]; exact hR, hS.F ht⟩) hS.2.2 dd
end
