section
variable {α : Type} {E : qE} {Γ : qC} {own : String} {cc : ByteArray} {nL d : Nat} {F : α → qW → Prop} {pc : Nat} {L : List (Option Value)} {st : List Value} {w : qW} {oo : Option (α × qW)}
theorem e_tsIn (G : q_Ok E Γ own cc nL d) {dflt lo hi : Int} {offs : Array Int} {len : Nat} {x : Int32} {off : Int} {tgt : Nat} (dd : decode cc pc = .ok (.tableswitch dflt lo hi offs, len)) (h1 : ¬ x.toInt < lo) (h2 : ¬ hi < x.toInt) (hof : offs[(x.toInt - lo).toNat]? = some off) (ht : (pc : Int) + off = (tgt : Int)) (k : q_Ev E Γ nL F tgt L st w oo) : q_Ev E Γ nL F pc L (.int x :: st) w oo := by
  intro r w9 ho hF H locs ls hR hS hl
  exact lv_tableIn G.1 G.2.1 dd h1 h2 hof ht (k r w9 ho hF H locs ls hR hS hl)
theorem e_tsOut (G : q_Ok E Γ own cc nL d) {dflt lo hi : Int} {offs : Array Int} {len : Nat} {x : Int32} {tgt : Nat} (dd : decode cc pc = .ok (.tableswitch dflt lo hi offs, len)) (h : x.toInt < lo ∨ hi < x.toInt) (ht : (pc : Int) + dflt = (tgt : Int)) (k : q_Ev E Γ nL F tgt L st w oo) : q_Ev E Γ nL F pc L (.int x :: st) w oo := by
  intro r w9 ho hF H locs ls hR hS hl
  exact lv_tableOut G.1 G.2.1 dd h ht (k r w9 ho hF H locs ls hR hS hl)
theorem e_lsw (G : q_Ok E Γ own cc nL d) {dflt : Int} {ps : Array (Int × Int)} {len : Nat} {x : Int32} {off : Int} {tgt : Nat} (dd : decode cc pc = .ok (.lookupswitch dflt ps, len)) (hp : (ps.toList.zip (ps.toList.drop 1)).all (fun (a, next) => a.1 < next.1) = true) (hof : Op.lookupswitch.offset ps.toList dflt x.toInt = off) (ht : (pc : Int) + off = (tgt : Int)) (k : q_Ev E Γ nL F tgt L st w oo) : q_Ev E Γ nL F pc L (.int x :: st) w oo := by
  intro r w9 ho hF H locs ls hR hS hl
  exact lv_lookup G.1 G.2.1 dd hp hof ht (k r w9 ho hF H locs ls hR hS hl)
end
theorem q_mem {w : Cond} (i : Nat) (h : lw_tbl[i]? = some w) (hg : goodWord w = true) : w ∈ q_gW := List.mem_filter.mpr ⟨List.mem_of_getElem? h, hg⟩
theorem q_memN {w : Cond} (i : Nat) (h : lw_tbl[i]? = some w) (hg : q_isNest w = true) : w ∈ q_nW := List.mem_filter.mpr ⟨List.mem_of_getElem? h, hg⟩
