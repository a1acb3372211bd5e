section
variable {α : Type} {E : qE} {Γ : qC} {own : String} {cc : ByteArray} {nL d : Nat} {F : α → qW → Prop} {pc : Nat} {L : List (Option Value)} {st : List Value} {w : qW} {oo : Option (α × qW)}
theorem e_iconst (G : q_Ok E Γ own cc nL d) {n : Int} {v : Int32} (dd : decode cc pc = .ok (.iconst n, 1)) (hv : Int32.ofInt n = v) (k : q_Ev E Γ nL F (pc + 1) L (.int v :: st) w (oo)) : q_Ev E Γ nL F (pc) L (st) w (oo) := by
  intro r w9 ho hF H locs ls hR hS hl
  exact lv_iconst G.1 G.2.1 dd hv (k r w9 ho hF H locs ls hR hS hl)

theorem e_bipush (G : q_Ok E Γ own cc nL d) {n : Int} {v : Int32} (dd : decode cc pc = .ok (.bipush n, 2)) (hv : (Int8.ofInt n).toInt32 = v) (k : q_Ev E Γ nL F (pc + 2) L (.int v :: st) w (oo)) : q_Ev E Γ nL F (pc) L (st) w (oo) := by
  intro r w9 ho hF H locs ls hR hS hl
  exact lv_bipush G.1 G.2.1 dd hv (k r w9 ho hF H locs ls hR hS hl)

theorem e_sipush (G : q_Ok E Γ own cc nL d) {n : Int} {v : Int32} (dd : decode cc pc = .ok (.sipush n, 3)) (hv : (Int16.ofInt n).toInt32 = v) (k : q_Ev E Γ nL F (pc + 3) L (.int v :: st) w (oo)) : q_Ev E Γ nL F (pc) L (st) w (oo) := by
  intro r w9 ho hF H locs ls hR hS hl
  exact lv_sipush G.1 G.2.1 dd hv (k r w9 ho hF H locs ls hR hS hl)

theorem e_lconst (G : q_Ok E Γ own cc nL d) {n : Fin 2} {v : Int64} (dd : decode cc pc = .ok (.lconst n, 1)) (hv : Int64.ofNat (n : Nat) = v) (k : q_Ev E Γ nL F (pc + 1) L (.long v :: st) w (oo)) : q_Ev E Γ nL F (pc) L (st) w (oo) := by
  intro r w9 ho hF H locs ls hR hS hl
  exact lv_lconst G.1 G.2.1 dd hv (k r w9 ho hF H locs ls hR hS hl)

theorem e_iload_n (G : q_Ok E Γ own cc nL d) {kk : Fin 4} {i : Nat} {x : Int32} (dd : decode cc pc = .ok (.iload_n kk, 1)) (hi : (kk : Nat) = i) (hL : L[i]? = some (some (.int x))) (k : q_Ev E Γ nL F (pc + 1) L (.int x :: st) w (oo)) : q_Ev E Γ nL F (pc) L (st) w (oo) := by
  intro r w9 ho hF H locs ls hR hS hl
  exact lv_iload_n G.1 G.2.1 dd hi (hl.2.2 i _ hL) (k r w9 ho hF H locs ls hR hS hl)

theorem e_iload (G : q_Ok E Γ own cc nL d) {i : Nat} {x : Int32} (dd : decode cc pc = .ok (.iload i, 2)) (hL : L[i]? = some (some (.int x))) (k : q_Ev E Γ nL F (pc + 2) L (.int x :: st) w (oo)) : q_Ev E Γ nL F (pc) L (st) w (oo) := by
  intro r w9 ho hF H locs ls hR hS hl
  exact lv_iload G.1 G.2.1 dd (hl.2.2 i _ hL) (k r w9 ho hF H locs ls hR hS hl)

theorem e_lload_n (G : q_Ok E Γ own cc nL d) {kk : Fin 4} {i : Nat} {x : Int64} (dd : decode cc pc = .ok (.lload_n kk, 1)) (hi : (kk : Nat) = i) (hL : L[i]? = some (some (.long x))) (k : q_Ev E Γ nL F (pc + 1) L (.long x :: st) w (oo)) : q_Ev E Γ nL F (pc) L (st) w (oo) := by
  intro r w9 ho hF H locs ls hR hS hl
  exact lv_lload_n G.1 G.2.1 dd hi (hl.2.2 i _ hL) (k r w9 ho hF H locs ls hR hS hl)

theorem e_lload (G : q_Ok E Γ own cc nL d) {i : Nat} {x : Int64} (dd : decode cc pc = .ok (.lload i, 2)) (hL : L[i]? = some (some (.long x))) (k : q_Ev E Γ nL F (pc + 2) L (.long x :: st) w (oo)) : q_Ev E Γ nL F (pc) L (st) w (oo) := by
  intro r w9 ho hF H locs ls hR hS hl
  exact lv_lload G.1 G.2.1 dd (hl.2.2 i _ hL) (k r w9 ho hF H locs ls hR hS hl)

theorem e_aload_n (G : q_Ok E Γ own cc nL d) {kk : Fin 4} {i : Nat} {x : Nat} (dd : decode cc pc = .ok (.aload_n kk, 1)) (hi : (kk : Nat) = i) (hL : L[i]? = some (some (.ref x))) (k : q_Ev E Γ nL F (pc + 1) L (.ref x :: st) w (oo)) : q_Ev E Γ nL F (pc) L (st) w (oo) := by
  intro r w9 ho hF H locs ls hR hS hl
  exact lv_aload_n G.1 G.2.1 dd hi (hl.2.2 i _ hL) (k r w9 ho hF H locs ls hR hS hl)

theorem e_aload (G : q_Ok E Γ own cc nL d) {i : Nat} {x : Nat} (dd : decode cc pc = .ok (.aload i, 2)) (hL : L[i]? = some (some (.ref x))) (k : q_Ev E Γ nL F (pc + 2) L (.ref x :: st) w (oo)) : q_Ev E Γ nL F (pc) L (st) w (oo) := by
  intro r w9 ho hF H locs ls hR hS hl
  exact lv_aload G.1 G.2.1 dd (hl.2.2 i _ hL) (k r w9 ho hF H locs ls hR hS hl)

theorem e_istore_n (G : q_Ok E Γ own cc nL d) {kk : Fin 4} {i : Nat} {x : Int32} {L' : List (Option Value)} (dd : decode cc pc = .ok (.istore_n kk, 1)) (hi : (kk : Nat) = i) (hn : i < nL) (hL : q_stL L i (.int x) = L') (k : q_Ev E Γ nL F (pc + 1) L' (st) w (oo)) : q_Ev E Γ nL F (pc) L (.int x :: st) w (oo) := by
  intro r w9 ho hF H locs ls hR hS hl
  exact lv_istore_n G.1 G.2.1 dd hi hl.has hn rfl (fun ls' h' => k r w9 ho hF H locs ls' hR hS (hL ▸ q_LH.store1 (v := .int x) h'))

theorem e_istore (G : q_Ok E Γ own cc nL d) {i : Nat} {x : Int32} {L' : List (Option Value)} (dd : decode cc pc = .ok (.istore i, 2)) (hn : i < nL) (hL : q_stL L i (.int x) = L') (k : q_Ev E Γ nL F (pc + 2) L' (st) w (oo)) : q_Ev E Γ nL F (pc) L (.int x :: st) w (oo) := by
  intro r w9 ho hF H locs ls hR hS hl
  exact lv_istore G.1 G.2.1 dd hl.has hn rfl (fun ls' h' => k r w9 ho hF H locs ls' hR hS (hL ▸ q_LH.store1 (v := .int x) h'))

theorem e_astore_n (G : q_Ok E Γ own cc nL d) {kk : Fin 4} {i : Nat} {x : Nat} {L' : List (Option Value)} (dd : decode cc pc = .ok (.astore_n kk, 1)) (hi : (kk : Nat) = i) (hn : i < nL) (hL : q_stL L i (.ref x) = L') (k : q_Ev E Γ nL F (pc + 1) L' (st) w (oo)) : q_Ev E Γ nL F (pc) L (.ref x :: st) w (oo) := by
  intro r w9 ho hF H locs ls hR hS hl
  exact lv_astore_n G.1 G.2.1 dd hi hl.has hn rfl (fun ls' h' => k r w9 ho hF H locs ls' hR hS (hL ▸ q_LH.store1 (v := .ref x) h'))

theorem e_astore (G : q_Ok E Γ own cc nL d) {i : Nat} {x : Nat} {L' : List (Option Value)} (dd : decode cc pc = .ok (.astore i, 2)) (hn : i < nL) (hL : q_stL L i (.ref x) = L') (k : q_Ev E Γ nL F (pc + 2) L' (st) w (oo)) : q_Ev E Γ nL F (pc) L (.ref x :: st) w (oo) := by
  intro r w9 ho hF H locs ls hR hS hl
  exact lv_astore G.1 G.2.1 dd hl.has hn rfl (fun ls' h' => k r w9 ho hF H locs ls' hR hS (hL ▸ q_LH.store1 (v := .ref x) h'))

theorem e_lstore_n (G : q_Ok E Γ own cc nL d) {kk : Fin 4} {i : Nat} {x : Int64} {L' : List (Option Value)} (dd : decode cc pc = .ok (.lstore_n kk, 1)) (hi : (kk : Nat) = i) (hn : i + 1 < nL) (hL : q_stL2 L i (.long x) = L') (k : q_Ev E Γ nL F (pc + 1) L' (st) w (oo)) : q_Ev E Γ nL F (pc) L (.long x :: st) w (oo) := by
  intro r w9 ho hF H locs ls hR hS hl
  exact lv_lstore_n G.1 G.2.1 dd hi hl.has hn rfl (fun ls' h' => k r w9 ho hF H locs ls' hR hS (hL ▸ q_LH.store2 (v := .long x) h'))

theorem e_lstore (G : q_Ok E Γ own cc nL d) {i : Nat} {x : Int64} {L' : List (Option Value)} (dd : decode cc pc = .ok (.lstore i, 2)) (hn : i + 1 < nL) (hL : q_stL2 L i (.long x) = L') (k : q_Ev E Γ nL F (pc + 2) L' (st) w (oo)) : q_Ev E Γ nL F (pc) L (.long x :: st) w (oo) := by
  intro r w9 ho hF H locs ls hR hS hl
  exact lv_lstore G.1 G.2.1 dd hl.has hn rfl (fun ls' h' => k r w9 ho hF H locs ls' hR hS (hL ▸ q_LH.store2 (v := .long x) h'))

theorem e_iinc (G : q_Ok E Γ own cc nL d) {i : Nat} {n : Int} {x v : Int32} {L' : Int32 → List (Option Value)} {kq : Int32 → Option (α × qW)} (dd : decode cc pc = .ok (.iinc i n, 3)) (hn : i < nL) (hx : L[i]? = some (some (.int x))) (hv : x + Int32.ofInt n = v) (hL : ∀ y : Int32, q_stL L i (.int y) = L' y) (k : ∀ y : Int32, q_Ev E Γ nL F (pc + 3) (L' y) (st) w (kq y)) : q_Ev E Γ nL F (pc) L (st) w (q_bn v kq) := by
  intro r w9 ho hF H locs ls hR hS hl
  have hm : (i, Value.int x) ∈ q_lv (q_ρ E) L := q_lv_mem hx
  obtain ⟨j, hj⟩ := List.getElem?_of_mem hm
  exact lv_iinc G.1 G.2.1 dd hl.has hj hv hn rfl (fun ls' h' => k v r w9 ho hF H locs ls' hR hS (hL v ▸ q_LH.store1 (v := .int v) h'))

theorem e_iadd (G : q_Ok E Γ own cc nL d) {x y : Int32} (dd : decode cc pc = .ok (.iadd, 1)) (k : q_Ev E Γ nL F (pc + 1) L (.int (x + y) :: st) w (oo)) : q_Ev E Γ nL F (pc) L (.int y :: .int x :: st) w (oo) := by
  intro r w9 ho hF H locs ls hR hS hl
  exact lv_iadd G.1 G.2.1 dd (k r w9 ho hF H locs ls hR hS hl)

theorem e_isub (G : q_Ok E Γ own cc nL d) {x y : Int32} (dd : decode cc pc = .ok (.isub, 1)) (k : q_Ev E Γ nL F (pc + 1) L (.int (x - y) :: st) w (oo)) : q_Ev E Γ nL F (pc) L (.int y :: .int x :: st) w (oo) := by
  intro r w9 ho hF H locs ls hR hS hl
  exact lv_isub G.1 G.2.1 dd (k r w9 ho hF H locs ls hR hS hl)

theorem e_imul (G : q_Ok E Γ own cc nL d) {x y : Int32} (dd : decode cc pc = .ok (.imul, 1)) (k : q_Ev E Γ nL F (pc + 1) L (.int (x * y) :: st) w (oo)) : q_Ev E Γ nL F (pc) L (.int y :: .int x :: st) w (oo) := by
  intro r w9 ho hF H locs ls hR hS hl
  exact lv_imul G.1 G.2.1 dd (k r w9 ho hF H locs ls hR hS hl)

theorem e_iand (G : q_Ok E Γ own cc nL d) {x y : Int32} (dd : decode cc pc = .ok (.iand, 1)) (k : q_Ev E Γ nL F (pc + 1) L (.int (x &&& y) :: st) w (oo)) : q_Ev E Γ nL F (pc) L (.int y :: .int x :: st) w (oo) := by
  intro r w9 ho hF H locs ls hR hS hl
  exact lv_iand G.1 G.2.1 dd (k r w9 ho hF H locs ls hR hS hl)

theorem e_ior (G : q_Ok E Γ own cc nL d) {x y : Int32} (dd : decode cc pc = .ok (.ior, 1)) (k : q_Ev E Γ nL F (pc + 1) L (.int (x ||| y) :: st) w (oo)) : q_Ev E Γ nL F (pc) L (.int y :: .int x :: st) w (oo) := by
  intro r w9 ho hF H locs ls hR hS hl
  exact lv_ior G.1 G.2.1 dd (k r w9 ho hF H locs ls hR hS hl)

theorem e_ixor (G : q_Ok E Γ own cc nL d) {x y : Int32} (dd : decode cc pc = .ok (.ixor, 1)) (k : q_Ev E Γ nL F (pc + 1) L (.int (x ^^^ y) :: st) w (oo)) : q_Ev E Γ nL F (pc) L (.int y :: .int x :: st) w (oo) := by
  intro r w9 ho hF H locs ls hR hS hl
  exact lv_ixor G.1 G.2.1 dd (k r w9 ho hF H locs ls hR hS hl)

theorem e_ishl (G : q_Ok E Γ own cc nL d) {x y : Int32} (dd : decode cc pc = .ok (.ishl, 1)) (k : q_Ev E Γ nL F (pc + 1) L (.int (x <<< (y &&& 31)) :: st) w (oo)) : q_Ev E Γ nL F (pc) L (.int y :: .int x :: st) w (oo) := by
  intro r w9 ho hF H locs ls hR hS hl
  exact lv_ishl G.1 G.2.1 dd (k r w9 ho hF H locs ls hR hS hl)

theorem e_ishr (G : q_Ok E Γ own cc nL d) {x y : Int32} (dd : decode cc pc = .ok (.ishr, 1)) (k : q_Ev E Γ nL F (pc + 1) L (.int (x >>> (y &&& 31)) :: st) w (oo)) : q_Ev E Γ nL F (pc) L (.int y :: .int x :: st) w (oo) := by
  intro r w9 ho hF H locs ls hR hS hl
  exact lv_ishr G.1 G.2.1 dd (k r w9 ho hF H locs ls hR hS hl)

theorem e_idiv (G : q_Ok E Γ own cc nL d) {x y : Int32} (dd : decode cc pc = .ok (.idiv, 1)) (hne : ¬ y = 0) (k : q_Ev E Γ nL F (pc + 1) L (.int (x / y) :: st) w (oo)) : q_Ev E Γ nL F (pc) L (.int y :: .int x :: st) w (oo) := by
  intro r w9 ho hF H locs ls hR hS hl
  exact lv_idiv G.1 G.2.1 dd hne (k r w9 ho hF H locs ls hR hS hl)

theorem e_idiv_z (G : q_Ok E Γ own cc nL d) {x y : Int32} (dd : decode cc pc = .ok (.idiv, 1)) (k : q_Ev E Γ nL F (pc + 1) L (.int (x / y) :: st) w (oo)) : q_Ev E Γ nL F (pc) L (.int y :: .int x :: st) w (q_nz y oo) := by
  intro r w9 ho hF H locs ls hR hS hl
  unfold q_nz at ho
  by_cases hy : y = 0
  · rw [if_pos hy] at ho; cases ho
  · rw [if_neg hy] at ho
    exact lv_idiv G.1 G.2.1 dd hy (k r w9 ho hF H locs ls hR hS hl)

theorem e_irem (G : q_Ok E Γ own cc nL d) {x y : Int32} (dd : decode cc pc = .ok (.irem, 1)) (hne : ¬ y = 0) (k : q_Ev E Γ nL F (pc + 1) L (.int (q_rem x y) :: st) w (oo)) : q_Ev E Γ nL F (pc) L (.int y :: .int x :: st) w (oo) := by
  intro r w9 ho hF H locs ls hR hS hl
  exact lv_irem G.1 G.2.1 dd hne (k r w9 ho hF H locs ls hR hS hl)

theorem e_irem_z (G : q_Ok E Γ own cc nL d) {x y : Int32} (dd : decode cc pc = .ok (.irem, 1)) (k : q_Ev E Γ nL F (pc + 1) L (.int (q_rem x y) :: st) w (oo)) : q_Ev E Γ nL F (pc) L (.int y :: .int x :: st) w (q_nz y oo) := by
  intro r w9 ho hF H locs ls hR hS hl
  unfold q_nz at ho
  by_cases hy : y = 0
  · rw [if_pos hy] at ho; cases ho
  · rw [if_neg hy] at ho
    exact lv_irem G.1 G.2.1 dd hy (k r w9 ho hF H locs ls hR hS hl)

theorem e_ineg (G : q_Ok E Γ own cc nL d) {x : Int32} (dd : decode cc pc = .ok (.ineg, 1)) (k : q_Ev E Γ nL F (pc + 1) L (.int (-x) :: st) w (oo)) : q_Ev E Γ nL F (pc) L (.int x :: st) w (oo) := by
  intro r w9 ho hF H locs ls hR hS hl
  exact lv_ineg G.1 G.2.1 dd (k r w9 ho hF H locs ls hR hS hl)

theorem e_iushr (G : q_Ok E Γ own cc nL d) {x y : Int32} (dd : decode cc pc = .ok (.iushr, 1)) (k : q_Ev E Γ nL F (pc + 1) L (.int (q_ush x y) :: st) w (oo)) : q_Ev E Γ nL F (pc) L (.int y :: .int x :: st) w (oo) := by
  intro r w9 ho hF H locs ls hR hS hl
  exact lv_iushr G.1 G.2.1 dd rfl (k r w9 ho hF H locs ls hR hS hl)

theorem e_ladd (G : q_Ok E Γ own cc nL d) {x y : Int64} (dd : decode cc pc = .ok (.ladd, 1)) (k : q_Ev E Γ nL F (pc + 1) L (.long (x + y) :: st) w (oo)) : q_Ev E Γ nL F (pc) L (.long y :: .long x :: st) w (oo) := by
  intro r w9 ho hF H locs ls hR hS hl
  exact lv_ladd G.1 G.2.1 dd (k r w9 ho hF H locs ls hR hS hl)

theorem e_lsub (G : q_Ok E Γ own cc nL d) {x y : Int64} (dd : decode cc pc = .ok (.lsub, 1)) (k : q_Ev E Γ nL F (pc + 1) L (.long (x - y) :: st) w (oo)) : q_Ev E Γ nL F (pc) L (.long y :: .long x :: st) w (oo) := by
  intro r w9 ho hF H locs ls hR hS hl
  exact lv_lsub G.1 G.2.1 dd (k r w9 ho hF H locs ls hR hS hl)

theorem e_lmul (G : q_Ok E Γ own cc nL d) {x y : Int64} (dd : decode cc pc = .ok (.lmul, 1)) (k : q_Ev E Γ nL F (pc + 1) L (.long (x * y) :: st) w (oo)) : q_Ev E Γ nL F (pc) L (.long y :: .long x :: st) w (oo) := by
  intro r w9 ho hF H locs ls hR hS hl
  exact lv_lmul G.1 G.2.1 dd (k r w9 ho hF H locs ls hR hS hl)

theorem e_land (G : q_Ok E Γ own cc nL d) {x y : Int64} (dd : decode cc pc = .ok (.land, 1)) (k : q_Ev E Γ nL F (pc + 1) L (.long (x &&& y) :: st) w (oo)) : q_Ev E Γ nL F (pc) L (.long y :: .long x :: st) w (oo) := by
  intro r w9 ho hF H locs ls hR hS hl
  exact lv_land G.1 G.2.1 dd (k r w9 ho hF H locs ls hR hS hl)

theorem e_lor (G : q_Ok E Γ own cc nL d) {x y : Int64} (dd : decode cc pc = .ok (.lor, 1)) (k : q_Ev E Γ nL F (pc + 1) L (.long (x ||| y) :: st) w (oo)) : q_Ev E Γ nL F (pc) L (.long y :: .long x :: st) w (oo) := by
  intro r w9 ho hF H locs ls hR hS hl
  exact lv_lor G.1 G.2.1 dd (k r w9 ho hF H locs ls hR hS hl)

theorem e_lshl (G : q_Ok E Γ own cc nL d) {x : Int64} {y : Int32} (dd : decode cc pc = .ok (.lshl, 1)) (k : q_Ev E Γ nL F (pc + 1) L (.long (x <<< (y.toInt64 &&& 63)) :: st) w (oo)) : q_Ev E Γ nL F (pc) L (.int y :: .long x :: st) w (oo) := by
  intro r w9 ho hF H locs ls hR hS hl
  exact lv_lshl G.1 G.2.1 dd rfl (k r w9 ho hF H locs ls hR hS hl)

theorem e_i2l (G : q_Ok E Γ own cc nL d) {x : Int32} (dd : decode cc pc = .ok (.i2l, 1)) (k : q_Ev E Γ nL F (pc + 1) L (.long x.toInt64 :: st) w (oo)) : q_Ev E Γ nL F (pc) L (.int x :: st) w (oo) := by
  intro r w9 ho hF H locs ls hR hS hl
  exact lv_i2l G.1 G.2.1 dd rfl (k r w9 ho hF H locs ls hR hS hl)

theorem e_l2i (G : q_Ok E Γ own cc nL d) {x : Int64} (dd : decode cc pc = .ok (.l2i, 1)) (k : q_Ev E Γ nL F (pc + 1) L (.int x.toInt32 :: st) w (oo)) : q_Ev E Γ nL F (pc) L (.long x :: st) w (oo) := by
  intro r w9 ho hF H locs ls hR hS hl
  exact lv_l2i G.1 G.2.1 dd rfl (k r w9 ho hF H locs ls hR hS hl)

theorem e_i2b (G : q_Ok E Γ own cc nL d) {x : Int32} (dd : decode cc pc = .ok (.i2b, 1)) (k : q_Ev E Γ nL F (pc + 1) L (.int x.toInt8.toInt32 :: st) w (oo)) : q_Ev E Γ nL F (pc) L (.int x :: st) w (oo) := by
  intro r w9 ho hF H locs ls hR hS hl
  exact lv_i2b G.1 G.2.1 dd rfl (k r w9 ho hF H locs ls hR hS hl)

theorem e_i2s (G : q_Ok E Γ own cc nL d) {x : Int32} (dd : decode cc pc = .ok (.i2s, 1)) (k : q_Ev E Γ nL F (pc + 1) L (.int x.toInt16.toInt32 :: st) w (oo)) : q_Ev E Γ nL F (pc) L (.int x :: st) w (oo) := by
  intro r w9 ho hF H locs ls hR hS hl
  exact lv_i2s G.1 G.2.1 dd rfl (k r w9 ho hF H locs ls hR hS hl)

theorem e_lcmp (G : q_Ok E Γ own cc nL d) {x y : Int64} (dd : decode cc pc = .ok (.lcmp, 1)) (k : q_Ev E Γ nL F (pc + 1) L (.int (lg_cmp x y) :: st) w (oo)) : q_Ev E Γ nL F (pc) L (.long y :: .long x :: st) w (oo) := by
  intro r w9 ho hF H locs ls hR hS hl
  exact W.lcmp G.1 G.2.1 dd (k r w9 ho hF H locs ls hR hS hl)

theorem e_dup (G : q_Ok E Γ own cc nL d) {a : Value} (dd : decode cc pc = .ok (.dup, 1)) (ha : a.category = 1) (k : q_Ev E Γ nL F (pc + 1) L (a :: a :: st) w (oo)) : q_Ev E Γ nL F (pc) L (a :: st) w (oo) := by
  intro r w9 ho hF H locs ls hR hS hl
  exact lv_dup G.1 G.2.1 dd ((q_v_cat _ a).trans ha) (k r w9 ho hF H locs ls hR hS hl)

theorem e_dup2 (G : q_Ok E Γ own cc nL d) {a b : Value} (dd : decode cc pc = .ok (.dup2, 1)) (ha : a.category = 1) (hb : b.category = 1) (k : q_Ev E Γ nL F (pc + 1) L (a :: b :: a :: b :: st) w (oo)) : q_Ev E Γ nL F (pc) L (a :: b :: st) w (oo) := by
  intro r w9 ho hF H locs ls hR hS hl
  exact lv_dup2_11 G.1 G.2.1 dd ((q_v_cat _ a).trans ha) ((q_v_cat _ b).trans hb) (k r w9 ho hF H locs ls hR hS hl)

theorem e_if_eq (G : q_Ok E Γ own cc nL d) {x : Int32} {off : Int} {tgt : Nat} {o1 o2 : Option (α × qW)} (dd : decode cc pc = .ok (.ifCond .eq off, 3)) (ht : (pc : Int) + off = (tgt : Int)) (k1 : q_Ev E Γ nL F (tgt) L (st) w (o1)) (k2 : q_Ev E Γ nL F (pc + 3) L (st) w (o2)) : q_Ev E Γ nL F (pc) L (.int x :: st) w (if x = 0 then o1 else o2) := by
  intro r w9 ho hF H locs ls hR hS hl
  refine lv_if_eq G.1 G.2.1 dd ht (fun h => ?_) (fun h => ?_)
  · rw [if_pos h] at ho; exact k1 r w9 ho hF H locs ls hR hS hl
  · rw [if_neg h] at ho; exact k2 r w9 ho hF H locs ls hR hS hl

theorem e_icmp_eq (G : q_Ok E Γ own cc nL d) {x y : Int32} {off : Int} {tgt : Nat} {o1 o2 : Option (α × qW)} (dd : decode cc pc = .ok (.if_icmp .eq off, 3)) (ht : (pc : Int) + off = (tgt : Int)) (k1 : q_Ev E Γ nL F (tgt) L (st) w (o1)) (k2 : q_Ev E Γ nL F (pc + 3) L (st) w (o2)) : q_Ev E Γ nL F (pc) L (.int y :: .int x :: st) w (if x = y then o1 else o2) := by
  intro r w9 ho hF H locs ls hR hS hl
  refine lv_icmp_eq G.1 G.2.1 dd ht (fun h => ?_) (fun h => ?_)
  · rw [if_pos h] at ho; exact k1 r w9 ho hF H locs ls hR hS hl
  · rw [if_neg h] at ho; exact k2 r w9 ho hF H locs ls hR hS hl

theorem e_if_ne (G : q_Ok E Γ own cc nL d) {x : Int32} {off : Int} {tgt : Nat} {o1 o2 : Option (α × qW)} (dd : decode cc pc = .ok (.ifCond .ne off, 3)) (ht : (pc : Int) + off = (tgt : Int)) (k1 : q_Ev E Γ nL F (tgt) L (st) w (o1)) (k2 : q_Ev E Γ nL F (pc + 3) L (st) w (o2)) : q_Ev E Γ nL F (pc) L (.int x :: st) w (if x = 0 then o2 else o1) := by
  intro r w9 ho hF H locs ls hR hS hl
  refine lv_if_ne G.1 G.2.1 dd ht (fun h => ?_) (fun h => ?_)
  · rw [if_neg h] at ho; exact k1 r w9 ho hF H locs ls hR hS hl
  · rw [if_pos h] at ho; exact k2 r w9 ho hF H locs ls hR hS hl

theorem e_icmp_ne (G : q_Ok E Γ own cc nL d) {x y : Int32} {off : Int} {tgt : Nat} {o1 o2 : Option (α × qW)} (dd : decode cc pc = .ok (.if_icmp .ne off, 3)) (ht : (pc : Int) + off = (tgt : Int)) (k1 : q_Ev E Γ nL F (tgt) L (st) w (o1)) (k2 : q_Ev E Γ nL F (pc + 3) L (st) w (o2)) : q_Ev E Γ nL F (pc) L (.int y :: .int x :: st) w (if x = y then o2 else o1) := by
  intro r w9 ho hF H locs ls hR hS hl
  refine lv_icmp_ne G.1 G.2.1 dd ht (fun h => ?_) (fun h => ?_)
  · rw [if_neg h] at ho; exact k1 r w9 ho hF H locs ls hR hS hl
  · rw [if_pos h] at ho; exact k2 r w9 ho hF H locs ls hR hS hl

theorem e_if_lt (G : q_Ok E Γ own cc nL d) {x : Int32} {off : Int} {tgt : Nat} {o1 o2 : Option (α × qW)} (dd : decode cc pc = .ok (.ifCond .lt off, 3)) (ht : (pc : Int) + off = (tgt : Int)) (k1 : q_Ev E Γ nL F (tgt) L (st) w (o1)) (k2 : q_Ev E Γ nL F (pc + 3) L (st) w (o2)) : q_Ev E Γ nL F (pc) L (.int x :: st) w (if x < 0 then o1 else o2) := by
  intro r w9 ho hF H locs ls hR hS hl
  refine lv_if_lt G.1 G.2.1 dd ht (fun h => ?_) (fun h => ?_)
  · rw [if_pos h] at ho; exact k1 r w9 ho hF H locs ls hR hS hl
  · rw [if_neg h] at ho; exact k2 r w9 ho hF H locs ls hR hS hl

theorem e_icmp_lt (G : q_Ok E Γ own cc nL d) {x y : Int32} {off : Int} {tgt : Nat} {o1 o2 : Option (α × qW)} (dd : decode cc pc = .ok (.if_icmp .lt off, 3)) (ht : (pc : Int) + off = (tgt : Int)) (k1 : q_Ev E Γ nL F (tgt) L (st) w (o1)) (k2 : q_Ev E Γ nL F (pc + 3) L (st) w (o2)) : q_Ev E Γ nL F (pc) L (.int y :: .int x :: st) w (if x < y then o1 else o2) := by
  intro r w9 ho hF H locs ls hR hS hl
  refine lv_icmp_lt G.1 G.2.1 dd ht (fun h => ?_) (fun h => ?_)
  · rw [if_pos h] at ho; exact k1 r w9 ho hF H locs ls hR hS hl
  · rw [if_neg h] at ho; exact k2 r w9 ho hF H locs ls hR hS hl

theorem e_if_ge (G : q_Ok E Γ own cc nL d) {x : Int32} {off : Int} {tgt : Nat} {o1 o2 : Option (α × qW)} (dd : decode cc pc = .ok (.ifCond .ge off, 3)) (ht : (pc : Int) + off = (tgt : Int)) (k1 : q_Ev E Γ nL F (tgt) L (st) w (o1)) (k2 : q_Ev E Γ nL F (pc + 3) L (st) w (o2)) : q_Ev E Γ nL F (pc) L (.int x :: st) w (if 0 ≤ x then o1 else o2) := by
  intro r w9 ho hF H locs ls hR hS hl
  refine lv_if_ge G.1 G.2.1 dd ht (fun h => ?_) (fun h => ?_)
  · rw [if_pos h] at ho; exact k1 r w9 ho hF H locs ls hR hS hl
  · rw [if_neg h] at ho; exact k2 r w9 ho hF H locs ls hR hS hl

theorem e_icmp_ge (G : q_Ok E Γ own cc nL d) {x y : Int32} {off : Int} {tgt : Nat} {o1 o2 : Option (α × qW)} (dd : decode cc pc = .ok (.if_icmp .ge off, 3)) (ht : (pc : Int) + off = (tgt : Int)) (k1 : q_Ev E Γ nL F (tgt) L (st) w (o1)) (k2 : q_Ev E Γ nL F (pc + 3) L (st) w (o2)) : q_Ev E Γ nL F (pc) L (.int y :: .int x :: st) w (if y ≤ x then o1 else o2) := by
  intro r w9 ho hF H locs ls hR hS hl
  refine lv_icmp_ge G.1 G.2.1 dd ht (fun h => ?_) (fun h => ?_)
  · rw [if_pos h] at ho; exact k1 r w9 ho hF H locs ls hR hS hl
  · rw [if_neg h] at ho; exact k2 r w9 ho hF H locs ls hR hS hl

theorem e_if_gt (G : q_Ok E Γ own cc nL d) {x : Int32} {off : Int} {tgt : Nat} {o1 o2 : Option (α × qW)} (dd : decode cc pc = .ok (.ifCond .gt off, 3)) (ht : (pc : Int) + off = (tgt : Int)) (k1 : q_Ev E Γ nL F (tgt) L (st) w (o1)) (k2 : q_Ev E Γ nL F (pc + 3) L (st) w (o2)) : q_Ev E Γ nL F (pc) L (.int x :: st) w (if 0 < x then o1 else o2) := by
  intro r w9 ho hF H locs ls hR hS hl
  refine lv_if_gt G.1 G.2.1 dd ht (fun h => ?_) (fun h => ?_)
  · rw [if_pos h] at ho; exact k1 r w9 ho hF H locs ls hR hS hl
  · rw [if_neg h] at ho; exact k2 r w9 ho hF H locs ls hR hS hl

theorem e_icmp_gt (G : q_Ok E Γ own cc nL d) {x y : Int32} {off : Int} {tgt : Nat} {o1 o2 : Option (α × qW)} (dd : decode cc pc = .ok (.if_icmp .gt off, 3)) (ht : (pc : Int) + off = (tgt : Int)) (k1 : q_Ev E Γ nL F (tgt) L (st) w (o1)) (k2 : q_Ev E Γ nL F (pc + 3) L (st) w (o2)) : q_Ev E Γ nL F (pc) L (.int y :: .int x :: st) w (if y < x then o1 else o2) := by
  intro r w9 ho hF H locs ls hR hS hl
  refine lv_icmp_gt G.1 G.2.1 dd ht (fun h => ?_) (fun h => ?_)
  · rw [if_pos h] at ho; exact k1 r w9 ho hF H locs ls hR hS hl
  · rw [if_neg h] at ho; exact k2 r w9 ho hF H locs ls hR hS hl

theorem e_if_le (G : q_Ok E Γ own cc nL d) {x : Int32} {off : Int} {tgt : Nat} {o1 o2 : Option (α × qW)} (dd : decode cc pc = .ok (.ifCond .le off, 3)) (ht : (pc : Int) + off = (tgt : Int)) (k1 : q_Ev E Γ nL F (tgt) L (st) w (o1)) (k2 : q_Ev E Γ nL F (pc + 3) L (st) w (o2)) : q_Ev E Γ nL F (pc) L (.int x :: st) w (if x ≤ 0 then o1 else o2) := by
  intro r w9 ho hF H locs ls hR hS hl
  refine lv_if_le G.1 G.2.1 dd ht (fun h => ?_) (fun h => ?_)
  · rw [if_pos h] at ho; exact k1 r w9 ho hF H locs ls hR hS hl
  · rw [if_neg h] at ho; exact k2 r w9 ho hF H locs ls hR hS hl

theorem e_icmp_le (G : q_Ok E Γ own cc nL d) {x y : Int32} {off : Int} {tgt : Nat} {o1 o2 : Option (α × qW)} (dd : decode cc pc = .ok (.if_icmp .le off, 3)) (ht : (pc : Int) + off = (tgt : Int)) (k1 : q_Ev E Γ nL F (tgt) L (st) w (o1)) (k2 : q_Ev E Γ nL F (pc + 3) L (st) w (o2)) : q_Ev E Γ nL F (pc) L (.int y :: .int x :: st) w (if x ≤ y then o1 else o2) := by
  intro r w9 ho hF H locs ls hR hS hl
  refine lv_icmp_le G.1 G.2.1 dd ht (fun h => ?_) (fun h => ?_)
  · rw [if_pos h] at ho; exact k1 r w9 ho hF H locs ls hR hS hl
  · rw [if_neg h] at ho; exact k2 r w9 ho hF H locs ls hR hS hl

theorem e_goto (G : q_Ok E Γ own cc nL d) {off : Int} {tgt : Nat} (dd : decode cc pc = .ok (.goto off, 3)) (ht : (pc : Int) + off = (tgt : Int)) (k : q_Ev E Γ nL F (tgt) L (st) w (oo)) : q_Ev E Γ nL F (pc) L (st) w (oo) := by
  intro r w9 ho hF H locs ls hR hS hl
  exact lv_goto G.1 G.2.1 dd ht (k r w9 ho hF H locs ls hR hS hl)

theorem e_bn {β : Type} {v : β} {kq : β → Option (α × qW)} {L' : List (Option Value)} {f : β → List Value} (hst : f v = st) (k : ∀ y : β, q_Ev E Γ nL F (pc) L (f y) w (kq y)) : q_Ev E Γ nL F (pc) L (st) w (q_bn v kq) := by
  subst hst
  exact k v

theorem e_ti {v : Int32} {kq : Int32 → Option (α × qW)} (k : ∀ y : Int32, q_Ev E Γ nL F (pc) L (.int y :: st) w (kq y)) : q_Ev E Γ nL F (pc) L (.int v :: st) w (q_bn v kq) := k v

theorem e_tl {v : Int64} {kq : Int64 → Option (α × qW)} (k : ∀ y : Int64, q_Ev E Γ nL F (pc) L (.long y :: st) w (kq y)) : q_Ev E Γ nL F (pc) L (.long v :: st) w (q_bn v kq) := k v

theorem e_none : q_Ev E Γ nL F (pc) L (st) w (none) := by
  intro r w9 ho
  cases ho

theorem e_ite {c : Prop} [Decidable c] {o1 o2 : Option (α × qW)} (k1 : c → q_Ev E Γ nL F (pc) L (st) w (o1)) (k2 : ¬ c → q_Ev E Γ nL F (pc) L (st) w (o2)) : q_Ev E Γ nL F (pc) L (st) w (if c then o1 else o2) := by
  by_cases h : c
  · rw [if_pos h]; exact k1 h
  · rw [if_neg h]; exact k2 h

theorem e_wk {L' : List (Option Value)} (h : q_le L' L) (k : q_Ev E Γ nL F (pc) L' (st) w (oo)) : q_Ev E Γ nL F (pc) L (st) w (oo) := by
  intro r w9 ho hF H locs ls hR hS hl
  exact k r w9 ho hF H locs ls hR hS ⟨hl.1, hl.2.1, fun i v hi => hl.2.2 i v (q_le_spec h i v hi)⟩

end
