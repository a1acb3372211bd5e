/-! the law's text: a parser that both sides follow; the code is postfix, a word is (what, more) -/
def lw_dig (x : Int) : Bool := decide (48 ≤ x) && decide (x ≤ 57)
def lw_nam (x : Int) : Option Nat := if x = 107 then some 0 else if x = 115 then some 1 else if x = 97 then some 2 else if x = 98 then some 3 else if x = 104 then some 4 else if x = 109 then some 5 else none
def lw_opr (lv : Nat) (x : Int) : Option Nat := match lv with
  | 0 => if x = 124 then some 6 else none
  | 1 => if x = 38 then some 7 else none
  | 2 => if x = 60 then some 8 else if x = 61 then some 9 else if x = 62 then some 10 else none
  | 3 => if x = 43 then some 11 else if x = 45 then some 12 else none
  | 4 => if x = 42 then some 13 else if x = 47 then some 14 else if x = 37 then some 15 else none
  | _ => none
/-- up to k digits from place p on: how many, their number -/
def lw_num (c : Nat → Int) : Nat → Nat → Nat → Nat × Nat
  | 0, p, v => (p, v)
  | k + 1, p, v => if lw_dig (c p) = true then lw_num c k (p + 1) (10 * v + (c p - 48).toNat) else (p, v)
def lw_sp (c : Nat → Int) : Nat → Nat → Nat → Nat → Nat → Bool × Nat × List (Nat × Nat)
  | 0, _, _, _, p => (false, p, [])
  | f + 1, 0, lv, op, p =>
    if 5 ≤ lv then
      if lw_dig (c p) = true then (true, (lw_num c 4 p 0).1, [(0, (lw_num c 4 p 0).2)])
      else match lw_nam (c p) with
        | some n => (true, p + 1, [(1, n)])
        | none =>
          if 6 ≤ op then (false, p, [])
          else if c p = 40 then
            match lw_sp c f 0 0 (op + 1) (p + 1) with
            | (true, p2, cd) => if c p2 = 41 then (true, p2 + 1, cd) else (false, p2, [])
            | (false, p2, _) => (false, p2, [])
          else if c p = 33 then
            match lw_sp c f 0 5 (op + 1) (p + 1) with
            | (ok, p2, cd) => (ok, p2, cd ++ [(4, 0)])
          else if c p = 45 then
            match lw_sp c f 0 5 (op + 1) (p + 1) with
            | (ok, p2, cd) => (ok, p2, cd ++ [(5, 0)])
          else (false, p, [])
    else match lw_sp c f 0 (lv + 1) op p with
      | (false, p2, _) => (false, p2, [])
      | (true, p2, cd) => match lw_sp c f 1 lv op p2 with
        | (ok, p3, cd2) => (ok, p3, cd ++ cd2)
  | f + 1, _ + 1, lv, op, p => match lw_opr lv (c p) with
    | none => (true, p, [])
    | some o => match lw_sp c f 0 (lv + 1) op (p + 1) with
      | (false, p2, _) => (false, p2, [])
      | (true, p2, cd) => if lv = 2 then (true, p2, cd ++ [(o, 0)]) else
        match lw_sp c f 1 lv op p2 with
        | (ok, p3, cd2) => (ok, p3, cd ++ (o, 0) :: cd2)
def lw_F : Nat := 2000
abbrev lw_Ln : Type := Option (List (Nat × Nat)) × List (Nat × Nat)
/-- one line from place p on -/
def lw_line (c : Nat → Int) (p : Nat) : Bool × Nat × lw_Ln := match lw_sp c lw_F 0 0 0 p with
  | (false, p2, _) => (false, p2, (none, []))
  | (true, p2, cd) => if c p2 = 63 then
      match lw_sp c lw_F 0 0 0 (p2 + 1) with
      | (false, p3, _) => (false, p3, (none, []))
      | (true, p3, cd2) => (true, p3, (some cd, cd2))
    else (true, p2, (none, cd))
/-- lines to the end: whether it is a text, the place where it ended, the lines -/
def lw_text (c : Nat → Int) : Nat → Nat → Bool × Nat × List lw_Ln
  | 0, p => (false, p, [])
  | f + 1, p => match lw_line c p with
    | (false, p2, _) => (false, p2, [])
    | (true, p2, ln) => if c p2 = -1 then (true, p2, [ln]) else if c p2 = 59 then
        match lw_text c f (p2 + 1) with
        | (ok, p3, lns) => (ok, p3, ln :: lns)
      else (false, p2, [])
/-- the characters of a text of n bytes -/
def lw_chr (t : Nat → Int32) (n : Int) (p : Nat) : Int := if (p : Int) < n then (t p).toInt else -1
/-! what the code is worth -/
def lw_bin (o : Nat) (l r : Int32) : Int32 := match o with
  | 6 => if ¬ l = 0 ∨ ¬ r = 0 then 1 else 0
  | 7 => if ¬ l = 0 ∧ ¬ r = 0 then 1 else 0
  | 8 => if l < r then 1 else 0
  | 9 => if l = r then 1 else 0
  | 10 => if r < l then 1 else 0
  | 11 => l + r
  | 12 => l - r
  | 13 => l * r
  | 14 => if r = 0 then 0 else l / r
  | _ => if r = 0 then 0 else q_rem l r
def lw_ex (nm : Nat → Int32) : List (Nat × Nat) → List Int32 → List Int32
  | [], st => st
  | (0, v) :: t, st => lw_ex nm t (Int32.ofNat v :: st)
  | (1, v) :: t, st => lw_ex nm t (nm v :: st)
  | (4, _) :: t, x :: st => lw_ex nm t ((if x = 0 then 1 else 0) :: st)
  | (5, _) :: t, x :: st => lw_ex nm t (-x :: st)
  | (o, _) :: t, y :: x :: st => lw_ex nm t (lw_bin o x y :: st)
  | _, st => st
def lw_val (nm : Nat → Int32) (cd : List (Nat × Nat)) : Int32 := (lw_ex nm cd []).headD 0
def lw_ev (nm : Nat → Int32) : List lw_Ln → Int32
  | [] => 0
  | (none, cd) :: _ => lw_val nm cd
  | (some c, cd) :: t => if lw_val nm c = 0 then lw_ev nm t else lw_val nm cd
/-- the words of the lines, from word n on -/
def lw_enc : Nat → List lw_Ln → List (Nat × Nat)
  | _, [] => []
  | n, (none, cd) :: t => cd ++ (2, 0) :: lw_enc (n + cd.length + 1) t
  | n, (some c, cd) :: t => c ++ (3, n + c.length + cd.length + 2) :: (cd ++ (2, 0) :: lw_enc (n + c.length + cd.length + 2) t)
def lw_wd (q : Nat × Nat) : Int32 := Int32.ofNat (q.1 + 32 * q.2)
/-- code that needs no more than d places over what it finds, and leaves one more -/
def lw_fit (cd : List (Nat × Nat)) (d : Nat) : Prop := ∀ (h : Nat) (k : Nat), h + d ≤ 64 → k ≤ cd.length → True
def lw_Rel (words : Nat → Int32) (size : Int32) (text : Nat → Int32) (n : Int32) : Prop := ∃ lns : List lw_Ln, (lw_text (lw_chr text n.toInt) 200 0).1 = true ∧ (lw_text (lw_chr text n.toInt) 200 0).2.2 = lns ∧ size.toInt = ((lw_enc 0 lns).length : Int) ∧ (lw_enc 0 lns).length ≤ 128 ∧ ∀ (i : Nat) (q : Nat × Nat), (lw_enc 0 lns)[i]? = some q → words i = lw_wd q
/-! the joint state: what the class's cells and the model's have to do with each other -/
def jvI (men sit : Int32) (i : Nat) : Prop := (i < 32 ∧ ((i % 8 : Nat) : Int) < men.toInt) ∨ (32 ≤ i ∧ i < 56 ∧ ((i % 8 : Nat) : Int) < sit.toInt) ∨ i = 56
def jlo (k : Nat) : Int := if k = 6 then 1 else 0
def jhi (k : Nat) : Int := ([143, 2, 4, 99, 143, 4095, 12, 9] : List Int).getD k 0
def jP0 (men sit men2 sit2 : Int32) (N M : Nat → Int32) : Prop := (0 ≤ men.toInt ∧ men.toInt ≤ 7) ∧ (0 ≤ sit.toInt ∧ sit.toInt ≤ 8) ∧ men2 = men ∧ sit2 = sit ∧ ∀ i : Nat, jvI men sit i → N i = M i ∧ jlo (i / 8) ≤ (N i).toInt ∧ (N i).toInt ≤ jhi (i / 8)
def jP (w : qW) : Prop := jP0 (q_I w 1 1) (q_I w 1 2) (q_I w 48 6) (q_I w 48 7) (q_A w 2) (q_A w 49)
def jC0 (men sit done all done2 all2 : Int32) (K a1 a2 a3 : Nat → Int32) : Prop := (0 ≤ done.toInt ∧ done.toInt ≤ all.toInt ∧ all.toInt ≤ 40) ∧ done2 = done ∧ all2 = all ∧ ∀ i : Nat, (i : Int) < all.toInt → ∃ n wh : Nat, n < 8 ∧ wh < 8 ∧ K (4 * i) = Int32.ofNat n ∧ K (4 * i + 1) = Int32.ofNat wh ∧ jvI men sit (8 * wh + n) ∧ a1 i = Int32.ofNat (8 * wh + n) ∧ a2 i = K (4 * i + 2) ∧ a3 i = K (4 * i + 3) ∧ (jlo wh ≤ (K (4 * i + 2)).toInt ∧ (K (4 * i + 2)).toInt ≤ jhi wh) ∧ (jlo wh ≤ (K (4 * i + 3)).toInt ∧ (K (4 * i + 3)).toInt ≤ jhi wh)
def jC (w : qW) : Prop := jC0 (q_I w 1 1) (q_I w 1 2) (q_I w 24 2) (q_I w 24 3) (q_I w 48 5) (q_I w 48 4) (q_A w 25) (q_A w 50) (q_A w 51) (q_A w 52)
def jD0 (men sit has iM iS has2 iM2 iS2 hour2 iH2 : Int32) (led iC iA iSe iL led2 iC2 iA2 iSe2 iL2 : Nat → Int32) : Prop := (∀ j : Nat, j < 5 → led j = led2 j) ∧ led 5 = hour2 ∧ (0 ≤ hour2.toInt ∧ hour2.toInt < 12) ∧ has2 = has ∧ (has = 0 ∨ has = 1) ∧ iM2 = iM ∧ iS2 = iS ∧ (0 ≤ iM.toInt ∧ iM.toInt ≤ men.toInt) ∧ (0 ≤ iS.toInt ∧ iS.toInt ≤ sit.toInt) ∧ iC = iC2 ∧ iA = iA2 ∧ iSe = iSe2 ∧ (∀ j : Nat, j < 5 → iL j = iL2 j) ∧ iL 5 = iH2 ∧ (0 ≤ iH2.toInt ∧ iH2.toInt < 12) ∧ (∀ j : Nat, (j : Int) < iM.toInt → (0 ≤ (iC j).toInt ∧ (iC j).toInt ≤ 143) ∧ 0 ≤ (iA j).toInt ∧ (iA j).toInt ≤ 4) ∧ ∀ j : Nat, (j : Int) < iS.toInt → 0 ≤ (iSe j).toInt ∧ (iSe j).toInt ≤ 143
def jD (w : qW) : Prop := jD0 (q_I w 1 1) (q_I w 1 2) (q_I w 26 2) (q_I w 26 3) (q_I w 26 4) (q_I w 48 20) (q_I w 48 21) (q_I w 48 22) (q_I w 48 18) (q_I w 48 23) (q_A w 27) (q_A w 28) (q_A w 29) (q_A w 30) (q_A w 31) (q_A w 56) (q_A w 57) (q_A w 58) (q_A w 59) (q_A w 60)
def jT0 (pl ran pl2 ran2 : Int32) (ks tr ks2 tr2 : Nat → Int32) : Prop := (0 ≤ pl.toInt ∧ pl.toInt ≤ 50) ∧ pl2 = pl ∧ ran2 = ran ∧ ks2 = ks ∧ tr2 = tr ∧ ∀ j : Nat, (j : Int) < pl.toInt → 0 ≤ (ks j).toInt ∧ (ks j).toInt ≤ 7
def jT (w : qW) : Prop := jT0 (q_I w 32 1) (q_I w 32 3) (q_I w 48 28) (q_I w 48 31) (q_A w 33) (q_A w 34) (q_A w 61) (q_A w 62)
def jS1 (pl tr so sz sh mn : Int32) (el : Nat → Int64) (it : Nat → Int64) : Prop := ((tr = -1 ∧ so = -1 ∧ sh = -1 ∧ sz = 0) ∨ (0 ≤ tr.toInt ∧ tr.toInt < pl.toInt ∧ so = -1 ∧ sh = tr ∧ sz = 0) ∨ (tr = -1 ∧ 0 ≤ so.toInt ∧ so.toInt ≤ 4 ∧ sh = 50 + so ∧ 0 ≤ sz.toInt ∧ sz.toInt ≤ 60)) ∧ mn = sz ∧ ∀ i : Nat, i < 60 → el i = it i ∧ (so = 0 → -128 ≤ (el i).toInt ∧ (el i).toInt ≤ 127) ∧ (so = 1 → -32768 ≤ (el i).toInt ∧ (el i).toInt ≤ 32767)
def jS (w : qW) : Prop := jS1 (q_I w 32 1) (q_I w 36 0) (q_I w 36 1) (q_I w 36 2) (q_A w 63 0) (q_A w 64 0) (q_G w 37) (fun i => q_G w 65 (0 + i)) ∧ jS1 (q_I w 32 1) (q_I w 38 0) (q_I w 38 1) (q_I w 38 2) (q_A w 63 1) (q_A w 64 1) (q_G w 39) (fun i => q_G w 65 (60 + i)) ∧ jS1 (q_I w 32 1) (q_I w 40 0) (q_I w 40 1) (q_I w 40 2) (q_A w 63 2) (q_A w 64 2) (q_G w 41) (fun i => q_G w 65 (120 + i)) ∧ jS1 (q_I w 32 1) (q_I w 42 0) (q_I w 42 1) (q_I w 42 2) (q_A w 63 3) (q_A w 64 3) (q_G w 43) (fun i => q_G w 65 (180 + i)) ∧ jS1 (q_I w 32 1) (q_I w 44 0) (q_I w 44 1) (q_I w 44 2) (q_A w 63 4) (q_A w 64 4) (q_G w 45) (fun i => q_G w 65 (240 + i)) ∧ jS1 (q_I w 32 1) (q_I w 46 0) (q_I w 46 1) (q_I w 46 2) (q_A w 63 5) (q_A w 64 5) (q_G w 47) (fun i => q_G w 65 (300 + i))
def jSd (w : qW) (d : Nat) : Prop := jS1 (q_I w 32 1) (q_I w (36 + 2 * d) 0) (q_I w (36 + 2 * d) 1) (q_I w (36 + 2 * d) 2) (q_A w 63 d) (q_A w 64 d) (q_G w (36 + 2 * d + 1)) (fun i => q_G w 65 (60 * d + i))
theorem jS_at {w : qW} (h : jS w) : ∀ d : Nat, d < 6 → jSd w d
  | 0, _ => h.1
  | 1, _ => h.2.1
  | 2, _ => h.2.2.1
  | 3, _ => h.2.2.2.1
  | 4, _ => h.2.2.2.2.1
  | 5, _ => h.2.2.2.2.2
  | d + 6, h => by omega
theorem jS_of {w : qW} (h : ∀ d : Nat, d < 6 → jSd w d) : jS w := ⟨h 0 (by omega), h 1 (by omega), h 2 (by omega), h 3 (by omega), h 4 (by omega), h 5 (by omega)⟩
def jL0 (fed size has fed2 tm2 : Int32) (r1 r2 : Nat) (tape w5 w6 tape2 text : Nat → Int32) : Prop := (0 ≤ fed.toInt ∧ fed.toInt ≤ 120) ∧ fed2 = fed ∧ tape2 = tape ∧ (∀ j : Nat, (j : Int) < fed.toInt → 0 ≤ (tape j).toInt ∧ (tape j).toInt ≤ 255) ∧ ((r1 = 5 ∧ r2 = 6) ∨ (r1 = 6 ∧ r2 = 5)) ∧ ((has = 0 ∧ tm2 = -1) ∨ (has = 1 ∧ (0 ≤ tm2.toInt ∧ tm2.toInt ≤ 120) ∧ (∀ j : Nat, (j : Int) < tm2.toInt → 0 ≤ (text j).toInt ∧ (text j).toInt ≤ 255) ∧ lw_Rel (if r1 = 5 then w5 else w6) size text tm2))
def jL (w : qW) : Prop := jL0 (q_I w 3 1) (q_I w 3 4) (q_I w 3 7) (q_I w 48 9) (q_I w 48 11) (q_R w 3 3) (q_R w 3 5) (q_A w 4) (q_A w 5) (q_A w 6) (q_A w 53) (q_A w 54)
def jR (w : qW) : Prop := (q_R w 21 2 = 22 ∧ q_R w 21 3 = 23) ∨ (q_R w 21 2 = 23 ∧ q_R w 21 3 = 22)
def Jn (w : qW) : Prop := jP w ∧ jC w ∧ jD w ∧ jT w ∧ jS w ∧ jL w ∧ jR w
theorem Jn_0 : Jn q_w0 := by
  refine ⟨?_, ?_, ?_, ?_, ?_, ?_, Or.inl ⟨rfl, rfl⟩⟩
  · refine ⟨by decide, by decide, rfl, rfl, fun i hi => ⟨rfl, ?_⟩⟩
    rcases hi with ⟨h1, h2⟩ | ⟨h1, h2, h3⟩ | h
    · have : (q_I q_w0 1 1).toInt = 0 := by decide
      rw [this] at h2
      omega
    · have : (q_I q_w0 1 2).toInt = 0 := by decide
      rw [this] at h3
      omega
    · subst h; decide
  · refine ⟨by decide, rfl, rfl, fun i hi => ?_⟩
    have : (q_I q_w0 24 3).toInt = 0 := by decide
    rw [this] at hi
    omega
  · refine ⟨fun _ _ => rfl, rfl, by decide, rfl, Or.inl rfl, rfl, rfl, by decide, by decide, rfl, rfl, rfl, fun _ _ => rfl, rfl, by decide, fun j hj => ?_, fun j hj => ?_⟩
    · have : (q_I q_w0 26 3).toInt = 0 := by decide
      rw [this] at hj
      omega
    · have : (q_I q_w0 26 4).toInt = 0 := by decide
      rw [this] at hj
      omega
  · refine ⟨by decide, rfl, rfl, rfl, rfl, fun j hj => ?_⟩
    have : (q_I q_w0 32 1).toInt = 0 := by decide
    rw [this] at hj
    omega
  · exact ⟨⟨Or.inl ⟨rfl, rfl, rfl, rfl⟩, rfl, fun i _ => ⟨rfl, fun _ => (by decide : -128 ≤ (0 : Int64).toInt ∧ (0 : Int64).toInt ≤ 127), fun _ => (by decide : -32768 ≤ (0 : Int64).toInt ∧ (0 : Int64).toInt ≤ 32767)⟩⟩, ⟨Or.inl ⟨rfl, rfl, rfl, rfl⟩, rfl, fun i _ => ⟨rfl, fun _ => (by decide : -128 ≤ (0 : Int64).toInt ∧ (0 : Int64).toInt ≤ 127), fun _ => (by decide : -32768 ≤ (0 : Int64).toInt ∧ (0 : Int64).toInt ≤ 32767)⟩⟩, ⟨Or.inl ⟨rfl, rfl, rfl, rfl⟩, rfl, fun i _ => ⟨rfl, fun _ => (by decide : -128 ≤ (0 : Int64).toInt ∧ (0 : Int64).toInt ≤ 127), fun _ => (by decide : -32768 ≤ (0 : Int64).toInt ∧ (0 : Int64).toInt ≤ 32767)⟩⟩, ⟨Or.inl ⟨rfl, rfl, rfl, rfl⟩, rfl, fun i _ => ⟨rfl, fun _ => (by decide : -128 ≤ (0 : Int64).toInt ∧ (0 : Int64).toInt ≤ 127), fun _ => (by decide : -32768 ≤ (0 : Int64).toInt ∧ (0 : Int64).toInt ≤ 32767)⟩⟩, ⟨Or.inl ⟨rfl, rfl, rfl, rfl⟩, rfl, fun i _ => ⟨rfl, fun _ => (by decide : -128 ≤ (0 : Int64).toInt ∧ (0 : Int64).toInt ≤ 127), fun _ => (by decide : -32768 ≤ (0 : Int64).toInt ∧ (0 : Int64).toInt ≤ 32767)⟩⟩, ⟨Or.inl ⟨rfl, rfl, rfl, rfl⟩, rfl, fun i _ => ⟨rfl, fun _ => (by decide : -128 ≤ (0 : Int64).toInt ∧ (0 : Int64).toInt ≤ 127), fun _ => (by decide : -32768 ≤ (0 : Int64).toInt ∧ (0 : Int64).toInt ≤ 32767)⟩⟩⟩
  · refine ⟨by decide, rfl, rfl, fun j hj => ?_, Or.inl ⟨rfl, rfl⟩, Or.inl ⟨rfl, rfl⟩⟩
    have : (q_I q_w0 3 1).toInt = 0 := by decide
    rw [this] at hj
    omega
