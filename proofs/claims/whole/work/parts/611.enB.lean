/-! the best of the sets, upward and downward -/
def amU (key : Nat → Nat) (en : Nat → Bool) (M : Nat) : Nat → Nat
  | 0 => M
  | k + 1 => if (en k && decide (key k < key (amU key en M k))) = true then k else amU key en M k
def amD (key : Nat → Nat) (en : Nat → Bool) : Nat → Nat → Nat
  | 0, b => b
  | k + 1, b => amD key en k (if (en k && decide (key k < key b)) = true then k else b)
theorem amU_ok (key : Nat → Nat) (en : Nat → Bool) (M : Nat) : ∀ k, (amU key en M k = M ∨ (amU key en M k < k ∧ en (amU key en M k) = true)) ∧ key (amU key en M k) ≤ key M ∧ ∀ j, j < k → en j = true → key (amU key en M k) ≤ key j
  | 0 => ⟨Or.inl rfl, Nat.le_refl _, fun j hj => by omega⟩
  | k + 1 => by
    obtain ⟨h1, h2, h3⟩ := amU_ok key en M k
    have es : amU key en M (k + 1) = if (en k && decide (key k < key (amU key en M k))) = true then k else amU key en M k := rfl
    by_cases hc : (en k && decide (key k < key (amU key en M k))) = true
    · rw [if_pos hc] at es
      have q1 : en k = true := by
        cases hk : en k with
        | true => rfl
        | false => rw [hk] at hc; exact no_ft hc
      have q2 : key k < key (amU key en M k) := by rw [q1] at hc; exact of_decide_eq_true hc
      rw [es]
      refine ⟨Or.inr ⟨by omega, q1⟩, by omega, fun j hj hen => ?_⟩
      by_cases hjk : j = k
      · rw [hjk]; omega
      · have := h3 j (by omega) hen; omega
    · rw [if_neg hc] at es
      rw [es]
      refine ⟨?_, h2, fun j hj hen => ?_⟩
      · rcases h1 with q | ⟨q1, q2⟩
        · exact Or.inl q
        · exact Or.inr ⟨by omega, q2⟩
      · by_cases hjk : j = k
        · rcases Nat.lt_or_ge (key k) (key (amU key en M k)) with q | q
          · exact absurd (by rw [← hjk, hen]; rw [hjk]; exact decide_eq_true q) hc
          · rw [hjk]; exact q
        · exact h3 j (by omega) hen
theorem amD_ok (key : Nat → Nat) (en : Nat → Bool) : ∀ k b, (amD key en k b = b ∨ (amD key en k b < k ∧ en (amD key en k b) = true)) ∧ key (amD key en k b) ≤ key b ∧ ∀ j, j < k → en j = true → key (amD key en k b) ≤ key j
  | 0, b => ⟨Or.inl rfl, Nat.le_refl _, fun j hj => by omega⟩
  | k + 1, b => by
    have es : amD key en (k + 1) b = amD key en k (if (en k && decide (key k < key b)) = true then k else b) := rfl
    by_cases hc : (en k && decide (key k < key b)) = true
    · rw [if_pos hc] at es
      have q1 : en k = true := by
        cases hk : en k with
        | true => rfl
        | false => rw [hk] at hc; exact no_ft hc
      have q2 : key k < key b := by rw [q1] at hc; exact of_decide_eq_true hc
      obtain ⟨h1, h2, h3⟩ := amD_ok key en k k
      rw [es]
      refine ⟨?_, by omega, fun j hj hen => ?_⟩
      · rcases h1 with q | ⟨q, q3⟩
        · exact Or.inr ⟨by omega, by rw [q]; exact q1⟩
        · exact Or.inr ⟨by omega, q3⟩
      · by_cases hjk : j = k
        · rw [hjk]; exact h2
        · exact h3 j (by omega) hen
    · rw [if_neg hc] at es
      obtain ⟨h1, h2, h3⟩ := amD_ok key en k b
      rw [es]
      refine ⟨?_, h2, fun j hj hen => ?_⟩
      · rcases h1 with q | ⟨q, q3⟩
        · exact Or.inl q
        · exact Or.inr ⟨by omega, q3⟩
      · by_cases hjk : j = k
        · rcases Nat.lt_or_ge (key k) (key b) with q | q
          · exact absurd (by rw [← hjk, hen]; rw [hjk]; exact decide_eq_true q) hc
          · rw [hjk]; omega
        · exact h3 j (by omega) hen
theorem amU_le (key : Nat → Nat) (en : Nat → Bool) {M k : Nat} (hk : k ≤ M) : amU key en M k ≤ M := by
  rcases (amU_ok key en M k).1 with q | ⟨q, -⟩
  · omega
  · omega
theorem am_eq {key : Nat → Nat} {en : Nat → Bool} {M : Nat} (hinj : ∀ a b, a ≤ M → b ≤ M → key a = key b → a = b) : amD key en M M = amU key en M M := by
  obtain ⟨u1, u2, u3⟩ := amU_ok key en M M
  obtain ⟨v1, v2, v3⟩ := amD_ok key en M M
  have hU := amU_le key en (M := M) (k := M) (Nat.le_refl M)
  have hD : amD key en M M ≤ M := by rcases v1 with q | ⟨q, -⟩ <;> omega
  have a1 : key (amD key en M M) ≤ key (amU key en M M) := by
    rcases u1 with q | ⟨q1, q2⟩
    · rw [q]; exact v2
    · exact v3 _ q1 q2
  have a2 : key (amU key en M M) ≤ key (amD key en M M) := by
    rcases v1 with q | ⟨q1, q2⟩
    · rw [q]; exact u2
    · exact u3 _ q1 q2
  exact hinj _ _ hD hU (by omega)
def kap (P c : Nat → Nat) (s : Nat) : Nat := 2048 * P s + 128 * c s + s
theorem kap_inj {P c : Nat → Nat} {M : Nat} (hM : M < 128) : ∀ a b, a ≤ M → b ≤ M → kap P c a = kap P c b → a = b := by
  intro a b ha hb h
  unfold kap at h
  omega
theorem pc_le (x : Nat) : pc x 12 ≤ 12 := sm_le1 (fun _ => if1 _) 12
theorem pc_M : ∀ mn : Nat, mn < 8 → ∀ k : Nat, k < evb mn → pc k 12 < pc (evb mn) 12 := by decide +kernel
theorem pay_le {mn st : Nat} {N : Nat → Nat} {w : qW} (hP : PC mn st N w) (set : Nat) : ∀ k, k ≤ mn → payS N set k ≤ 99 * k
  | 0, _ => Nat.le_refl 0
  | k + 1, h => by
    have h7 := hP.2.2.1
    have ih := pay_le hP set k (by omega)
    have h3 := (hP.2.2.2.2 (24 + k) (Or.inl ⟨by omega, by omega⟩)).2
    rw [show (24 + k) / 8 = 3 by omega] at h3
    have h3 : N (24 + k) ≤ 99 := h3
    show payS N set k + (if set.testBit k then N (24 + k) else 0) ≤ 99 * (k + 1)
    by_cases hb : set.testBit k
    · rw [if_pos hb]; omega
    · rw [if_neg hb]; omega
theorem nI_z {a : Nat} (h : a < 100000) : (nI a = 0) ↔ a = 0 := by
  rw [z_eq, c0, nI_toInt (by omega)]
  omega
/-! the class's side -/
def enS (tx : Option (List lw_Ln)) (mn st : Nat) (N : Nat → Nat) (s : Nat) : Bool := decide (fld tx mn st N s = 0)
def kFew : Nat → Nat := kap (fun _ => 0) (fun s => pc s 12)
theorem fld_lt (tx : Option (List lw_Ln)) (mn st : Nat) (N : Nat → Nat) (set : Nat) : fld tx mn st N set < 4096 := flr_lt _ _
theorem s_few_R {tx : Option (List lw_Ln)} {w : qW} {mn st : Nat} {N : Nat → Nat} (hP : PC mn st N w) (h14 : ∀ set, set < 2 ^ mn → q_A w 14 set = nI (fld tx mn st N set)) : ∀ (k F i : Nat), i + k = evb mn → k < F → f_X7_fewest_R14 F w (nI (amU kFew (enS tx mn st N) (evb mn) i)) (nI i) = some (nI (amU kFew (enS tx mn st N) (evb mn) (evb mn)), w)
  | 0, F + 1, i, h1, _ => by
    have h128 := p2_128 hP.2.2.1
    have hev := evb_1 mn
    show f_X7_fewest_B14 (f_X7_fewest_R14 F) w _ (nI i) = _
    unfold f_X7_fewest_B14
    rw [s_evb hP, z_cl, if_pos (by rw [z_le, nI_toInt (by omega), nI_toInt (by omega)]; omega), show i = evb mn by omega]
  | k + 1, F + 1, i, h1, h2 => by
    have h7 := hP.2.2.1
    have h128 := p2_128 h7
    have hev := evb_1 mn
    have ih := s_few_R hP h14 k F (i + 1) (by omega) (by omega)
    have hb := amU_le kFew (enS tx mn st N) (M := evb mn) (k := i) (by omega)
    have hok := (amU_ok kFew (enS tx mn st N) (evb mn) i).1
    have hfl := fld_lt tx mn st N i
    have es : amU kFew (enS tx mn st N) (evb mn) (i + 1) = if (enS tx mn st N i && decide (kFew i < kFew (amU kFew (enS tx mn st N) (evb mn) i))) = true then i else amU kFew (enS tx mn st N) (evb mn) i := rfl
    rw [es] at ih
    show f_X7_fewest_B14 (f_X7_fewest_R14 F) w _ (nI i) = _
    unfold f_X7_fewest_B14 f_X7_fewest_B47
    rw [s_evb hP, z_cl, if_neg (by rw [z_le, nI_toInt (by omega), nI_toInt (by omega)]; omega), ld_lit _ _ _ _ (by omega) (by omega), h14 i (by omega), s_bc w (by omega), z_cl, s_bc w (by omega), z_cl]
    simp only [z_bn, nI_1]
    by_cases hz : fld tx mn st N i = 0
    · have he : enS tx mn st N i = true := decide_eq_true hz
      rw [he] at ih
      rw [if_pos ((nI_z (by omega)).mpr hz)]
      have p1 := pc_le i
      have p2 := pc_le (amU kFew (enS tx mn st N) (evb mn) i)
      have p3 := pc_M mn (by omega) i (by omega)
      generalize hB : amU kFew (enS tx mn st N) (evb mn) i = b at *
      have ek : ∀ x, kFew x = 128 * pc x 12 + x := fun x => by show 2048 * 0 + 128 * pc x 12 + x = _; omega
      by_cases hc : pc b 12 ≤ pc i 12
      · rw [if_pos (by rw [z_le, nI_toInt (by omega), nI_toInt (by omega)]; omega)]
        have hn : ¬ kFew i < kFew b := by
          rw [ek, ek]
          rcases hok with q | ⟨q, -⟩
          · rw [q] at hc; omega
          · omega
        rw [decide_eq_false hn] at ih
        exact ih
      · rw [if_neg (by rw [z_le, nI_toInt (by omega), nI_toInt (by omega)]; omega)]
        have hn : kFew i < kFew b := by
          rw [ek, ek]
          omega
        rw [decide_eq_true hn] at ih
        exact ih
    · have he : enS tx mn st N i = false := decide_eq_false hz
      rw [he] at ih
      rw [if_neg (fun q => hz ((nI_z (by omega)).mp q))]
      exact ih
def pcx (ff : Int32) (x : Nat) : Nat := if ff = 0 then 0 else pc x 12
theorem pcx_le (ff : Int32) (x : Nat) : pcx ff x ≤ 12 := by
  unfold pcx
  by_cases h : ff = 0
  · rw [if_pos h]; omega
  · rw [if_neg h]; exact pc_le x
theorem s_nicer (w : qW) (ff : Int32) {a b : Nat} (ha : a < 128) (hb : b < 128) : f_X7_isNicer w (nI a) (nI b) ff = some (b2i (decide (128 * pcx ff a + a < 128 * pcx ff b + b)), w) := by
  have p1 := pc_le a
  have p2 := pc_le b
  have t1 : (nI (pc b 12) - nI (pc a 12)).toInt = (pc b 12 : Int) - (pc a 12 : Int) := by
    rw [t_sub _ _ (by rw [nI_toInt (by omega), nI_toInt (by omega)]; omega) (by rw [nI_toInt (by omega), nI_toInt (by omega)]; omega), nI_toInt (by omega), nI_toInt (by omega)]
  have base : f_X7_isNicer_B30 w (nI a) (nI b) = some (b2i (decide (a < b)), w) := by
    unfold f_X7_isNicer_B30
    by_cases h : a < b
    · rw [if_neg (by rw [z_le, nI_toInt (by omega), nI_toInt (by omega)]; omega), decide_eq_true h]; rfl
    · rw [if_pos (by rw [z_le, nI_toInt (by omega), nI_toInt (by omega)]; omega), decide_eq_false h]; rfl
  unfold f_X7_isNicer
  rw [s_bc w (by omega), z_cl, s_bc w (by omega), z_cl, z_bn, base]
  unfold pcx
  by_cases hf : ff = 0
  · rw [if_pos hf, if_pos hf, if_pos hf]
    by_cases h : a < b
    · rw [decide_eq_true h, decide_eq_true (by omega)]
    · rw [decide_eq_false h, decide_eq_false (by omega)]
  · rw [if_neg hf, if_neg hf, if_neg hf]
    by_cases he : pc b 12 = pc a 12
    · rw [if_pos (by rw [z_eq, t1, c0]; omega)]
      by_cases h : a < b
      · rw [decide_eq_true h, decide_eq_true (by omega)]
      · rw [decide_eq_false h, decide_eq_false (by omega)]
    · rw [if_neg (by rw [z_eq, t1, c0]; omega)]
      by_cases h : pc b 12 ≤ pc a 12
      · rw [if_pos (by rw [z_le, t1, c0]; omega), decide_eq_false (by omega)]; rfl
      · rw [if_neg (by rw [z_le, t1, c0]; omega), decide_eq_true (by omega)]; rfl
def kPay (N : Nat → Nat) (mn : Nat) (ff : Int32) : Nat → Nat := kap (fun s => payS N s mn) (pcx ff)
theorem s_cheap_R {w : qW} {mn st : Nat} {N : Nat → Nat} (hP : PC mn st N w) (mask ff : Int32) {en : Nat → Bool} (hen : ∀ i, i < 2 ^ mn → ((q_A w 14 i &&& mask = 0) ↔ en i = true)) : ∀ (k F i : Nat), i + k = evb mn → k < F → f_X7_cheapestSet_R21 F w mask ff (nI (amU (kPay N mn ff) en (evb mn) i)) (nI (payS N (amU (kPay N mn ff) en (evb mn) i) mn)) (nI i) = some (nI (amU (kPay N mn ff) en (evb mn) (evb mn)), w)
  | 0, F + 1, i, h1, _ => by
    have h128 := p2_128 hP.2.2.1
    have hev := evb_1 mn
    show f_X7_cheapestSet_B21 (f_X7_cheapestSet_R21 F) w mask ff _ _ (nI i) = _
    unfold f_X7_cheapestSet_B21
    rw [s_evb hP, z_cl, if_pos (by rw [z_le, nI_toInt (by omega), nI_toInt (by omega)]; omega), show i = evb mn by omega]
  | k + 1, F + 1, i, h1, h2 => by
    have h7 := hP.2.2.1
    have h128 := p2_128 h7
    have hev := evb_1 mn
    have ih := s_cheap_R hP mask ff hen k F (i + 1) (by omega) (by omega)
    have hb := amU_le (kPay N mn ff) en (M := evb mn) (k := i) (by omega)
    have es : amU (kPay N mn ff) en (evb mn) (i + 1) = if (en i && decide (kPay N mn ff i < kPay N mn ff (amU (kPay N mn ff) en (evb mn) i))) = true then i else amU (kPay N mn ff) en (evb mn) i := rfl
    rw [es] at ih
    have y1 := pay_le hP i mn (Nat.le_refl mn)
    have y2 := pay_le hP (amU (kPay N mn ff) en (evb mn) i) mn (Nat.le_refl mn)
    have x1 := pcx_le ff i
    have x2 := pcx_le ff (amU (kPay N mn ff) en (evb mn) i)
    have ek : ∀ x, kPay N mn ff x = 2048 * payS N x mn + 128 * pcx ff x + x := fun x => rfl
    show f_X7_cheapestSet_B21 (f_X7_cheapestSet_R21 F) w mask ff _ _ (nI i) = _
    unfold f_X7_cheapestSet_B21 f_X7_cheapestSet_B83 f_X7_cheapestSet_B90
    rw [s_evb hP, z_cl, if_neg (by rw [z_le, nI_toInt (by omega), nI_toInt (by omega)]; omega), ld_lit _ _ _ _ (by omega) (by omega), s_pay hP (by omega), z_cl, s_nicer w ff (by omega) (by omega), z_cl]
    simp only [z_bn, nI_1]
    generalize hB : amU (kPay N mn ff) en (evb mn) i = b at *
    by_cases hz : q_A w 14 i &&& mask = 0
    · have he : en i = true := (hen i (by omega)).mp hz
      rw [he] at ih
      rw [if_pos hz]
      by_cases c1 : payS N i mn < payS N b mn
      · have hn : kPay N mn ff i < kPay N mn ff b := by rw [ek, ek]; omega
        rw [decide_eq_true hn] at ih
        rw [if_pos (by rw [z_lt, nI_toInt (by omega), nI_toInt (by omega)]; omega)]
        exact ih
      · rw [if_neg (by rw [z_lt, nI_toInt (by omega), nI_toInt (by omega)]; omega)]
        by_cases c2 : payS N i mn = payS N b mn
        · rw [if_pos (by rw [c2])]
          by_cases c3 : 128 * pcx ff i + i < 128 * pcx ff b + b
          · have hn : kPay N mn ff i < kPay N mn ff b := by rw [ek, ek]; omega
            rw [decide_eq_true hn] at ih
            rw [decide_eq_true c3, if_neg bnz]
            exact ih
          · have hn : ¬ kPay N mn ff i < kPay N mn ff b := by rw [ek, ek]; omega
            rw [decide_eq_false hn] at ih
            rw [decide_eq_false c3, if_pos bz]
            exact ih
        · have hn : ¬ kPay N mn ff i < kPay N mn ff b := by rw [ek, ek]; omega
          rw [decide_eq_false hn] at ih
          rw [if_neg (by rw [z_eq, nI_toInt (by omega), nI_toInt (by omega)]; omega)]
          exact ih
    · have he : en i = false := by
        cases hx : en i with
        | true => exact absurd ((hen i (by omega)).mpr hx) hz
        | false => rfl
      rw [he] at ih
      rw [if_neg hz]
      exact ih
theorem s_cheapSet {w : qW} {mn st : Nat} {N : Nat → Nat} (hP : PC mn st N w) (mask ff : Int32) {en : Nat → Bool} (hen : ∀ i, i < 2 ^ mn → ((q_A w 14 i &&& mask = 0) ↔ en i = true)) : f_X7_cheapestSet w mask ff = some (nI (amU (kPay N mn ff) en (evb mn) (evb mn)), w) := by
  have h7 := hP.2.2.1
  have h128 := p2_128 h7
  have hev := evb_1 mn
  have e := s_cheap_R hP mask ff hen (evb mn) q_fuel 0 (by omega) (by rw [q_fuel_eq]; omega)
  unfold f_X7_cheapestSet
  rw [s_evb hP, z_cl, s_pay hP (by omega), z_cl]
  exact e
theorem en_all {tx : Option (List lw_Ln)} {w : qW} {mn st : Nat} {N : Nat → Nat} (h14 : ∀ set, set < 2 ^ mn → q_A w 14 set = nI (fld tx mn st N set)) : ∀ i, i < 2 ^ mn → ((q_A w 14 i &&& 4095 = 0) ↔ enS tx mn st N i = true) := by
  intro i hi
  have hfl := fld_lt tx mn st N i
  have e : fld tx mn st N i &&& 4095 = fld tx mn st N i := by
    apply Nat.eq_of_testBit_eq
    intro j
    rw [Nat.testBit_and, show (4095 : Nat) = 2 ^ 12 - 1 from rfl, Nat.testBit_two_pow_sub_one]
    by_cases hj : j < 12
    · rw [decide_eq_true hj, Bool.and_true]
    · have h3 : 2 ^ 12 ≤ 2 ^ j := Nat.pow_le_pow_right (by omega) (by omega)
      rw [Nat.testBit_lt_two_pow (by omega)]
      rfl
  rw [h14 i hi, show nI (fld tx mn st N i) &&& 4095 = _ from i_and (b := 4095) (by omega) (by omega), e, nI_z (by omega)]
  exact ⟨fun q => decide_eq_true q, fun q => of_decide_eq_true q⟩
def enH (tx : Option (List lw_Ln)) (mn st : Nat) (N : Nat → Nat) (h s : Nat) : Bool := !(fld tx mn st N s).testBit h
theorem en_at {tx : Option (List lw_Ln)} {w : qW} {mn st : Nat} {N : Nat → Nat} (h14 : ∀ set, set < 2 ^ mn → q_A w 14 set = nI (fld tx mn st N set)) {h : Nat} (hh : h < 12) : ∀ i, i < 2 ^ mn → ((q_A w 14 i &&& ((1 : Int32) <<< (nI h &&& 31)) = 0) ↔ enH tx mn st N h i = true) := by
  intro i hi
  have hfl := fld_lt tx mn st N i
  have hp := p2_12 h
  rw [show h % 12 = h by omega] at hp
  have hle : fld tx mn st N i &&& 2 ^ h ≤ fld tx mn st N i := Nat.and_le_left
  rw [h14 i hi, sh1p h hh, i_and (by omega) (by omega), nI_z (by omega)]
  unfold enH
  constructor
  · intro q
    have : (fld tx mn st N i &&& 2 ^ h).testBit h = false := by rw [q]; exact Nat.zero_testBit h
    rw [Nat.testBit_and, Nat.testBit_two_pow, decide_eq_true rfl, Bool.and_true] at this
    rw [this]
    rfl
  · intro q
    apply Nat.eq_of_testBit_eq
    intro j
    rw [Nat.testBit_and, Nat.testBit_two_pow, Nat.zero_testBit]
    by_cases hj : h = j
    · rw [← hj]
      cases hx : (fld tx mn st N i).testBit h with
      | true => rw [hx] at q; exact no_ft q
      | false => rfl
    · rw [decide_eq_false hj, Bool.and_false]
