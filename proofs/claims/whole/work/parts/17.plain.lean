/-! the fund: what both sides ask of it; promises 15 to 22 -/
theorem nor2 {A B : Prop} (a : ¬ A) (b : ¬ B) : ¬ (A ∨ B) := fun z => z.elim a b
theorem nor3 {A B C : Prop} (a : ¬ A) (b : ¬ B) (c : ¬ C) : ¬ (A ∨ B ∨ C) := fun z => z.elim a (nor2 b c)
def FU (H : Hp) (R : Nat → Nat) : Prop := Rw R ∧ Hr H 64 R ∧ Rp H 7 R
theorem FU.fr {H H2 : Hp} {R : Nat → Nat} (h : FU H R) (f : ∀ c k, (7 ≤ c ∧ c ≤ 12) ∨ c = 64 → H2 c k = H c k) : FU H2 R := ⟨h.1, h.2.1.fr (fun k _ => f 64 k (by omega)), h.2.2.fr (fun c k h1 h2 => f c k (by omega))⟩
theorem FU.t {H : Hp} {R : Nat → Nat} (h : FU H R) : FU (hset H 60 0 0) R := h.fr (fun c k hc => hset_c (by omega))
theorem gpI {n : Nat} (hn : n ≤ 100) {x : Int32} (h : ¬ (x < 0 ∨ nI n ≤ x)) : ∃ k, k < n ∧ x = nI k := by
  rcases pk_ix x (show n < 2 ^ 31 by omega) with g | g | g
  · exact absurd (Or.inl g) h
  · exact absurd (Or.inr g) h
  · exact g
theorem giI {x : Int32} (h : ¬ (x < 0 ∨ 9 < x)) : ∃ k, k < 10 ∧ x = nI k := by
  obtain ⟨k, -, hk, rfl⟩ := i_rng x 0 9 (by omega) (by omega) h
  exact ⟨k, by omega, rfl⟩
theorem n1lt {n : Nat} (hn : n ≤ 100) (x : Int32) : (nI n - 1 < x) = (nI n ≤ x) := by
  apply propext
  rw [Int32.lt_iff_toInt_lt, Int32.le_iff_toInt_le, show (1 : Int32) = nI 1 from rfl, pk_sub_toInt (by omega) (by omega), nI_toInt (by omega)]
  omega
theorem isP7 {H : Hp} {n : Nat} (h : H 7 3 = nI n) (x : Int32) : f_X7_isProject x H = some (if x < 0 ∨ nI n ≤ x then 0 else 1) := by
  unfold f_X7_isProject
  rw [h]
  by_cases g1 : x < 0
  · simp [g1]
  · by_cases g2 : nI n ≤ x
    · simp [g1, g2]
    · simp [g1, g2]
theorem isGf7 {H : Hp} {n : Nat} (h : H 7 4 = nI n) (x : Int32) : f_X7_isGift x H = some (if x < 0 ∨ nI n ≤ x then 0 else 1) := by
  unfold f_X7_isGift
  rw [h]
  by_cases g1 : x < 0
  · simp [g1]
  · by_cases g2 : nI n ≤ x
    · simp [g1, g2]
    · simp [g1, g2]
theorem isP8 {H : Hp} {n : Nat} (h : H 64 0 = nI n) (hn : n ≤ 100) (x : Int32) : f_X8_isProject x H = some (if x < 0 ∨ nI n ≤ x then 0 else 1) := by
  unfold f_X8_isProject
  rw [show (ag H 64 80 0) = ag H 64 80 (nI 0) from rfl, ag_n (by omega) (by omega), Option.bind_some, h, in0, within_eq, Option.bind_some, zr01]
  simp only [n1lt hn]
theorem isGf8 {H : Hp} {n : Nat} (h : H 64 3 = nI n) (hn : n ≤ 100) (x : Int32) : f_X8_isGiftAt x H = some (if x < 0 ∨ nI n ≤ x then 0 else 1) := by
  unfold f_X8_isGiftAt
  rw [show (ag H 64 80 3) = ag H 64 80 (nI 3) from rfl, ag_n (by omega) (by omega), Option.bind_some, h, in0, within_eq, Option.bind_some, zr01]
  simp only [n1lt hn]
theorem isT8 {H : Hp} {n : Nat} (h : H 64 0 = nI n) (hn : n ≤ 100) : f_X8_isThere H = some (if n = 0 then 0 else 1) := by
  unfold f_X8_isThere
  rw [show (ag H 64 80 0) = ag H 64 80 (nI 0) from rfl, ag_n (by omega) (by omega), Option.bind_some, h]
  by_cases g : n = 0
  · rw [g]; rfl
  · rw [if_neg (nI_nle (by omega) (by omega)), if_neg g]
theorem isG7 (x : Int32) : f_X7_isGiver x = some (if x < 0 ∨ 9 < x then 0 else 1) := by
  unfold f_X7_isGiver
  rw [within_eq, Option.bind_some, zr01]
theorem isG8 {H : Hp} {n : Nat} (h : H 64 0 = nI n) (hn : n ≤ 100) (x : Int32) : f_X8_isGiver x H = some (if n = 0 ∨ x < 0 ∨ 9 < x then 0 else 1) := by
  unfold f_X8_isGiver
  rw [isT8 h hn, Option.bind_some, in_0_9, within_eq, Option.bind_some]
  simp only [bz]
  by_cases g : n = 0
  · simp [g, zr]
  · by_cases g2 : x < 0 ∨ 9 < x
    · simp [g, g2, zr]
    · simp [g, g2, zr]
theorem isGv8 {H : Hp} {n : Nat} (h : H 64 0 = nI n) (hn : n ≤ 100) (x y : Int32) : f_X8_isGiving x y H = some (if n = 0 ∨ (x < 0 ∨ 9 < x) ∨ (y < 0 ∨ nI n ≤ y) then 0 else 1) := by
  unfold f_X8_isGiving
  rw [isG8 h hn, Option.bind_some, isP8 h hn, Option.bind_some]
  simp only [bz]
  by_cases g : n = 0
  · simp [g, zr]
  · by_cases g2 : x < 0 ∨ 9 < x
    · simp [g, g2, zr]
    · by_cases g3 : y < 0 ∨ nI n ≤ y
      · simp [g, g2, g3, zr]
      · simp [g, g2, g3, zr]
theorem two7 (x y : Int32) : f_X7_areTwoGivers x y = some (if (x < 0 ∨ 9 < x) ∨ (y < 0 ∨ 9 < y) ∨ x = y then 0 else 1) := by
  unfold f_X7_areTwoGivers
  rw [isG7, isG7, Option.bind_some, Option.bind_some]
  simp only [bz]
  by_cases g : x < 0 ∨ 9 < x
  · simp [g, zr]
  · by_cases g2 : y < 0 ∨ 9 < y
    · simp [g, g2, zr]
    · by_cases g3 : x = y
      · subst g3; simp [g, zr]
      · simp [g, g2, g3, zr]
theorem st7 {H : Hp} {R : Nat → Nat} (h : Rp H 7 R) : (H 7 0 = 0) = (R 0 = 0) := by
  rw [h.1]
  by_cases g : R 0 = 0
  · simp [g]
  · simp [g]
theorem mk0 (s : Nat → Nat → Nat) : mk L0 s = s := by funext a p; simp [mk, L0]
theorem CB0 (R : Nat → Nat) : CB (κR R) (R 2) (tb R) L0 = CR R := by unfold CB CR; rw [mk0]; rfl
theorem okR {R : Nat → Nat} (h : Rw R) (h0 : 0 < R 0) : Ok (R 0) (R 2) (tb R) := ⟨h.1, tb_B h, h.2.2.2.1 h0, h.2.2.1⟩
theorem q_root (H : Hp) (x1 : Int32) : ∃ (r : Int32) (H2 : Hp), f_X7_root x1 = some r ∧ f_X8_root x1 H = some (r, H2) := by
  simp only [f_X7_root, f_X8_root, in_0_1980, within_eq, Option.bind_some, bz, pf_e]
  by_cases g : x1 < 0 ∨ 1980 < x1
  · simp only [if_pos g]
    exact ⟨_, _, rfl, rfl⟩
  · obtain ⟨k, -, hk, rfl⟩ := i_rng x1 0 1980 (by omega) (by omega) g
    simp only [if_neg g, root7 hk, root8 hk, Option.bind_some]
    exact ⟨_, _, rfl, rfl⟩
theorem q_kind {H : Hp} {R : Nat → Nat} (h : FU H R) (x1 : Int32) : ∃ (r : Int32) (H2 : Hp), f_X7_kind x1 H = some r ∧ f_X8_kind x1 H = some (r, H2) := by
  have hr := h.1.1
  simp only [f_X7_kind, f_X8_kind, pf_e, Option.bind_some]
  rw [isP7 h.2.2.2.2.2.1, isP8 (h.t.2.1 0 (by omega)) (by omega)]
  simp only [Option.bind_some, bz]
  by_cases g : x1 < 0 ∨ nI (R 0) ≤ x1
  · simp only [if_pos g]
    exact ⟨_, _, rfl, rfl⟩
  · obtain ⟨k, hk, rfl⟩ := gpI (by omega) g
    simp only [if_neg g]
    rw [ag_n (by omega) (by omega), z4, ag_n (by omega) (by omega), h.t.2.1 _ (by omega), h.2.2.2.2.2.2.2.1 k hk]
    exact ⟨_, _, rfl, rfl⟩
theorem q_nameOf {H : Hp} {R : Nat → Nat} (h : FU H R) (x1 : Int32) : ∃ (r : Int32) (H2 : Hp), f_X7_nameOf x1 H = some r ∧ f_X8_nameOf x1 H = some (r, H2) := by
  have hr := h.1.1
  simp only [f_X7_nameOf, f_X8_nameOf, pf_e, Option.bind_some, isG7, in_0_9, within_eq]
  rw [isT8 (h.t.2.1 0 (by omega)) (by omega)]
  simp only [Option.bind_some, bz, st7 h.2.2]
  by_cases g0 : R 0 = 0
  · simp only [if_pos g0]
    exact ⟨_, _, rfl, rfl⟩
  simp only [if_neg g0]
  by_cases g : x1 < 0 ∨ 9 < x1
  · simp only [if_pos g]
    exact ⟨_, _, rfl, rfl⟩
  · obtain ⟨k, hk, rfl⟩ := giI g
    simp only [if_neg g]
    rw [ag_n (by omega) (by omega), z70, ag_n (by omega) (by omega), h.t.2.1 _ (by omega), h.2.2.2.2.2.2.2.2.1 k hk]
    exact ⟨_, _, rfl, rfl⟩
theorem q_gift {H : Hp} {R : Nat → Nat} (h : FU H R) (x1 x2 : Int32) : ∃ (r : Int32) (H2 : Hp), f_X7_gift x1 x2 H = some r ∧ f_X8_gift x1 x2 H = some (r, H2) := by
  have hr := h.1.2.2.2.2.1
  simp only [f_X7_gift, f_X8_gift, pf_e, Option.bind_some, in_0_2, within_eq]
  rw [isGf7 h.2.2.2.2.2.2.1, isGf8 (h.t.2.1 3 (by omega)) (by omega)]
  simp only [Option.bind_some, bz]
  by_cases g : x1 < 0 ∨ nI (R 3) ≤ x1
  · simp only [if_pos g]
    exact ⟨_, _, rfl, rfl⟩
  obtain ⟨k, hk, rfl⟩ := gpI (by omega) g
  simp only [if_neg g]
  obtain ⟨p1, p2, p3⟩ := h.2.2.2.2.2.2.2.2.2 k hk
  by_cases g2 : x2 < 0 ∨ 2 < x2
  · simp only [if_pos g2]
    refine ⟨_, _, ?_, rfl⟩
    rw [if_neg (by rintro rfl; revert g2; decide), if_neg (by rintro rfl; revert g2; decide), if_neg (by rintro rfl; revert g2; decide)]
  obtain ⟨w, -, hw, rfl⟩ := i_rng x2 0 2 (by omega) (by omega) g2
  simp only [if_neg g2]
  rw [ag_n (show k < 20 by omega) (by omega), ag_n (show k < 20 by omega) (by omega), ag_n (show k < 20 by omega) (by omega), p1, p2, p3]
  rcases (show w = 0 ∨ w = 1 ∨ w = 2 by omega) with rfl | rfl | rfl
  · rw [show nI 0 = 0 from rfl, of_0 (by omega), h.t.2.1 _ (by omega)]
    exact ⟨_, _, rfl, rfl⟩
  · rw [show nI 1 = 1 from rfl, of_1 (by omega), h.t.2.1 _ (by omega)]
    exact ⟨_, _, rfl, rfl⟩
  · rw [show nI 2 = 2 from rfl, of_2 (by omega), h.t.2.1 _ (by omega)]
    exact ⟨_, _, rfl, rfl⟩
theorem q_sum {H : Hp} {R : Nat → Nat} (h : FU H R) (x1 x2 : Int32) : ∃ (r : Int32) (H1 H2 : Hp), f_X7_sum x1 x2 H = some (r, H1) ∧ f_X8_sum x1 x2 H1 = some (r, H2) := by
  have hr := h.1.1
  have m8 : ∀ H1, FU H1 R → f_X8_sum x1 x2 H1 = (if R 0 = 0 ∨ (x1 < 0 ∨ 9 < x1) ∨ (x2 < 0 ∨ nI (R 0) ≤ x2) then some (-1000001, hset H1 60 0 0) else (f_X8_lookAt 64 (hset H1 60 0 0)).bind fun H3 => (ag H3 69 60 ((6 * x1) + x2)).bind fun v4 => some (v4, H3)) := by
    intro H1 h1
    simp only [f_X8_sum, pf_e, Option.bind_some]
    rw [isGv8 (h1.t.2.1 0 (by omega)) (by omega)]
    simp only [Option.bind_some, bz]
  simp only [f_X7_sum, isG7, isP7 h.2.2.2.2.2.1, Option.bind_some, bz]
  by_cases g1 : x1 < 0 ∨ 9 < x1
  · simp only [if_pos g1]
    exact ⟨_, _, _, rfl, by rw [m8 H h, if_pos (Or.inr (Or.inl g1))]⟩
  simp only [if_neg g1]
  by_cases g2 : x2 < 0 ∨ nI (R 0) ≤ x2
  · simp only [if_pos g2]
    exact ⟨_, _, _, rfl, by rw [m8 H h, if_pos (Or.inr (Or.inr g2))]⟩
  simp only [if_neg g2]
  obtain ⟨a, ha, rfl⟩ := giI g1
  obtain ⟨p, hp, rfl⟩ := gpI (by omega) g2
  obtain ⟨Ha, a1, a2, a3⟩ := lay7 h.1 h.2.2
  have hF : FU Ha R := h.fr (fun c k hc => fr_X2_lay a1 c k (by omega))
  obtain ⟨Hb, b1, b2, b3⟩ := look8 (r := 64) (by omega) hF.1 hF.t.2.1
  refine ⟨nI (tb R a p), Ha, Hb, ?_, ?_⟩
  · rw [a1, Option.bind_some]
    unfold f_X2_sumFrom
    rw [x6, ag_n (by omega) (by omega), bl_i a2 ha (by omega)]; rfl
  · rw [m8 Ha hF, if_neg (nor3 (by omega) g1 g2), b1, Option.bind_some, y6, ag_n (by omega) (by omega), (b3.1 a p ha (by omega)).1]; rfl
theorem q_overlap {H : Hp} {R : Nat → Nat} (h : FU H R) (x1 x2 : Int32) : ∃ (r : Int32) (H1 H2 : Hp), f_X7_overlap x1 x2 H = some (r, H1) ∧ f_X8_overlap x1 x2 H1 = some (r, H2) := by
  have hr := h.1.1
  have m8 : ∀ H1, FU H1 R → f_X8_overlap x1 x2 H1 = (if R 0 = 0 then some (-1000002, hset H1 60 0 0) else if x1 < 0 ∨ 9 < x1 then some (-1000001, hset H1 60 0 0) else if x2 < 0 ∨ 9 < x2 then some (-1000001, hset H1 60 0 0) else if x1 = x2 then some (-1000001, hset H1 60 0 0) else (f_X8_lookAt 64 (hset H1 60 0 0)).bind fun H3 => (ag H3 71 100 ((10 * x1) + x2)).bind fun v4 => some (v4, H3)) := by
    intro H1 h1
    simp only [f_X8_overlap, pf_e, Option.bind_some, in_0_9, within_eq]
    rw [isT8 (h1.t.2.1 0 (by omega)) (by omega)]
    simp only [Option.bind_some, bz]
  simp only [f_X7_overlap, two7, st7 h.2.2, Option.bind_some, bz]
  by_cases g0 : R 0 = 0
  · simp only [if_pos g0]
    exact ⟨_, _, _, rfl, by rw [m8 H h, if_pos g0]⟩
  simp only [if_neg g0]
  by_cases g1 : x1 < 0 ∨ 9 < x1
  · rw [if_pos (Or.inl g1)]
    exact ⟨_, _, _, rfl, by rw [m8 H h, if_neg g0, if_pos g1]⟩
  by_cases g2 : x2 < 0 ∨ 9 < x2
  · rw [if_pos (Or.inr (Or.inl g2))]
    exact ⟨_, _, _, rfl, by rw [m8 H h, if_neg g0, if_neg g1, if_pos g2]⟩
  by_cases g3 : x1 = x2
  · rw [if_pos (Or.inr (Or.inr g3))]
    exact ⟨_, _, _, rfl, by rw [m8 H h, if_neg g0, if_neg g1, if_neg g2, if_pos g3]⟩
  rw [if_neg (nor3 g1 g2 g3)]
  obtain ⟨a, ha, rfl⟩ := giI g1
  obtain ⟨b, hb, rfl⟩ := giI g2
  obtain ⟨Ha, a1, a2, a3⟩ := lay7 h.1 h.2.2
  have hF : FU Ha R := h.fr (fun c k hc => fr_X2_lay a1 c k (by omega))
  obtain ⟨Hb, b1, b2, b3⟩ := look8 (r := 64) (by omega) hF.1 hF.t.2.1
  refine ⟨nI (ov (tb R) a b), Ha, Hb, ?_, ?_⟩
  · rw [a1, Option.bind_some, over7 hr (tb_B h.1) a2 ha hb]; rfl
  · rw [m8 Ha hF, if_neg g0, if_neg g1, if_neg g2, if_neg g3, b1, Option.bind_some, y10, ag_n (by omega) (by omega), b3.2 a b ha hb]; rfl
theorem q_term {H : Hp} {R : Nat → Nat} (h : FU H R) (x1 x2 x3 : Int32) : ∃ (r : Int32) (H1 H2 : Hp), f_X7_term x1 x2 x3 H = some (r, H1) ∧ f_X8_term x1 x2 x3 H1 = some (r, H2) := by
  have hr := h.1.1
  have m8 : ∀ H1, FU H1 R → f_X8_term x1 x2 x3 H1 = (if R 0 = 0 ∨ (x1 < 0 ∨ 9 < x1) ∨ (x3 < 0 ∨ nI (R 0) ≤ x3) then some (-1000001, hset H1 60 0 0) else if R 0 = 0 ∨ x2 < 0 ∨ 9 < x2 then some (-1000001, hset H1 60 0 0) else if x1 = x2 then some (-1000001, hset H1 60 0 0) else (f_X8_lookAt 64 (hset H1 60 0 0)).bind fun H4 => (f_X8_termOf 64 x1 x2 x3 H4).bind fun v5 => some (v5, H4)) := by
    intro H1 h1
    simp only [f_X8_term, pf_e, Option.bind_some]
    rw [isGv8 (h1.t.2.1 0 (by omega)) (by omega), isG8 (h1.t.2.1 0 (by omega)) (by omega)]
    simp only [Option.bind_some, bz]
  simp only [f_X7_term, two7, isP7 h.2.2.2.2.2.1, Option.bind_some, bz]
  have bad : ∀ H1, FU H1 R → ((x1 < 0 ∨ 9 < x1) ∨ (x2 < 0 ∨ 9 < x2) ∨ x1 = x2) ∨ (x3 < 0 ∨ nI (R 0) ≤ x3) → f_X8_term x1 x2 x3 H1 = some (-1000001, hset H1 60 0 0) := by
    intro H1 h1 hb
    rw [m8 H1 h1]
    by_cases c1 : R 0 = 0 ∨ (x1 < 0 ∨ 9 < x1) ∨ (x3 < 0 ∨ nI (R 0) ≤ x3)
    · rw [if_pos c1]
    by_cases c2 : R 0 = 0 ∨ x2 < 0 ∨ 9 < x2
    · rw [if_neg c1, if_pos c2]
    by_cases c3 : x1 = x2
    · rw [if_neg c1, if_neg c2, if_pos c3]
    exfalso
    rcases hb with (z | z | z) | z
    · exact c1 (Or.inr (Or.inl z))
    · exact c2 (Or.inr z)
    · exact c3 z
    · exact c1 (Or.inr (Or.inr z))
  by_cases g1 : (x1 < 0 ∨ 9 < x1) ∨ (x2 < 0 ∨ 9 < x2) ∨ x1 = x2
  · simp only [if_pos g1]
    exact ⟨_, _, _, rfl, bad H h (Or.inl g1)⟩
  by_cases g2 : x3 < 0 ∨ nI (R 0) ≤ x3
  · simp only [if_neg g1, if_pos g2]
    exact ⟨_, _, _, rfl, bad H h (Or.inr g2)⟩
  simp only [if_neg g1, if_neg g2]
  have c1 : ¬ (x1 < 0 ∨ 9 < x1) := fun z => g1 (Or.inl z)
  have c2 : ¬ (x2 < 0 ∨ 9 < x2) := fun z => g1 (Or.inr (Or.inl z))
  have c3 : ¬ x1 = x2 := fun z => g1 (Or.inr (Or.inr z))
  obtain ⟨a, ha, rfl⟩ := giI c1
  obtain ⟨b, hb, rfl⟩ := giI c2
  obtain ⟨p, hp, rfl⟩ := gpI (by omega) g2
  obtain ⟨Ha, a1, a2, a3⟩ := lay7 h.1 h.2.2
  have hF : FU Ha R := h.fr (fun c k hc => fr_X2_lay a1 c k (by omega))
  obtain ⟨Hb, b1, b2, b3⟩ := look8 (r := 64) (by omega) hF.1 hF.t.2.1
  have he := h.1.2.2.2.1 (by omega)
  refine ⟨nI (tm (R 2) (tb R) a b p), Ha, Hb, ?_, ?_⟩
  · rw [a1, Option.bind_some, over7 hr (tb_B h.1) a2 ha hb, Option.bind_some, term7 (tb_B h.1) a2 he h.1.2.2.1 ha hb (by omega)]; rfl
  · rw [m8 Ha hF, if_neg (nor3 (by omega) c1 g2), if_neg (nor2 (by omega) c2), if_neg c3, b1, Option.bind_some, term8 (tb_B h.1) b3 (by rw [b2 64 2 (by omega) (by omega) (by omega), hF.t.2.1 2 (by omega)]) he h.1.2.2.1 ha hb (by omega)]; rfl
/-- the board loaded and settled, the model's reckoning of the same fund -/
theorem both {H : Hp} {R : Nat → Nat} (h : FU H R) (h0 : 0 < R 0) : ∃ Ha Hb, f_X2_load H = some Ha ∧ f_X2_settle Ha = some Hb ∧ FU Hb R ∧ BO Hb (R 0) (R 1) (R 2) (κR R) (tb R) L0 ∧ (∀ p, p < R 0 → Hb 47 p = nI (CR R p) ∧ Hb 48 p = nI (PD (R 0) (R 1) (CR R) p)) ∧ Hb 38 13 = nI (sm (R 0) (CR R)) ∧ Hb 38 14 = nI (RE (R 0) (R 1) (CR R)) ∧ ∀ c k, (c < 38 ∨ 48 < c) → Hb c k = H c k := by
  obtain ⟨Ha, a1, a2, a3⟩ := load7 h.1 h0 h.2.2
  obtain ⟨Hb, b1, b2, b3, b4, b5⟩ := settle7 (okR h.1 h0) h.1.2.1 a2
  rw [CB0] at b3 b4 b5
  have fr : ∀ c k, (c < 38 ∨ 48 < c) → Hb c k = H c k := fun c k hc => by
    rw [fr_X2_settle b1 c k (by omega), fr_X2_load a1 c k (by omega)]
  exact ⟨Ha, Hb, a1, b1, h.fr (fun c k hc => fr c k (by omega)), b2, b3, b4, b5, fr⟩
theorem q_project {H : Hp} {R : Nat → Nat} (h : FU H R) (x1 x2 : Int32) : ∃ (r : Int32) (H1 H2 : Hp), f_X7_project x1 x2 H = some (r, H1) ∧ f_X8_project x1 x2 H1 = some (r, H2) := by
  have hr := h.1.1
  have m8 : ∀ H1, FU H1 R → f_X8_project x1 x2 H1 = (if x1 < 0 ∨ nI (R 0) ≤ x1 then some (-1000001, hset H1 60 0 0) else if x2 < 0 ∨ 2 < x2 then some (-1000001, hset H1 60 0 0) else (f_X8_reckon 64 (hset H1 60 0 0)).bind fun H4 => Option.bind (if x2 = 0 then (ag H4 72 6 x1).bind fun v5 => some v5 else if x2 = 1 then (ag H4 73 6 x1).bind fun v6 => some v6 else (f_X8_giversOf x1 H4).bind fun v7 => some v7) fun j8 => some (j8, H4)) := by
    intro H1 h1
    simp only [f_X8_project, pf_e, Option.bind_some, in_0_2, within_eq]
    rw [isP8 (h1.t.2.1 0 (by omega)) (by omega)]
    simp only [Option.bind_some, bz]
  simp only [f_X7_project, within_eq, isP7 h.2.2.2.2.2.1, Option.bind_some, bz]
  by_cases g1 : x1 < 0 ∨ nI (R 0) ≤ x1
  · simp only [if_pos g1]
    exact ⟨_, _, _, rfl, by rw [m8 H h, if_pos g1]⟩
  by_cases g2 : x2 < 0 ∨ 2 < x2
  · simp only [if_neg g1, if_pos g2]
    exact ⟨_, _, _, rfl, by rw [m8 H h, if_neg g1, if_pos g2]⟩
  simp only [if_neg g1, if_neg g2]
  obtain ⟨p, hp, rfl⟩ := gpI (by omega) g1
  obtain ⟨w, -, hw, rfl⟩ := i_rng x2 0 2 (by omega) (by omega) g2
  obtain ⟨Ha, Hb, a1, b1, hF, b2, b3, b4, b5, -⟩ := both h (by omega)
  obtain ⟨Hc, c1, c2, c3, c4, c5⟩ := reckon8 (r := 64) (by omega) (by omega) h.1 (by omega) hF.t.2.1
  rw [a1, Option.bind_some, b1, Option.bind_some, ag_n (by omega) (by omega), ag_n (by omega) (by omega), (b3 p hp).1, (b3 p hp).2, givers7 (tb_B h.1) b2.1 (by omega)]
  have e8 := m8 Hb hF
  rw [if_neg g1, if_neg g2, c1, Option.bind_some, ag_n (by omega) (by omega), ag_n (by omega) (by omega), (c4 p hp).1, (c4 p hp).2, givers8 (tb_B h.1) c3 (by omega)] at e8
  rw [show f_X8_project (nI p) (nI w) = f_X8_project (nI p) (nI w) from rfl]
  rcases (show w = 0 ∨ w = 1 ∨ w = 2 by omega) with rfl | rfl | rfl
  · exact ⟨_, _, _, rfl, e8⟩
  · exact ⟨_, _, _, rfl, e8⟩
  · exact ⟨_, _, _, rfl, e8⟩
theorem q_stand {H : Hp} {R : Nat → Nat} (h : FU H R) (x1 : Int32) : ∃ (r : Int32) (H1 H2 : Hp), f_X7_stand x1 H = some (r, H1) ∧ f_X8_stand x1 H1 = some (r, H2) := by
  have hr := h.1.1
  have hP := h.1.2.1
  have m8 : ∀ H1, FU H1 R → f_X8_stand x1 H1 = (if R 0 = 0 then some (-1000002, hset H1 60 0 0) else (f_X8_reckon 64 (hset H1 60 0 0)).bind fun H3 => if x1 = 0 then (ag H3 64 80 1).bind fun v4 => some (v4, H3) else if x1 = 1 then (f_X8_claimsTogether 64 H3).bind fun v5 => some (v5, H3) else if x1 = 2 then (ag H3 64 80 1).bind fun v6 => some ((v6 - (H3 60 24)), H3) else if x1 = 3 then some ((H3 60 24), H3) else some (-1000001, H3)) := by
    intro H1 h1
    simp only [f_X8_stand, pf_e, Option.bind_some]
    rw [isT8 (h1.t.2.1 0 (by omega)) (by omega)]
    simp only [Option.bind_some, bz]
  simp only [f_X7_stand, st7 h.2.2]
  by_cases g0 : R 0 = 0
  · simp only [if_pos g0]
    exact ⟨_, _, _, rfl, by rw [m8 H h, if_pos g0]⟩
  simp only [if_neg g0]
  obtain ⟨Ha, Hb, a1, b1, hF, b2, b3, b4, b5, -⟩ := both h (by omega)
  obtain ⟨Hc, c1, c2, c3, c4, c5⟩ := reckon8 (r := 64) (by omega) (by omega) h.1 (by omega) hF.t.2.1
  have hc64 : ∀ k, k < 80 → Hc 64 k = nI (R k) := fun k hk => by rw [c2 64 k (by omega) (by omega), hF.t.2.1 k hk]
  have ps := PD_sum (n := R 0) (P := R 1) (c := CR R)
  rw [a1, Option.bind_some, b1, Option.bind_some, hF.2.2.2.1, b4, allp7 hr b2.1.1 (fun p hp => (b3 p hp).2), b5]
  have e8 := m8 Hb hF
  rw [if_neg g0, c1, Option.bind_some, show ag Hc 64 80 1 = ag Hc 64 80 (nI 1) from rfl, ag_n (by omega) (by omega), hc64 1 (by omega), togeth8 hr (hc64 0 (by omega)) (fun p hp => (c4 p hp).1), c5] at e8
  by_cases k0 : x1 = 0
  · subst k0; exact ⟨_, _, _, rfl, e8⟩
  by_cases k1 : x1 = 1
  · subst k1; exact ⟨_, _, _, rfl, e8⟩
  by_cases k2 : x1 = 2
  · subst k2
    refine ⟨_, _, Hc, rfl, ?_⟩
    rw [e8, if_neg (by decide), if_neg (by decide), if_pos rfl, Option.bind_some, pk_sub (by omega), show R 1 - RE (R 0) (R 1) (CR R) = sm (R 0) (PD (R 0) (R 1) (CR R)) by omega]
  by_cases k3 : x1 = 3
  · subst k3; exact ⟨_, _, _, rfl, e8⟩
  simp only [if_neg k0, if_neg k1, if_neg k2, if_neg k3] at e8 ⊢
  exact ⟨_, _, _, rfl, e8⟩
