/-! byTurns: the model -/
theorem remI {x d : Nat} (hx : x < 2 ^ 31) (h0 : 0 < d) (hd : d < 2 ^ 31) : nI x - nI x / nI d * nI d = nI (x % d) := pk_rem hx h0 hd
theorem after8 {H : Hp} {R : Nat → Nat} (hR : Rw R) (h0 : 0 < R 0) (h3 : R 3 ≤ 16) (hH : Hr H 64 R) {a b v n row : Nat} (ha : a < 10) (hb : b < 10) (hv1 : 1 ≤ v) (hv : v ≤ 20) (hn : n ≤ 4) (hrow : row < 2 ^ 31) : ∃ H2, f_X8_afterTurns (nI a) (nI b) (nI n) (nI v) (nI row) H = some (leaf R (Tk R a b v n row), H2) ∧ ∀ k j, (k < 66 ∨ k = 67 ∨ k = 68 ∨ 73 < k) → (k ≠ 60 ∨ j ≠ 24) → H2 k j = H k j := by
  have hr := hR.1
  obtain ⟨Ha, a1, a2, a3⟩ := then8 hH
  obtain ⟨Hb, b1, b2, b3⟩ := up0 (fun m k z => f_X8_afterTurns_l21 (nI a) (nI b) (nI n) (nI v) (nI (R 0 - 1)) m (nI (row / 3 ^ k)) (nI k) z) n (by omega) (fun k z => (∀ c j, c ≠ 66 → z c j = H c j) ∧ Hr z 66 (Tk R a b v k row)) (fun z => (∀ c j, c ≠ 66 → z c j = H c j) ∧ Hr z 66 (Tk R a b v n row)) Ha
    ⟨a3, a2⟩
    (fun m z hz => ⟨z, by simp only [f_X8_afterTurns_l21]; rw [if_pos (nI_le (Nat.le_refl _) (by omega))], hz⟩)
    (fun m k z hk hz => by
      obtain ⟨z1, z2⟩ := hz
      have hd : row / 3 ^ k < 2 ^ 31 := Nat.lt_of_le_of_lt (Nat.div_le_self _ _) hrow
      have hm := Nat.mod_lt (row / 3 ^ k) (show 0 < 3 by omega)
      obtain ⟨f1, f2⟩ := Tk_f hR h0 h3 ha hb hv1 hv row k (by omega)
      simp only [f_X8_afterTurns_l21]
      rw [if_neg (nI_ge hk (by omega)), show (3 : Int32) = nI 3 from rfl, remI hd (by omega) (by omega), pk_div hd (by omega) (by omega), show row / 3 ^ k / 3 = row / 3 ^ (k + 1) by rw [Nat.div_div_eq_div_mul, Nat.pow_succ], nI_1]
      have e2 : (2 ≤ nI (row / 3 ^ k % 3)) = (2 ≤ row / 3 ^ k % 3) := nI_le' (a := 2) (by omega) (by omega)
      have e0 : (nI (row / 3 ^ k % 3) = 0) = (row / 3 ^ k % 3 = 0) := nI_eq' (b := 0) (by omega) (by omega)
      have ek : (nI k - nI k / 2 * 2 = 0) = (k % 2 = 0) := by
        rw [show (2 : Int32) = nI 2 from rfl, remI (by omega) (by omega) (by omega)]
        exact nI_eq' (b := 0) (by omega) (by omega)
      simp only [e2, e0, ek]
      have hp : (if k % 2 = 0 then nI a else nI b) = nI (if k % 2 = 0 then a else b) := by split <;> rfl
      rw [hp]
      by_cases g : 2 ≤ row / 3 ^ k % 3
      · rw [if_pos g, Option.bind_some]
        exact Or.inr ⟨z, rfl, z1, by simp only [Tk]; rw [if_neg (by omega), if_neg (by omega)]; exact z2⟩
      · rw [if_neg g]
        by_cases g0 : row / 3 ^ k % 3 = 0
        · rw [if_pos g0]
          obtain ⟨H3, p1, p2, p3⟩ := put8 z2 (by omega) (if k % 2 = 0 then a else b) 0 v
          rw [show f_X8_put 66 (nI (if k % 2 = 0 then a else b)) 0 (nI v) z = some H3 from p1, Option.bind_some, Option.bind_some]
          exact Or.inr ⟨H3, rfl, fun c j hc => by rw [p3 c j hc, z1 c j hc], by simp only [Tk]; rw [if_pos g0]; exact p2⟩
        · rw [if_neg g0]
          obtain ⟨H3, p1, p2, p3⟩ := put8 z2 (by omega) (if k % 2 = 0 then a else b) (R 0 - 1) v
          rw [p1, Option.bind_some, Option.bind_some]
          exact Or.inr ⟨H3, rfl, fun c j hc => by rw [p3 c j hc, z1 c j hc], by simp only [Tk]; rw [if_neg g0, if_pos (by omega)]; exact p2⟩)
  obtain ⟨f1, f2⟩ := Tk_f hR h0 h3 ha hb hv1 hv row n hn
  have t0 : Tk R a b v n row 0 = R 0 := f1.2 0 (by omega) (by omega)
  have t1 : Tk R a b v n row 1 = R 1 := f1.2 1 (by omega) (by omega)
  obtain ⟨Hc, c1, c2, c3⟩ := rk66 (H := H) f1.1 (by omega) b3 b2
  refine ⟨Hc, ?_, c2.1⟩
  unfold f_X8_afterTurns
  rw [show ag H 64 80 0 = ag H 64 80 (nI 0) from rfl, ag_n (by omega) (by omega), Option.bind_some, hH 0 (by omega), a1, Option.bind_some, show nI (R 0) - 1 = nI (R 0 - 1) from pk_sub (b := 1) (by omega)]
  rw [show f_X8_afterTurns_l21 (nI a) (nI b) (nI n) (nI v) (nI (R 0 - 1)) fuel (nI row) 0 Ha = some Hb from by
    have := b1
    rw [Nat.pow_zero, Nat.div_one] at this
    exact this, Option.bind_some, c1, Option.bind_some, show ag Hc 73 6 0 = ag Hc 73 6 (nI 0) from rfl, ag_n (by omega) (by omega), Option.bind_some, ag_n (by omega) (by omega), Option.bind_some, (c2.2.2.1 0 (by omega)).2, (c2.2.2.1 (R 0 - 1) (by omega)).2, t0, t1]
  rfl
theorem i_eq {x y : Int32} (h : x.toInt = y.toInt) : x = y := Int32.toInt_inj.mp h
theorem mx_eq (p q r : Int32) : (if r ≤ (if q ≤ p then p else q) then (if q ≤ p then p else q) else r) = mx3 r p q := by
  unfold mx3
  simp only [Int32.le_iff_toInt_le, Int32.lt_iff_toInt_lt]
  by_cases h1 : q.toInt ≤ p.toInt
  · rw [if_pos h1, if_neg (show ¬ p.toInt < q.toInt by omega)]
    by_cases h2 : r.toInt ≤ p.toInt
    · rw [if_pos h2]
      by_cases h3 : r.toInt < p.toInt
      · rw [if_pos h3]
      · rw [if_neg h3]; exact i_eq (by omega)
    · rw [if_neg h2, if_neg (by omega)]
  · rw [if_neg h1, if_pos (show p.toInt < q.toInt by omega)]
    by_cases h2 : r.toInt ≤ q.toInt
    · rw [if_pos h2]
      by_cases h3 : r.toInt < q.toInt
      · rw [if_pos h3]
      · rw [if_neg h3]; exact i_eq (by omega)
    · rw [if_neg h2, if_neg (by omega)]
theorem mn_eq (p q r : Int32) : (if (if p ≤ q then p else q) ≤ r then (if p ≤ q then p else q) else r) = mn3 r p q := by
  unfold mn3
  simp only [Int32.le_iff_toInt_le, Int32.lt_iff_toInt_lt]
  by_cases h1 : p.toInt ≤ q.toInt
  · rw [if_pos h1, if_neg (show ¬ q.toInt < p.toInt by omega)]
    by_cases h2 : p.toInt ≤ r.toInt
    · rw [if_pos h2]
      by_cases h3 : p.toInt < r.toInt
      · rw [if_pos h3]
      · rw [if_neg h3]; exact i_eq (by omega)
    · rw [if_neg h2, if_neg (by omega)]
  · rw [if_neg h1, if_pos (show q.toInt < p.toInt by omega)]
    by_cases h2 : q.toInt ≤ r.toInt
    · rw [if_pos h2]
      by_cases h3 : q.toInt < r.toInt
      · rw [if_pos h3]
      · rw [if_neg h3]; exact i_eq (by omega)
    · rw [if_neg h2, if_neg (by omega)]
/-- the value after k steps of a row -/
noncomputable def WV (R : Nat → Nat) (a b v n k row : Nat) : Int32 := GV R v (n - k) (if k % 2 = 0 then a else b) (if k % 2 = 0 then b else a) (decide (k % 2 = 0)) (Tk R a b v k row)
theorem WV_s (R : Nat → Nat) (a b v n k row : Nat) (hk : k < n) (hrow : row < 3 ^ k) : WV R a b v n k row = if k % 2 = 0 then mx3 (WV R a b v n (k + 1) (row + 3 ^ k * 2)) (WV R a b v n (k + 1) row) (WV R a b v n (k + 1) (row + 3 ^ k * 1)) else mn3 (WV R a b v n (k + 1) (row + 3 ^ k * 2)) (WV R a b v n (k + 1) row) (WV R a b v n (k + 1) (row + 3 ^ k * 1)) := by
  have d0 : row / 3 ^ k % 3 = 0 := by rw [Nat.div_eq_of_lt hrow]
  have d1 := dig_hi (st := 1) hrow (by omega)
  have d2 := dig_hi (st := 2) hrow (by omega)
  have k1 : Tk R a b v k (row + 3 ^ k * 1) = Tk R a b v k row := Tk_d R a b v k (fun i hi => dig_lo row 1 k i hi)
  have k2 : Tk R a b v k (row + 3 ^ k * 2) = Tk R a b v k row := Tk_d R a b v k (fun i hi => dig_lo row 2 k i hi)
  unfold WV
  rw [show n - k = (n - (k + 1)) + 1 by omega]
  simp only [GV, Tk, d0, d1, d2, k1, k2]
  by_cases g : k % 2 = 0
  · simp [g, show (k + 1) % 2 = 1 by omega]
  · simp [g, show (k + 1) % 2 = 0 by omega]
theorem pick8 {H : Hp} {k row : Nat} (hk : k ≤ 3) (hrow : row < 3 ^ k) : f_X8_byTurns_l191 H (nI (3 ^ k)) (nI k) (nI row) fuel (H 74 row) 1 = some (if k % 2 = 0 then mx3 (H 74 (row + 3 ^ k * 2)) (H 74 row) (H 74 (row + 3 ^ k * 1)) else mn3 (H 74 (row + 3 ^ k * 2)) (H 74 row) (H 74 (row + 3 ^ k * 1))) := by
  have h27 : 3 ^ k ≤ 3 ^ 3 := Nat.pow_le_pow_right (by omega) hk
  obtain ⟨fq, hfq⟩ : ∃ q, fuel = q + 3 := ⟨4997, rfl⟩
  have ek : (nI k - nI k / 2 * 2 = 0) = (k % 2 = 0) := by
    rw [show (2 : Int32) = nI 2 from rfl, remI (by omega) (by omega) (by omega)]
    exact nI_eq' (b := 0) (by omega) (by omega)
  rw [hfq]
  simp only [f_X8_byTurns_l191, ek]
  rw [if_neg (by decide), show (1 : Int32) + 1 = nI 2 from rfl, show nI (3 ^ k) * 1 = nI (3 ^ k * 1) from pk_mul _ 1, nI_add, ag_n (by omega) (by omega), Option.bind_some, if_neg (by decide), pk_mul, nI_add, ag_n (by omega) (by omega), Option.bind_some, if_pos (by decide)]
  by_cases g : k % 2 = 0
  · simp only [if_pos g, bz]
    rw [mx_eq]
  · simp only [if_neg g, bz]
    rw [mn_eq]
theorem lev8 {R : Nat → Nat} {a b v n : Nat} (hn : n ≤ 4) : ∀ (k m : Nat) (H : Hp), k ≤ n → k < m → (∀ row, row < 3 ^ k → H 74 row = WV R a b v n k row) → ∃ H2, f_X8_byTurns_l158 m (nI (3 ^ k)) (nI k - 1) H = some H2 ∧ H2 74 0 = GV R v n a b true R := by
  intro k
  induction k with
  | zero =>
    intro m H _ hm h
    obtain ⟨m, rfl⟩ : ∃ j, m = j + 1 := ⟨m - 1, by omega⟩
    refine ⟨H, ?_, ?_⟩
    · simp only [f_X8_byTurns_l158]
      rw [if_pos (by decide)]
    · rw [h 0 (by decide)]; rfl
  | succ k ih =>
    intro m H hk hm h
    obtain ⟨m, rfl⟩ : ∃ j, m = j + 1 := ⟨m - 1, by omega⟩
    have h27 : 3 ^ k ≤ 3 ^ 3 := Nat.pow_le_pow_right (by omega) (by omega)
    have es : 3 ^ (k + 1) = 3 ^ k * 3 := Nat.pow_succ 3 k
    obtain ⟨Hb, b1, b2⟩ := up0 (fun m j z => f_X8_byTurns_l172 (nI (3 ^ k)) (nI k) m (nI j) z) (3 ^ k) (by omega) (fun j z => (∀ r, r < j → z 74 r = WV R a b v n k r) ∧ ∀ r, j ≤ r → r < 3 ^ (k + 1) → z 74 r = WV R a b v n (k + 1) r) (fun z => ∀ r, r < 3 ^ k → z 74 r = WV R a b v n k r) H
      ⟨fun r hr => absurd hr (by omega), fun r _ hr => h r hr⟩
      (fun m z hz => ⟨z, by simp only [f_X8_byTurns_l172]; rw [if_pos (nI_le (Nat.le_refl _) (by omega))], hz.1⟩)
      (fun m j z hj hz => by
        refine Or.inr ⟨hset z 74 j (WV R a b v n k j), ?_, fun r hr => ?_, fun r h1 h2 => by rw [hset_k (by omega), hz.2 r (by omega) h2]⟩
        · simp only [f_X8_byTurns_l172]
          rw [if_neg (nI_ge hj (by omega)), ag_n (by omega) (by omega), Option.bind_some, pick8 (by omega) hj, Option.bind_some, hz.2 j (Nat.le_refl _) (by omega), hz.2 (j + 3 ^ k * 1) (by omega) (by omega), hz.2 (j + 3 ^ k * 2) (by omega) (by omega), ← WV_s R a b v n k j (by omega) hj, as_n (by omega) (by omega), Option.bind_some, nI_1]
        · by_cases q : r = j
          · rw [q, hset_self]
          · rw [hset_k q, hz.1 r (by omega)])
    obtain ⟨H2, c1, c2⟩ := ih m Hb (by omega) (by omega) b2
    refine ⟨H2, ?_, c2⟩
    simp only [f_X8_byTurns_l158]
    rw [nI_pred, if_neg (nI_pos (by omega)), show (3 : Int32) = nI 3 from rfl, pk_div (by omega) (by omega) (by omega), show 3 ^ (k + 1) / 3 = 3 ^ k by omega, show f_X8_byTurns_l172 (nI (3 ^ k)) (nI k) fuel 0 H = some Hb from b1, Option.bind_some, ← Int32.sub_eq_add_neg]
    exact c1
theorem turns8 {H : Hp} {R : Nat → Nat} (hR : Rw R) (h0 : 0 < R 0) (h3 : R 3 ≤ 16) (hH : Hr H 64 R) {a b v n : Nat} (ha : a < 10) (hb : b < 10) (hv1 : 1 ≤ v) (hv : v ≤ 20) (hn : n ≤ 4) : ∃ l11 l28, f_X8_byTurns_l122 (nI a) (nI b) (nI n) (nI v) (nI (3 ^ n)) fuel 0 H = some l11 ∧ f_X8_byTurns_l158 fuel (nI (3 ^ n)) (nI n - 1) l11 = some l28 ∧ l28 74 0 = GV R v n a b true R := by
  have h81 : 3 ^ n ≤ 3 ^ 4 := Nat.pow_le_pow_right (by omega) hn
  obtain ⟨Hb, b1, b2⟩ := up0 (fun m k z => f_X8_byTurns_l122 (nI a) (nI b) (nI n) (nI v) (nI (3 ^ n)) m (nI k) z) (3 ^ n) (by omega) (fun k z => Hr z 64 R ∧ ∀ r, r < k → z 74 r = leaf R (Tk R a b v n r)) (fun z => ∀ r, r < 3 ^ n → z 74 r = leaf R (Tk R a b v n r)) H
    ⟨hH, fun r hr => absurd hr (by omega)⟩
    (fun m z hz => ⟨z, by simp only [f_X8_byTurns_l122]; rw [if_pos (nI_le (Nat.le_refl _) (by omega))], hz.2⟩)
    (fun m k z hk hz => by
      obtain ⟨H2, e1, e2⟩ := after8 (n := n) (row := k) hR h0 h3 hz.1 ha hb hv1 hv hn (by omega)
      refine Or.inr ⟨hset H2 74 k (leaf R (Tk R a b v n k)), ?_, hz.1.fr (fun j _ => by rw [hset_c (by omega), e2 64 j (by omega) (by omega)]), fun r hr => ?_⟩
      · simp only [f_X8_byTurns_l122]
        rw [if_neg (nI_ge hk (by omega)), e1, Option.bind_some, as_n (by omega) (by omega), Option.bind_some, nI_1]
      · by_cases q : r = k
        · rw [q, hset_self]
        · rw [hset_k q, e2 74 r (by omega) (by omega), hz.2 r (by omega)])
  obtain ⟨H2, c1, c2⟩ := lev8 (R := R) (a := a) (b := b) (v := v) hn n fuel Hb (Nat.le_refl _) (by unfold fuel; omega) (fun r hr => by
    rw [b2 r hr]
    unfold WV
    rw [Nat.sub_self]
    rfl)
  exact ⟨Hb, H2, b1, c1, c2⟩
theorem q_byTurns {H : Hp} {R : Nat → Nat} (h : FU H R) (x1 x2 x3 x4 : Int32) : ∃ (r : Int32) (H1 H2 : Hp), f_X7_byTurns x1 x2 x3 x4 H = some (r, H1) ∧ f_X8_byTurns x1 x2 x3 x4 H1 = some (r, H2) := by
  have hr := h.1.1
  have hg := h.1.2.2.2.2.1
  have e16 : (nI (R 3) ≤ 16) = (R 3 ≤ 16) := nI_le' (b := 16) (by omega) (by omega)
  have m8 : ∀ H1, FU H1 R → f_X8_byTurns x1 x2 x3 x4 H1 = (if R 0 = 0 then some (-1000002, hset H1 60 0 0) else if R 0 = 0 ∨ x1 < 0 ∨ 9 < x1 then some (-1000001, hset H1 60 0 0) else if R 0 = 0 ∨ x2 < 0 ∨ 9 < x2 then some (-1000001, hset H1 60 0 0) else if x1 = x2 then some (-1000001, hset H1 60 0 0) else if x3 < 0 ∨ 4 < x3 then some (-1000001, hset H1 60 0 0) else if x4 < 1 ∨ 20 < x4 then some (-1000001, hset H1 60 0 0) else if R 3 ≤ 16 then (f_X8_byTurns_l122 x1 x2 x3 x4 ((if x3 = 0 then 1 else (if x3 = 1 then 3 else (if x3 = 2 then 9 else (if x3 = 3 then 27 else 81)))) : Int32) fuel 0 (hset H1 60 0 0)).bind fun l11 => (f_X8_byTurns_l158 fuel ((if x3 = 0 then 1 else (if x3 = 1 then 3 else (if x3 = 2 then 9 else (if x3 = 3 then 27 else 81)))) : Int32) (x3 - 1) l11).bind fun l28 => (ag l28 74 81 0).bind fun v29 => some (v29, l28) else some (-1000003, hset H1 60 0 0)) := by
    intro H1 h1
    simp only [f_X8_byTurns, pf_e, Option.bind_some, in_0_4, in_1_20, within_eq]
    rw [isT8 (h1.t.2.1 0 (by omega)) (by omega), isG8 (h1.t.2.1 0 (by omega)) (by omega), isG8 (h1.t.2.1 0 (by omega)) (by omega), show ag (hset H1 60 0 0) 64 80 3 = ag (hset H1 60 0 0) 64 80 (nI 3) from rfl, ag_n (by omega) (by omega), h1.t.2.1 3 (by omega)]
    simp only [Option.bind_some, bz, e16]
  simp only [f_X7_byTurns, two7, within_eq, st7 h.2.2, Option.bind_some, bz, h.2.2.2.2.2.2.1, e16]
  by_cases g0 : R 0 = 0
  · simp only [if_pos g0]
    exact ⟨_, _, _, rfl, by rw [m8 H h, if_pos g0]⟩
  simp only [if_neg g0]
  by_cases g1 : x1 < 0 ∨ 9 < x1
  · rw [if_pos (Or.inl g1)]
    exact ⟨_, _, _, rfl, by rw [m8 H h, if_neg g0, if_pos (Or.inr g1)]⟩
  by_cases g2 : x2 < 0 ∨ 9 < x2
  · rw [if_pos (Or.inr (Or.inl g2))]
    exact ⟨_, _, _, rfl, by rw [m8 H h, if_neg g0, if_neg (nor2 g0 g1), if_pos (Or.inr g2)]⟩
  by_cases g3 : x1 = x2
  · rw [if_pos (Or.inr (Or.inr g3))]
    exact ⟨_, _, _, rfl, by rw [m8 H h, if_neg g0, if_neg (nor2 g0 g1), if_neg (nor2 g0 g2), if_pos g3]⟩
  rw [if_neg (nor3 g1 g2 g3)]
  by_cases g4 : x3 < 0 ∨ 4 < x3
  · rw [if_pos g4]
    exact ⟨_, _, _, rfl, by rw [m8 H h, if_neg g0, if_neg (nor2 g0 g1), if_neg (nor2 g0 g2), if_neg g3, if_pos g4]⟩
  by_cases g5 : x4 < 1 ∨ 20 < x4
  · rw [if_neg g4, if_pos g5]
    exact ⟨_, _, _, rfl, by rw [m8 H h, if_neg g0, if_neg (nor2 g0 g1), if_neg (nor2 g0 g2), if_neg g3, if_neg g4, if_pos g5]⟩
  rw [if_neg g4, if_neg g5]
  by_cases g6 : R 3 ≤ 16
  · rw [if_pos g6]
    obtain ⟨a, ha, rfl⟩ := giI g1
    obtain ⟨b, hb, rfl⟩ := giI g2
    obtain ⟨n, -, hn, rfl⟩ := i_rng x3 0 4 (by omega) (by omega) g4
    obtain ⟨v, hv1, hv, rfl⟩ := i_rng x4 1 20 (by omega) (by omega) g5
    obtain ⟨Ha, a1, a2, a3⟩ := load7 h.1 (by omega) h.2.2
    obtain ⟨Hb, b1, b2, b3⟩ := turns7 h.1 (by omega) hv1 hv n 6 a b true R Ha (by omega) hn ha hb ⟨h.1, fun _ _ _ => rfl⟩ (by omega) a3.2.2.2.1 a2
    have hF : FU Hb R := h.fr (fun c k hc => by rw [b3 c k (by omega), fr_X2_load a1 c k (by omega)])
    obtain ⟨l11, l28, t1, t2, t3⟩ := turns8 h.1 (by omega) g6 hF.t.2.1 ha hb hv1 hv hn
    have e7 : f_X3_outcomeOfTurns (nI a) (nI b) (nI n) (nI v) H = some (GV R v n a b true R, Hb) := by
      unfold f_X3_outcomeOfTurns
      rw [a1, Option.bind_some, ag_n ha (by omega), Option.bind_some, ag_n hb (by omega), Option.bind_some, a3.2.2.2.2.2.2.1 a ha, a3.2.2.2.2.2.2.1 b hb, show f_X3_turnsFrom 6 (nI (R (70 + a))) (nI (R (70 + b))) (nI n) (nI v) 1 Ha = some (GV R v n a b true R, Hb) from b1]; rfl
    have er : (if nI n = 0 then (1 : Int32) else if nI n = 1 then 3 else if nI n = 2 then 9 else if nI n = 3 then 27 else 81) = nI (3 ^ n) := by
      rcases (show n = 0 ∨ n = 1 ∨ n = 2 ∨ n = 3 ∨ n = 4 by omega) with rfl | rfl | rfl | rfl | rfl <;> rfl
    rw [e7, Option.bind_some]
    exact ⟨_, _, l28, rfl, by rw [m8 Hb hF, if_neg g0, if_neg (nor2 g0 g1), if_neg (nor2 g0 g2), if_neg g3, if_neg g4, if_neg g5, if_pos g6, er, t1, Option.bind_some, t2, Option.bind_some, show ag l28 74 81 0 = ag l28 74 81 (nI 0) from rfl, ag_n (by omega) (by omega), Option.bind_some, t3]⟩
  · rw [if_neg g6]
    exact ⟨_, _, _, rfl, by rw [m8 H h, if_neg g0, if_neg (nor2 g0 g1), if_neg (nor2 g0 g2), if_neg g3, if_neg g4, if_neg g5, if_neg g6]⟩
