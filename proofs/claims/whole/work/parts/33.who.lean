/-! who -/
theorem who_row {H : Hp} {R : Nat → Nat} (h : FU H R) (hJ : Jrows H) (hS : Jst H) (x4 : Int32) {r : Nat} (hr : r < 8) (cont : Hp → Option (Int32 × Hp)) (md : Int32 → Hp → Option (Int32 × Hp))
    (hc : ∀ (H1 : Hp) (E : Nat → Int32), FU H1 R → (∀ p, p < R 0 → H1 57 p = E p) → ∃ v Hz, cont H1 = some (v, Hz) ∧ (∀ c k, c < 38 ∨ 58 < c → Hz c k = H1 c k) ∧ ∀ (H2 : Hp) (f : Nat), Hr H2 64 R → f + R 0 ≤ 320 → (∀ p, p < R 0 → H2 63 (f + p) = E p) → ∃ Hy, md (nI f) H2 = some (v, Hy) ∧ ∀ c k, c = 0 ∨ (c = 60 ∧ k = 1) ∨ (c = 60 ∧ k = 18) → Hy c k = H2 c k) :
    ∃ (v : Int32) (H1 H2 : Hp), ((f_X5_isMissing (nI r) H).bind fun v4 => if v4 = 0 then (f_X5_hasPlaces (nI r) x4 (H 7 3) H).bind fun v5 => if v5 = 0 then some ((-1000010 - 2 : Int32), hset H 0 10 2) else (f_X3_expect (nI r) x4 H).bind fun H7 => (cont H7).bind fun q8 => some (q8.1, hset q8.2 0 10 0) else some ((-1000010 - 1 : Int32), hset H 0 10 1)) = some (v, H1) ∧
      ((f_X8_rowFound (nI r) x4 (nI (R 0)) (hset H1 60 0 0)).bind fun q7 => if q7.1 = 0 then (md (40 * nI r + x4) q7.2) else some (q7.1, q7.2)) = some (v, H2) ∧ Jst H2 := by
  have hn := h.1.1
  obtain ⟨j1, j2, j3, nr, hnr, j4, j5⟩ := hJ r hr
  rw [miss hr, Option.bind_some]
  simp only [bo]
  unfold f_X8_rowFound
  by_cases g1 : H 2 r = -1
  · rw [if_neg (fun z => z g1)]
    refine ⟨_, _, hset (hset (hset H 0 10 1) 60 0 0) 60 1 1, rfl, ?_, ?_⟩
    · rw [ag_n hr (by omega), Option.bind_some, hset_c (by omega), hset_c (by omega), ← j1, if_neg (by rw [not_lane j3]; exact fun z => z g1)]
      rfl
    · exact ⟨by simp [hset_if]; exact hS.1, by simp [hset_if]⟩
  rw [if_pos g1, h.2.2.2.2.2.1, hasP hr hnr j4, Option.bind_some]
  simp only [bz]
  have npos : ¬ nI (R 0) < 0 := nI_pos (by omega)
  by_cases g2 : x4 < 0
  · rw [if_pos (Or.inl g2)]
    refine ⟨_, _, hset (hset (hset H 0 10 2) 60 0 0) 60 1 2, rfl, ?_, ?_⟩
    · rw [ag_n hr (by omega), Option.bind_some, hset_c (by omega), hset_c (by omega), ← j1, if_pos (by rw [not_lane j3]; exact g1), if_pos g2]
      rfl
    · exact ⟨by simp [hset_if]; exact hS.1, by simp [hset_if]⟩
  by_cases g3 : nI nr - nI (R 0) < x4
  · rw [if_pos (Or.inr (Or.inr g3))]
    have g3' := (i64_gt hnr npos g2).mpr ((sub_lt2 hnr npos g2).mp g3)
    refine ⟨_, _, hset (hset (hset H 0 10 2) 60 0 0) 60 1 2, rfl, ?_, ?_⟩
    · rw [ag_n hr (by omega), Option.bind_some, hset_c (by omega), hset_c (by omega), ← j1, if_pos (by rw [not_lane j3]; exact g1), if_neg g2, ag_n hr (by omega), Option.bind_some, hset_c (by omega), hset_c (by omega), ← j2, j4, if_neg (Int64.not_le.mpr g3')]
      rfl
    · exact ⟨by simp [hset_if]; exact hS.1, by simp [hset_if]⟩
  rw [if_neg (nor3 g2 npos g3)]
  have g3' : ¬ (nI nr).toInt64 < x4.toInt64 + (nI (R 0)).toInt64 := fun z => g3 ((sub_lt2 hnr npos g2).mpr ((i64_gt hnr npos g2).mp z))
  obtain ⟨i, hi, rfl⟩ := nI_of g2
  have hin : i + R 0 ≤ nr := by
    have := Int64.not_lt.mp g3'
    exact (i64_add_le hi (by omega) hnr).mp this
  obtain ⟨H7, e1, e2, e3⟩ := exp7 (H := H) (n := R 0) (r := r) (i := i) hn hr (by omega) h.2.2.2.2.2.1
  have hF7 : FU H7 R := h.fr (fun c k hcc => e3 c k (by omega))
  obtain ⟨v, Hz, c1, c2, c3⟩ := hc H7 (fun p => H 4 (40 * r + i + p)) hF7 e2
  rw [e1, Option.bind_some, c1, Option.bind_some]
  have fz : ∀ c k, c < 38 ∨ 58 < c → Hz c k = H c k := fun c k hcc => by rw [c2 c k hcc, e3 c k (by omega)]
  obtain ⟨Hy, d1, d2⟩ := c3 (hset (hset (hset Hz 0 10 0) 60 0 0) 60 1 0) (40 * r + i) (h.2.1.fr (fun k _ => by rw [hset_c (by omega), hset_c (by omega), hset_c (by omega), fz 64 k (by omega)])) (by omega) (fun p hp => by
    rw [hset_c (by omega), hset_c (by omega), hset_c (by omega), fz 63 _ (by omega), Nat.add_assoc, ← j5 (i + p) (by omega)])
  refine ⟨v, hset Hz 0 10 0, Hy, rfl, ?_, ?_⟩
  · rw [ag_n hr (by omega), Option.bind_some, hset_c (by omega), hset_c (by omega), fz 61 r (by omega), ← j1, if_pos (by rw [not_lane j3]; exact g1), if_neg g2, ag_n hr (by omega), Option.bind_some, hset_c (by omega), hset_c (by omega), fz 62 r (by omega), ← j2, j4, if_pos (Int64.not_lt.mp g3')]
    simp only [pf_e, Option.bind_some]
    rw [if_pos trivial, y40]
    exact d1
  · refine ⟨?_, ?_⟩
    · rw [d2 0 9 (by omega), d2 60 18 (by omega)]
      simp [hset_if]
      rw [fz 0 9 (by omega), fz 60 18 (by omega)]; exact hS.1
    · rw [d2 0 10 (by omega), d2 60 1 (by omega)]
      simp [hset_if]
theorem bind_eta (o : Option (Int32 × Hp)) : (o.bind fun q => some (q.1, q.2)) = o := by cases o <;> rfl
theorem q_who {H : Hp} {R : Nat → Nat} (h : FU H R) (hJ : Jrows H) (hS : Jst H) (x1 x2 x3 x4 : Int32) : ∃ (r : Int32) (H1 H2 : Hp), f_X7_who x1 x2 x3 x4 H = some (r, H1) ∧ f_X8_who x1 x2 x3 x4 H1 = some (r, H2) ∧ Jst H2 := by
  have hn := h.1.1
  have hg3 := h.1.2.2.2.2.1
  by_cases g0 : R 0 = 0
  · refine ⟨-1000002, H, hset H 60 0 0, ?_, ?_, hS⟩
    · simp only [f_X7_who, st7 h.2.2, if_pos g0]
    · simp only [f_X8_who, pf_e, Option.bind_some]
      rw [isT8 (h.t.2.1 0 (by omega)) (by omega), Option.bind_some, if_pos g0, if_pos rfl]
  have t8 : ∀ H1, Hr H1 64 R → f_X8_isThere (hset H1 60 0 0) = some 1 := fun H1 h1 => by
    rw [isT8 (by rw [hset_c (by omega)]; exact h1 0 (by omega)) (by omega), if_neg g0]
  by_cases g1 : x2 < 0 ∨ 4 < x2
  · refine ⟨-1000001, H, hset H 60 0 0, ?_, ?_, hS⟩
    · simp only [f_X7_who, st7 h.2.2, if_neg g0, within_eq, Option.bind_some, bz, if_pos g1, if_true]
    · simp only [f_X8_who, pf_e, Option.bind_some, in_0_4, within_eq, bz, t8 H h.2.1, if_pos g1, if_true]
      rw [if_neg (by decide)]
  obtain ⟨w, -, hw, rfl⟩ := i_rng x2 0 4 (by omega) (by omega) g1
  have p8 : ∀ H1, Hr H1 64 R → f_X8_isProject x1 (hset H1 60 0 0) = some (if x1 < 0 ∨ nI (R 0) ≤ x1 then 0 else 1) := fun H1 h1 => isP8 (by rw [hset_c (by omega)]; exact h1 0 (by omega)) (by omega) x1
  have i8 : ∀ H1, Hr H1 64 R → f_X8_isGiftAt x1 (hset H1 60 0 0) = some (if x1 < 0 ∨ nI (R 3) ≤ x1 then 0 else 1) := fun H1 h1 => isGf8 (by rw [hset_c (by omega)]; exact h1 3 (by omega)) (by omega) x1
  have a8 : ∀ H1, Hr H1 64 R → ag (hset H1 60 0 0) 64 80 0 = some (nI (R 0)) := fun H1 h1 => by
    rw [show ag (hset H1 60 0 0) 64 80 0 = ag (hset H1 60 0 0) 64 80 (nI 0) from rfl, ag_n (by omega) (by omega), hset_c (by omega), h1 0 (by omega)]
  have k0 : (nI w = (0 : Int32)) = (w = 0) := nI_eq' (b := 0) (by omega) (by omega)
  have k1 : (nI w = (1 : Int32)) = (w = 1) := nI_eq' (b := 1) (by omega) (by omega)
  have k2 : (nI w = (2 : Int32)) = (w = 2) := nI_eq' (b := 2) (by omega) (by omega)
  have k4 : (nI w = (4 : Int32)) = (w = 4) := nI_eq' (b := 4) (by omega) (by omega)
  have kl : (nI w ≤ (2 : Int32)) = (w ≤ 2) := nI_le' (b := 2) (by omega) (by omega)
  have kg : ((2 : Int32) ≤ nI w) = (2 ≤ w) := nI_le' (a := 2) (by omega) (by omega)
  have n1 : (1 : Int32) ≠ 0 := by decide
  have rx7 : f_X5_isRow x3 = some (if x3 < 0 ∨ 7 < x3 then 0 else 1) := by rw [isRow7, within_eq]
  have rx8 : f_X8_isRow x3 = some (if x3 < 0 ∨ 7 < x3 then 0 else 1) := by rw [isRow8, within_eq]
  have s7 : f_X7_who x1 (nI w) x3 x4 H = (if x3 < 0 ∨ 7 < x3 then some (-1000001, H) else if (w = 2 ∧ (x1 < 0 ∨ nI (R 0) ≤ x1)) ∨ (2 < w ∧ (x1 < 0 ∨ nI (R 3) ≤ x1)) then some (-1000001, H) else (f_X5_isMissing x3 H).bind fun v4 => if v4 = 0 then (f_X5_hasPlaces x3 x4 (H 7 3) H).bind fun v5 => if v5 = 0 then some ((-1000010 - 2 : Int32), hset H 0 10 2) else (f_X3_expect x3 x4 H).bind fun H7 => ((if w < 2 then f_X3_fittingPots (if w = 1 then 1 else 0) H7 else if w = 2 then f_X3_fittingKinds x1 H7 else f_X3_fittingCoins x1 (if w = 4 then 1 else 0) H7)).bind fun q8 => some (q8.1, hset q8.2 0 10 0) else some ((-1000010 - 1 : Int32), hset H 0 10 1)) := by
    simp only [f_X7_who, st7 h.2.2, if_neg g0, within_eq, Option.bind_some, bz, if_neg g1, rx7, isP7 h.2.2.2.2.2.1, isGf7 h.2.2.2.2.2.2.1, k0, k1, k2, k4, kl, unm, fnd]
    rcases (show w = 0 ∨ w = 1 ∨ w = 2 ∨ w = 3 ∨ w = 4 by omega) with rfl | rfl | rfl | rfl | rfl <;> simp
  have s8 : ∀ H1, Hr H1 64 R → f_X8_who x1 (nI w) x3 x4 H1 = (if (w = 2 ∧ (x1 < 0 ∨ nI (R 0) ≤ x1)) ∨ (2 < w ∧ (x1 < 0 ∨ nI (R 3) ≤ x1)) then some (-1000001, hset H1 60 0 0) else if x3 < 0 ∨ 7 < x3 then some (-1000001, hset H1 60 0 0) else (f_X8_rowFound x3 x4 (nI (R 0)) (hset H1 60 0 0)).bind fun q7 => if q7.1 = 0 then ((if w < 2 then f_X8_potsOf (40 * x3 + x4) (nI w) q7.2 else if w = 2 then f_X8_kindsOf x1 (40 * x3 + x4) q7.2 else f_X8_coinsOf x1 (40 * x3 + x4) (nI w) q7.2)) else some (q7.1, q7.2)) := by
    intro H1 h1
    simp only [f_X8_who, pf_e, Option.bind_some, in_0_4, within_eq, bz, t8 H1 h1, if_neg g1, n1, if_false, rx8, p8 H1 h1, i8 H1 h1, a8 H1 h1, k2, kl, kg]
    rcases (show w = 0 ∨ w = 1 ∨ w = 2 ∨ w = 3 ∨ w = 4 by omega) with rfl | rfl | rfl | rfl | rfl <;> simp [bind_eta]
  by_cases g2 : x3 < 0 ∨ 7 < x3
  · refine ⟨-1000001, H, hset H 60 0 0, by rw [s7, if_pos g2], ?_, hS⟩
    rw [s8 H h.2.1]
    by_cases g3 : (w = 2 ∧ (x1 < 0 ∨ nI (R 0) ≤ x1)) ∨ (2 < w ∧ (x1 < 0 ∨ nI (R 3) ≤ x1))
    · rw [if_pos g3]
    · rw [if_neg g3, if_pos g2]
  by_cases g3 : (w = 2 ∧ (x1 < 0 ∨ nI (R 0) ≤ x1)) ∨ (2 < w ∧ (x1 < 0 ∨ nI (R 3) ≤ x1))
  · exact ⟨-1000001, H, hset H 60 0 0, by rw [s7, if_neg g2, if_pos g3], by rw [s8 H h.2.1, if_pos g3], hS⟩
  obtain ⟨r, -, hr, rfl⟩ := i_rng x3 0 7 (by omega) (by omega) g2
  obtain ⟨v, H1, H2, e1, e2, e3⟩ := who_row h hJ hS x4 (show r < 8 by omega) (fun H7 => if w < 2 then f_X3_fittingPots (if w = 1 then 1 else 0) H7 else if w = 2 then f_X3_fittingKinds x1 H7 else f_X3_fittingCoins x1 (if w = 4 then 1 else 0) H7) (fun f q => if w < 2 then f_X8_potsOf f (nI w) q else if w = 2 then f_X8_kindsOf x1 f q else f_X8_coinsOf x1 f (nI w) q) (by
    intro H1 E hF hE
    by_cases w2 : w < 2
    · simp only [if_pos w2]
      obtain ⟨Hz, z1⟩ := pots7 hF (by omega) hE (decide (w = 1))
      simp only [decide_eq_true_iff] at z1
      refine ⟨_, Hz, z1, fun c k hc => fr_X3_fittingPots z1 c k (by refine ⟨?_, ?_, ?_, ?_, ?_, ?_, ?_, ?_, ?_, ?_, ?_, ?_, ?_, ?_, ?_⟩ <;> omega), fun H2 f h2 hf hE2 => ?_⟩
      obtain ⟨Hy, y1⟩ := pots8 h.1 h2 (by omega) hf hE2 (nI w)
      refine ⟨Hy, ?_, fun c k hc => fr_X8_potsOf y1 c k (by rcases hc with z | z | z <;> simp [z])⟩
      rw [y1]
      simp only [k0]
      rcases (show w = 0 ∨ w = 1 by omega) with rfl | rfl <;> simp
    · simp only [if_neg w2]
      by_cases w3 : w = 2
      · simp only [if_pos w3]
        obtain ⟨x, hx, rfl⟩ := gpI (x := x1) (n := R 0) (by omega) (fun z => g3 (Or.inl ⟨w3, z⟩))
        obtain ⟨Hz, z1⟩ := kinds7 hF hx hE
        refine ⟨_, Hz, z1, fun c k hc => fr_X3_fittingKinds z1 c k (by refine ⟨?_, ?_, ?_, ?_, ?_, ?_, ?_, ?_, ?_, ?_, ?_, ?_, ?_, ?_, ?_⟩ <;> omega), fun H2 f h2 hf hE2 => ?_⟩
        obtain ⟨Hy, y1⟩ := kinds8 h.1 h2 hx hf hE2
        exact ⟨Hy, y1, fun c k hc => fr_X8_kindsOf y1 c k (by rcases hc with z | z | z <;> simp [z])⟩
      · simp only [if_neg w3]
        obtain ⟨x, hx, rfl⟩ := gpI (x := x1) (n := R 3) (by omega) (fun z => g3 (Or.inr ⟨by omega, z⟩))
        obtain ⟨Hz, z1⟩ := coins7 hF hx hE (decide (w = 4))
        simp only [decide_eq_true_iff] at z1
        refine ⟨_, Hz, z1, fun c k hc => fr_X3_fittingCoins z1 c k (by refine ⟨?_, ?_, ?_, ?_, ?_, ?_, ?_, ?_, ?_, ?_, ?_, ?_, ?_, ?_, ?_⟩ <;> omega), fun H2 f h2 hf hE2 => ?_⟩
        obtain ⟨Hy, y1⟩ := coins8 h.1 h2 hx hf hE2 (nI w)
        refine ⟨Hy, ?_, fun c k hc => fr_X8_coinsOf y1 c k (by rcases hc with z | z | z <;> simp [z])⟩
        rw [y1]
        rcases (show w = 3 ∨ w = 4 by omega) with rfl | rfl
        · rw [if_pos (show nI 3 = 3 from rfl), if_neg (by omega)]
        · rw [if_neg (show ¬ nI 4 = 3 by decide), if_pos rfl])
  have e7 : f_X7_who x1 (nI w) (nI r) x4 H = some (v, H1) := by rw [s7, if_neg g2, if_neg g3]; exact e1
  refine ⟨v, H1, H2, e7, ?_, e3⟩
  rw [s8 H1 (h.2.1.fr (fun k _ => fr_X7_who e7 64 k (by simp))), if_neg g3, if_neg g2]
  exact e2
