/-! give, back, one -/
theorem put7e {H : Hp} {g : Nat} (hg : g < 20) (h4 : H 7 4 = nI g) (x y z : Int32) : f_X4_putGift 7 (nI g) x y z H = some (hset (hset (hset (hset H 10 g x) 11 g y) 12 g z) 7 4 (nI (g + 1))) := by
  unfold f_X4_putGift
  obtain ⟨fq, hfq⟩ : ∃ q, fuel = q + 1 := ⟨4999, rfl⟩
  have e : f_X4_putGift_l6 7 (nI g) fuel (H 7 4) H = some H := by
    rw [hfq, h4]
    simp only [f_X4_putGift_l6]
    rw [if_pos (nI_le (Nat.le_refl _) (by omega))]
  rw [e, Option.bind_some, as_n hg (by omega), Option.bind_some, as_n hg (by omega), Option.bind_some, as_n hg (by omega), Option.bind_some]
  simp only [pf_e, Option.bind_some]
  rw [hset_c (show 7 ≠ 7 + 5 by omega), hset_c (show 7 ≠ 7 + 4 by omega), hset_c (show 7 ≠ 7 + 3 by omega), h4, nI_1]
theorem q_give {H : Hp} {R : Nat → Nat} (h : FU H R) (hA : AC H R) (x1 x2 x3 : Int32) : ∃ (r : Int32) (H1 H2 : Hp), f_X7_give x1 x2 x3 H = some (r, H1) ∧ f_X8_give x1 x2 x3 H1 = some (r, H2) ∧ ∃ Rn, FU H2 Rn ∧ AC H2 Rn := by
  have hr := h.1.1
  have hg3 := h.1.2.2.2.2.1
  have e20 : (nI (R 3) < 20) = (R 3 < 20) := nI_lt' (b := 20) (by omega) (by omega)
  have e20' : (nI (R 3) = 20) = (R 3 = 20) := nI_eq' (b := 20) (by omega) (by omega)
  have m8 : ∀ H1, Hr H1 64 R → f_X8_give x1 x2 x3 H1 = (if R 0 = 0 ∨ (x1 < 0 ∨ 9 < x1) ∨ (x2 < 0 ∨ nI (R 0) ≤ x2) then some (-1000001, hset H1 60 0 0) else if x3 < 1 ∨ 99 < x3 then some (-1000001, hset H1 60 0 0) else if R 3 = 20 then some (-1000003, hset H1 60 0 0) else (f_X8_keep (hset H1 60 0 0)).bind fun H5 => (f_X8_put 64 x1 x2 x3 H5).bind fun H6 => (ag H6 64 80 3).bind fun v7 => some (v7, H6)) := by
    intro H1 h1
    simp only [f_X8_give, pf_e, Option.bind_some, in_1_99, within_eq]
    rw [isGv8 (by rw [hset_c (by omega)]; exact h1 0 (by omega)) (by omega), show ag (hset H1 60 0 0) 64 80 3 = ag (hset H1 60 0 0) 64 80 (nI 3) from rfl, ag_n (by omega) (by omega), hset_c (show 64 ≠ 60 by omega), h1 3 (by omega)]
    simp only [Option.bind_some, bz, e20']
  simp only [f_X7_give, isG7, within_eq, isP7 h.2.2.2.2.2.1, Option.bind_some, bz, h.2.2.2.2.2.2.1, e20]
  by_cases g1 : x1 < 0 ∨ 9 < x1
  · simp only [if_pos g1]
    exact ⟨_, _, _, rfl, by rw [m8 H h.2.1, if_pos (Or.inr (Or.inl g1))], act_bad h hA⟩
  by_cases g2 : x2 < 0 ∨ nI (R 0) ≤ x2
  · simp only [if_neg g1, if_pos g2]
    exact ⟨_, _, _, rfl, by rw [m8 H h.2.1, if_pos (Or.inr (Or.inr g2))], act_bad h hA⟩
  obtain ⟨p, hp, rfl⟩ := gpI (by omega) g2
  have c0 := nor3 (show ¬ R 0 = 0 by omega) g1 g2
  by_cases g3 : x3 < 1 ∨ 99 < x3
  · simp only [if_neg g1, if_neg g2, if_pos g3]
    exact ⟨_, _, _, rfl, by rw [m8 H h.2.1, if_neg c0, if_pos g3], act_bad h hA⟩
  simp only [if_neg g1, if_neg g2, if_neg g3]
  by_cases g4 : R 3 < 20
  · rw [if_pos g4]
    obtain ⟨g, hg, rfl⟩ := giI g1
    obtain ⟨v, hv1, hv, rfl⟩ := i_rng x3 1 99 (by omega) (by omega) g3
    obtain ⟨a, n, Q, hX⟩ := hA
    rw [put7e g4 h.2.2.2.2.2.2.1, Option.bind_some]
    obtain ⟨Hk, k1, k2, k3, k4, k5, k6⟩ := keep7 (H := hset (hset (hset (hset H 10 (R 3) (nI g)) 11 (R 3) (nI p)) 12 (R 3) (nI v)) 7 4 (nI (R 3 + 1))) hX.1 hX.2.1 (by rw [hset_c (by omega), hset_c (by omega), hset_c (by omega), hset_c (by omega)]; exact hX.2.2.2.2.1) (by rw [hset_c (by omega), hset_c (by omega), hset_c (by omega), hset_c (by omega)]; exact hX.2.2.1) 0 0 0 0 0
    rw [k1, Option.bind_some]
    have kf : ∀ c k, c < 7 ∨ (12 < c ∧ c < 32) ∨ 37 < c → Hk c k = H c k := fun c k hc => by rw [k6 c k (by omega), hset_c (by omega), hset_c (by omega), hset_c (by omega), hset_c (by omega)]
    obtain ⟨Hm, m1, m2, m3, m4, m5, m6, m7⟩ := act_k8 h hX kf
    obtain ⟨Hp', p1, p2, p3⟩ := put8 m6 g4 g p v
    have e4 : Hk 7 4 = nI (R 3 + 1) := by rw [k6 7 4 (by omega), hset_self]
    rw [e4]
    refine ⟨nI (R 3 + 1), _, Hp', rfl, ?_, act_fin (Rn := Pt R g p v) h.1 hX (Rw_Pt h.1 g4 hg hp hv1 hv) k2 k3 k4 (fun c k h1 h2 h3 => by rw [k5 c k h1 h2 h3, hset_c (by omega), hset_c (by omega), hset_c (by omega), hset_c (by omega)]) kf ?_ m2 m3 m4 m5 p2 p3 (Or.inl ⟨rfl, Pt_3 R g p v, fun i h1 h2 h3 => Pt_o h1 (by omega), fun i h1 h2 => Pt_o (by omega) (by omega)⟩)⟩
    · rw [m8 _ m7, if_neg c0, if_neg g3, if_neg (by omega), m1, Option.bind_some, p1, Option.bind_some, show ag Hp' 64 80 3 = ag Hp' 64 80 (nI 3) from rfl, ag_n (by omega) (by omega), Option.bind_some, p2 3 (by omega), Pt_3]
    · obtain ⟨p0, p1, p2, p3, p4, p5, p6, p7⟩ := h.2.2
      have fr : ∀ c k, 7 ≤ c → c ≤ 12 → ¬ (c = 7 ∧ k = 4) → ¬ (10 ≤ c ∧ k = R 3) → Hk c k = H c k := fun c k h1 h2 h3 h4 => by
        rw [k6 c k (by omega), hset_if, if_neg h3, hset_if, if_neg (by omega), hset_if, if_neg (by omega), hset_if, if_neg (by omega)]
      refine ⟨?_, ?_, ?_, ?_, by rw [e4, Pt_3], fun q hq => ?_, fun b hb => ?_, fun j hj => ?_⟩
      · rw [fr _ _ (by omega) (by omega) (by omega) (by omega), p0, Pt_o (by omega) (by omega)]
      · rw [fr _ _ (by omega) (by omega) (by omega) (by omega), p1, Pt_o (by omega) (by omega)]
      · rw [fr _ _ (by omega) (by omega) (by omega) (by omega), p2, Pt_o (by omega) (by omega)]
      · rw [fr _ _ (by omega) (by omega) (by omega) (by omega), p3, Pt_o (by omega) (by omega)]
      · rw [Pt_o (by omega) (by omega)] at hq
        rw [fr _ _ (by omega) (by omega) (by omega) (by omega), p5 q hq, Pt_o (by omega) (by omega)]
      · rw [fr _ _ (by omega) (by omega) (by omega) (by omega), p6 b hb, Pt_o (by omega) (by omega)]
      · rw [Pt_3] at hj
        by_cases hjg : j = R 3
        · rw [hjg, Pt_g, Pt_t, Pt_c, k6 _ _ (by omega), k6 _ _ (by omega), k6 _ _ (by omega)]
          refine ⟨?_, ?_, ?_⟩
          · rw [hset_c (show 7 + 3 ≠ 7 by omega), hset_c (show 7 + 3 ≠ 12 by omega), hset_c (show 7 + 3 ≠ 11 by omega)]; exact hset_self
          · rw [hset_c (show 7 + 4 ≠ 7 by omega), hset_c (show 7 + 4 ≠ 12 by omega)]; exact hset_self
          · rw [hset_c (show 7 + 5 ≠ 7 by omega)]; exact hset_self
        · rw [fr _ _ (by omega) (by omega) (by omega) (by omega), fr _ _ (by omega) (by omega) (by omega) (by omega), fr _ _ (by omega) (by omega) (by omega) (by omega), Pt_o (by omega) (by omega), Pt_o (by omega) (by omega), Pt_o (by omega) (by omega)]
          exact p7 j (by omega)
  · rw [if_neg g4]
    exact ⟨_, _, _, rfl, by rw [m8 H h.2.1, if_neg c0, if_neg g3, if_pos (by omega)], act_bad h hA⟩
theorem take7 {H : Hp} {g c : Nat} (hc : c < 20) (hgc : g ≤ c) (h4 : H 7 4 = nI (c + 1)) : ∃ H2, f_X4_takeGift 7 (nI g) H = some H2 ∧ H2 7 4 = nI c ∧ (∀ w j, 10 ≤ w → w ≤ 12 → j < g → H2 w j = H w j) ∧ (∀ w j, 10 ≤ w → w ≤ 12 → g ≤ j → j < c → H2 w j = H w (j + 1)) ∧ ∀ w j, (w < 10 ∨ 12 < w) → (w ≠ 7 ∨ j ≠ 4) → H2 w j = H w j := by
  unfold f_X4_takeGift
  simp only [pf_e, Option.bind_some]
  rw [h4, show (1 : Int32) = nI 1 from rfl, pk_sub (by omega), Nat.add_sub_cancel]
  obtain ⟨H2, e1, e2, e3, e4⟩ := upx (fun m k z => f_X4_takeGift_l12 7 m (nI k) z) c (fun k z => g ≤ k ∧ (∀ w j, (w < 10 ∨ 12 < w) → z w j = hset H 7 4 (nI c) w j) ∧ (∀ w j, 10 ≤ w → w ≤ 12 → j < g ∨ k ≤ j → z w j = H w j) ∧ ∀ w j, 10 ≤ w → w ≤ 12 → g ≤ j → j < k → z w j = H w (j + 1)) (fun z => (∀ w j, (w < 10 ∨ 12 < w) → z w j = hset H 7 4 (nI c) w j) ∧ (∀ w j, 10 ≤ w → w ≤ 12 → j < g → z w j = H w j) ∧ ∀ w j, 10 ≤ w → w ≤ 12 → g ≤ j → j < c → z w j = H w (j + 1))
    (fun m z hz => ⟨z, by
      simp only [f_X4_takeGift_l12]
      rw [hz.2.1 7 4 (by omega), hset_self, if_pos (nI_le (Nat.le_refl _) (by omega))], hz.2.1, fun w j h1 h2 h3 => hz.2.2.1 w j h1 h2 (Or.inl h3), hz.2.2.2⟩)
    (fun m k z hk hz => by
      obtain ⟨z0, z1, z2, z3⟩ := hz
      refine Or.inr ⟨hset (hset (hset z 10 k (H 10 (k + 1))) 11 k (H 11 (k + 1))) 12 k (H 12 (k + 1)), ?_, by omega, fun w j hw => ?_, fun w j h1 h2 h3 => ?_, fun w j h1 h2 h3 h4 => ?_⟩
      · simp only [f_X4_takeGift_l12]
        rw [z1 7 4 (by omega), hset_self, if_neg (nI_ge hk (by omega)), nI_1, ag_n (by omega) (by omega), Option.bind_some, as_n (by omega) (by omega), Option.bind_some, ag_n (by omega) (by omega), Option.bind_some, as_n (by omega) (by omega), Option.bind_some, ag_n (by omega) (by omega), Option.bind_some, as_n (by omega) (by omega), Option.bind_some, z2 _ _ (by omega) (by omega) (by omega), hset_c (show 7 + 4 ≠ 7 + 3 by omega), z2 _ _ (by omega) (by omega) (by omega), hset_c (show 7 + 5 ≠ 7 + 4 by omega), hset_c (show 7 + 5 ≠ 7 + 3 by omega), z2 _ _ (by omega) (by omega) (by omega)]
      · rw [hset_c (by omega), hset_c (by omega), hset_c (by omega), z1 w j hw]
      · rw [hset_if, if_neg (by omega), hset_if, if_neg (by omega), hset_if, if_neg (by omega), z2 w j h1 h2 (by omega)]
      · by_cases hjk : j = k
        · rcases (show w = 10 ∨ w = 11 ∨ w = 12 by omega) with rfl | rfl | rfl
          · rw [hset_c (by omega), hset_c (by omega), hjk, hset_self]
          · rw [hset_c (by omega), hjk, hset_self]
          · rw [hjk, hset_self]
        · rw [hset_if, if_neg (by omega), hset_if, if_neg (by omega), hset_if, if_neg (by omega), z3 w j h1 h2 h3 (by omega)]) (c - g) fuel g (hset H 7 4 (nI c)) (by omega) (by unfold fuel; omega) ⟨Nat.le_refl _, fun _ _ _ => rfl, fun w j h1 h2 _ => hset_c (by omega), fun w j _ _ h3 h4 => by omega⟩
  refine ⟨H2, by rw [e1]; rfl, by rw [e2 7 4 (by omega), hset_self], e3, e4, fun w j h1 h2 => by rw [e2 w j h1, hset_if, if_neg (by omega)]⟩
def Bk (R : Nat → Nat) (g : Nat) : Nat → Nat := fun k => if k = 3 then R 3 - 1 else if 10 + 3 * g ≤ k ∧ k < 10 + 3 * (R 3 - 1) then R (k + 3) else if 10 + 3 * (R 3 - 1) ≤ k ∧ k < 13 + 3 * (R 3 - 1) then 0 else R k
theorem Bk_3 (R : Nat → Nat) (g : Nat) : Bk R g 3 = R 3 - 1 := if_pos rfl
theorem Bk_l {R : Nat → Nat} {g k : Nat} (h1 : k ≠ 3) (h2 : k < 10 + 3 * g) (h3 : k < 10 + 3 * (R 3 - 1)) : Bk R g k = R k := by
  unfold Bk; rw [if_neg h1, if_neg (by omega), if_neg (by omega)]
theorem Bk_h {R : Nat → Nat} {g k : Nat} (h1 : k ≠ 3) (h2 : 13 + 3 * (R 3 - 1) ≤ k) : Bk R g k = R k := by
  unfold Bk; rw [if_neg h1, if_neg (by omega), if_neg (by omega)]
theorem Bk_m {R : Nat → Nat} {g k : Nat} (h1 : k ≠ 3) (h2 : 10 + 3 * g ≤ k) (h3 : k < 10 + 3 * (R 3 - 1)) : Bk R g k = R (k + 3) := by
  unfold Bk; rw [if_neg h1, if_pos ⟨h2, h3⟩]
theorem Bk_w {R : Nat → Nat} (h : Rw R) {g : Nat} (hg : g < R 3) : Rw (Bk R g) := by
  obtain ⟨r0, r1, r2, r3, r4, r5, r6, r7⟩ := h
  have o : ∀ k, k ≠ 3 → k < 10 ∨ 70 ≤ k → Bk R g k = R k := fun k h1 h2 => by
    by_cases q : k < 10
    · exact Bk_l h1 (by omega) (by omega)
    · exact Bk_h h1 (by omega)
  refine ⟨by rw [o 0 (by omega) (by omega)]; exact r0, by rw [o 1 (by omega) (by omega)]; exact r1, by rw [o 2 (by omega) (by omega)]; exact r2, by rw [o 0 (by omega) (by omega), o 2 (by omega) (by omega)]; exact r3, by rw [Bk_3]; omega, fun p hp => ?_, fun j hj => ?_, fun a ha => by rw [o _ (by omega) (by omega)]; exact r7 a ha⟩
  · rw [o 0 (by omega) (by omega)] at hp
    rw [o _ (by omega) (by omega)]; exact r5 p hp
  · rw [Bk_3] at hj
    rw [o 0 (by omega) (by omega)]
    by_cases q : j < g
    · rw [Bk_l (by omega) (by omega) (by omega), Bk_l (by omega) (by omega) (by omega), Bk_l (by omega) (by omega) (by omega)]
      exact r6 j (by omega)
    · rw [Bk_m (by omega) (by omega) (by omega), Bk_m (by omega) (by omega) (by omega), Bk_m (by omega) (by omega) (by omega)]
      have := r6 (j + 1) (by omega)
      rw [show 10 + 3 * j + 3 = 10 + 3 * (j + 1) by omega, show 11 + 3 * j + 3 = 11 + 3 * (j + 1) by omega, show 12 + 3 * j + 3 = 12 + 3 * (j + 1) by omega]
      exact this
theorem back8 {H : Hp} {R : Nat → Nat} {g : Nat} (h : Hr H 64 R) (hg : g < R 3) (h3 : R 3 ≤ 20) : ∃ l, f_X8_back_l42 fuel (nI g) (hset H 64 3 (nI (R 3 - 1))) = some l ∧ Hr l 64 (fun k => if k = 3 then R 3 - 1 else if 10 + 3 * g ≤ k ∧ k < 10 + 3 * (R 3 - 1) then R (k + 3) else R k) ∧ ∀ c k, c ≠ 64 → l c k = H c k := by
  obtain ⟨l, e1, e2, e3⟩ := upx (fun m k z => f_X8_back_l42 m (nI k) z) (R 3 - 1) (fun k z => g ≤ k ∧ (∀ c j, c ≠ 64 → z c j = H c j) ∧ ∀ i, i < 80 → z 64 i = nI (if i = 3 then R 3 - 1 else if 10 + 3 * g ≤ i ∧ i < 10 + 3 * k then R (i + 3) else R i)) (fun z => (∀ c j, c ≠ 64 → z c j = H c j) ∧ ∀ i, i < 80 → z 64 i = nI (if i = 3 then R 3 - 1 else if 10 + 3 * g ≤ i ∧ i < 10 + 3 * (R 3 - 1) then R (i + 3) else R i))
    (fun m z hz => ⟨z, by
      simp only [f_X8_back_l42]
      rw [show ag z 64 80 3 = ag z 64 80 (nI 3) from rfl, ag_n (by omega) (by omega), Option.bind_some, hz.2.2 3 (by omega), if_pos rfl, if_pos (nI_le (Nat.le_refl _) (by omega))], hz.2⟩)
    (fun m k z hk hz => by
      obtain ⟨z0, z1, z2⟩ := hz
      have q : ∀ i, 10 + 3 * (k + 1) ≤ i → i < 80 → z 64 i = nI (R i) := fun i h1 h2 => by rw [z2 i h2, if_neg (by omega), if_neg (by omega)]
      refine Or.inr ⟨hset (hset (hset z 64 (10 + 3 * k) (nI (R (13 + 3 * k)))) 64 (11 + 3 * k) (nI (R (14 + 3 * k)))) 64 (12 + 3 * k) (nI (R (15 + 3 * k))), ?_, by omega, fun c j hc => by rw [hset_c hc, hset_c hc, hset_c hc, z1 c j hc], fun i hi => ?_⟩
      · simp only [f_X8_back_l42]
        rw [show ag z 64 80 3 = ag z 64 80 (nI 3) from rfl, ag_n (by omega) (by omega), Option.bind_some, z2 3 (by omega), if_pos rfl, if_neg (nI_ge hk (by omega)), nI_1, of_0 (by omega), Option.bind_some, of_1 (by omega), Option.bind_some, of_2 (by omega), Option.bind_some, q _ (by omega) (by omega), q _ (by omega) (by omega), q _ (by omega) (by omega), lay8 (by omega), Option.bind_some, show 10 + 3 * (k + 1) = 13 + 3 * k by omega, show 11 + 3 * (k + 1) = 14 + 3 * k by omega, show 12 + 3 * (k + 1) = 15 + 3 * k by omega]
      · by_cases i2 : i = 12 + 3 * k
        · rw [i2, hset_self, if_neg (by omega), if_pos (by omega), show 12 + 3 * k + 3 = 15 + 3 * k by omega]
        rw [hset_k i2]
        by_cases i1 : i = 11 + 3 * k
        · rw [i1, hset_self, if_neg (by omega), if_pos (by omega), show 11 + 3 * k + 3 = 14 + 3 * k by omega]
        rw [hset_k i1]
        by_cases i0 : i = 10 + 3 * k
        · rw [i0, hset_self, if_neg (by omega), if_pos (by omega), show 10 + 3 * k + 3 = 13 + 3 * k by omega]
        rw [hset_k i0, z2 i hi]
        by_cases i3 : i = 3
        · rw [if_pos i3, if_pos i3]
        · rw [if_neg i3, if_neg i3]
          by_cases i4 : 10 + 3 * g ≤ i ∧ i < 10 + 3 * k
          · rw [if_pos i4, if_pos (by omega)]
          · rw [if_neg i4, if_neg (by omega)]) (R 3 - 1 - g) fuel g (hset H 64 3 (nI (R 3 - 1))) (by omega) (by unfold fuel; omega) ⟨Nat.le_refl _, fun c j hc => hset_c hc, fun i hi => by
        by_cases i3 : i = 3
        · rw [i3, hset_self, if_pos rfl]
        · rw [hset_k i3, if_neg i3, if_neg (by omega), h i hi]⟩
  exact ⟨l, e1, e3, e2⟩
theorem q_back {H : Hp} {R : Nat → Nat} (h : FU H R) (hA : AC H R) (x1 : Int32) : ∃ (r : Int32) (H1 H2 : Hp), f_X7_back x1 H = some (r, H1) ∧ f_X8_back x1 H1 = some (r, H2) ∧ ∃ Rn, FU H2 Rn ∧ AC H2 Rn := by
  have hr := h.1.1
  have hg3 := h.1.2.2.2.2.1
  have m8 : ∀ H1, Hr H1 64 R → f_X8_back x1 H1 = (if x1 < 0 ∨ nI (R 3) ≤ x1 then some (-1000001, hset H1 60 0 0) else (f_X8_keep (hset H1 60 0 0)).bind fun H3 => (f_X8_of 64 x1 2 H3).bind fun v4 => (ag H3 64 80 3).bind fun v5 => (as H3 64 80 3 (v5 - 1)).bind fun H6 => (f_X8_back_l42 fuel x1 H6).bind fun l13 => (ag l13 64 80 3).bind fun v14 => (f_X8_lay 64 v14 0 0 0 l13).bind fun H15 => some (v4, H15)) := by
    intro H1 h1
    simp only [f_X8_back, pf_e, Option.bind_some]
    rw [isGf8 (by rw [hset_c (by omega)]; exact h1 3 (by omega)) (by omega)]
    simp only [Option.bind_some, bz]
  simp only [f_X7_back, isGf7 h.2.2.2.2.2.2.1, Option.bind_some, bz]
  by_cases g1 : x1 < 0 ∨ nI (R 3) ≤ x1
  · simp only [if_pos g1]
    exact ⟨_, _, _, rfl, by rw [m8 H h.2.1, if_pos g1], act_bad h hA⟩
  simp only [if_neg g1]
  obtain ⟨g, hg, rfl⟩ := gpI (by omega) g1
  obtain ⟨q1, q2, q3⟩ := h.2.2.2.2.2.2.2.2.2 g hg
  rw [ag_n (by omega) (by omega), Option.bind_some, ag_n (by omega) (by omega), Option.bind_some, ag_n (by omega) (by omega), Option.bind_some, q1, q2, q3]
  obtain ⟨a, n, Q, hX⟩ := hA
  obtain ⟨Hk, k1, k2, k3, k4, k5, k6⟩ := keep7 hX.1 hX.2.1 hX.2.2.2.2.1 hX.2.2.1 1 (nI g) (nI (R (10 + 3 * g))) (nI (R (11 + 3 * g))) (nI (R (12 + 3 * g)))
  obtain ⟨Ht, t1, t2, t3, t4, t5⟩ := take7 (H := Hk) (g := g) (c := R 3 - 1) (by omega) (by omega) (by rw [k6 7 4 (by omega), h.2.2.2.2.2.2.1, Nat.sub_add_cancel (by omega)])
  rw [k1, Option.bind_some, t1, Option.bind_some]
  have kf : ∀ c k, c < 7 ∨ (12 < c ∧ c < 32) ∨ 37 < c → Ht c k = H c k := fun c k hc => by rw [t5 c k (by omega) (by omega), k6 c k (by omega)]
  obtain ⟨Hm, m1, m2, m3, m4, m5, m6, m7⟩ := act_k8 h hX kf
  obtain ⟨l, l1, l2, l3⟩ := back8 m6 hg hg3
  have l4 : l 64 3 = nI (R 3 - 1) := by rw [l2 3 (by omega)]; simp
  refine ⟨nI (R (12 + 3 * g)), Ht, hset (hset (hset l 64 (10 + 3 * (R 3 - 1)) 0) 64 (11 + 3 * (R 3 - 1)) 0) 64 (12 + 3 * (R 3 - 1)) 0, rfl, ?_, act_fin (Rn := Bk R g) h.1 hX (Bk_w h.1 hg) (by rw [t5 32 5 (by omega) (by omega), k2]) (by rw [t5 32 6 (by omega) (by omega), k3]) (by rw [t5 33 n (by omega) (by omega), t5 34 n (by omega) (by omega), t5 35 n (by omega) (by omega), t5 36 n (by omega) (by omega), t5 37 n (by omega) (by omega)]; exact k4) (fun c k h1 h2 h3 => by rw [t5 c k (by omega) (by omega), k5 c k h1 h2 h3]) kf ?_ m2 m3 m4 m5 ?_ (fun c k hc => by rw [hset_c hc, hset_c hc, hset_c hc, l3 c k hc]) ?_⟩
  · rw [m8 _ m7, if_neg g1, m1, Option.bind_some, of_2 (by omega), Option.bind_some, m6 _ (by omega), show (3 : Int32) = nI 3 from rfl, ag_n (by omega) (by omega), Option.bind_some, m6 3 (by omega), show (1 : Int32) = nI 1 from rfl, pk_sub (by omega), as_n (by omega) (by omega), Option.bind_some, l1, Option.bind_some, ag_n (by omega) (by omega), Option.bind_some, l4, lay8 (by omega), Option.bind_some]
  · obtain ⟨p0, p1, p2, p3, p4, p5, p6, p7⟩ := h.2.2
    have fr : ∀ c k, 7 ≤ c → c ≤ 9 → ¬ (c = 7 ∧ k = 4) → Ht c k = H c k := fun c k h1 h2 h3 => by rw [t5 c k (by omega) (by omega), k6 c k (by omega)]
    have o : ∀ k, k ≠ 3 → k < 10 ∨ 70 ≤ k → Bk R g k = R k := fun k h1 h2 => by
      by_cases q : k < 10
      · exact Bk_l h1 (by omega) (by omega)
      · exact Bk_h h1 (by omega)
    refine ⟨?_, ?_, ?_, ?_, by rw [t2, Bk_3], fun p hp => ?_, fun b hb => ?_, fun j hj => ?_⟩
    · rw [fr _ _ (by omega) (by omega) (by omega), p0, o 0 (by omega) (by omega)]
    · rw [fr _ _ (by omega) (by omega) (by omega), p1, o 1 (by omega) (by omega)]
    · rw [fr _ _ (by omega) (by omega) (by omega), p2, o 2 (by omega) (by omega)]
    · rw [fr _ _ (by omega) (by omega) (by omega), p3, o 0 (by omega) (by omega)]
    · rw [o 0 (by omega) (by omega)] at hp
      rw [fr _ _ (by omega) (by omega) (by omega), p5 p hp, o _ (by omega) (by omega)]
    · rw [fr _ _ (by omega) (by omega) (by omega), p6 b hb, o _ (by omega) (by omega)]
    · rw [Bk_3] at hj
      by_cases jg : j < g
      · rw [t3 _ _ (by omega) (by omega) jg, t3 _ _ (by omega) (by omega) jg, t3 _ _ (by omega) (by omega) jg, k6 _ _ (by omega), k6 _ _ (by omega), k6 _ _ (by omega), Bk_l (by omega) (by omega) (by omega), Bk_l (by omega) (by omega) (by omega), Bk_l (by omega) (by omega) (by omega)]
        exact p7 j (by omega)
      · rw [t4 _ _ (by omega) (by omega) (by omega) hj, t4 _ _ (by omega) (by omega) (by omega) hj, t4 _ _ (by omega) (by omega) (by omega) hj, k6 _ _ (by omega), k6 _ _ (by omega), k6 _ _ (by omega), Bk_m (by omega) (by omega) (by omega), Bk_m (by omega) (by omega) (by omega), Bk_m (by omega) (by omega) (by omega)]
        exact p7 (j + 1) (by omega)
  · intro k hk
    by_cases i2 : k = 12 + 3 * (R 3 - 1)
    · rw [i2, hset_self]; unfold Bk; rw [if_neg (by omega), if_neg (by omega), if_pos (by omega)]; rfl
    rw [hset_k i2]
    by_cases i1 : k = 11 + 3 * (R 3 - 1)
    · rw [i1, hset_self]; unfold Bk; rw [if_neg (by omega), if_neg (by omega), if_pos (by omega)]; rfl
    rw [hset_k i1]
    by_cases i0 : k = 10 + 3 * (R 3 - 1)
    · rw [i0, hset_self]; unfold Bk; rw [if_neg (by omega), if_neg (by omega), if_pos (by omega)]; rfl
    rw [hset_k i0, l2 k hk]
    unfold Bk
    dsimp only
    by_cases i3 : k = 3
    · rw [if_pos i3, if_pos i3]
    · rw [if_neg i3, if_neg i3]
      by_cases i4 : 10 + 3 * g ≤ k ∧ k < 10 + 3 * (R 3 - 1)
      · rw [if_pos i4, if_pos i4]
      · rw [if_neg i4, if_neg i4, if_neg (by omega)]
  · refine Or.inr (Or.inl ⟨rfl, by rw [Bk_3]; omega, fun i h1 h2 h3 => ?_, g, by rw [Bk_3]; omega, rfl, rfl, rfl, rfl, fun i h1 h2 => Bk_l (by omega) h2 (by omega), fun i h1 h2 => ?_⟩)
    · by_cases q : i < 10
      · exact Bk_l h1 (by omega) (by omega)
      · exact Bk_h h1 (by omega)
    · rw [Bk_3] at h2
      exact Bk_m (by omega) h1 h2
