/-! one, undo, image, restore -/
theorem named7 {H : Hp} {R : Nat → Nat} (h : Rp H 7 R) (hR : Rw R) {nm : Nat} (hnm : nm < 10) : f_X4_giversNamed 7 (nI nm) H = some (nI (bsum 10 (fun a => decide (R (70 + a) = nm)))) := by
  unfold f_X4_giversNamed
  rw [acc0 (f_X4_giversNamed_l4 7 H (nI nm)) 10 (by omega) (fun g => if decide (R (70 + g) = nm) = true then 2 ^ g else 0)
    (fun m z => by simp only [f_X4_giversNamed_l4]; rw [if_pos (by decide)])
    (fun m k hk => by
      have hb := hR.2.2.2.2.2.2.2 k hk
      simp only [f_X4_giversNamed_l4]
      rw [if_neg (show ¬ (10 : Int32) ≤ nI k from nI_ge (b := 10) hk (by omega)), ag_n hk (by omega), Option.bind_some, h.2.2.2.2.2.2.1 k hk, nI_1]
      simp only [nI_eq' (show R (70 + k) < 2 ^ 31 by omega) (show nm < 2 ^ 31 by omega)]
      have e := bsum_or k (fun a => decide (R (70 + a) = nm))
      by_cases g : R (70 + k) = nm
      · rw [if_pos g, shl1 (by omega), orN]
        rw [if_pos (by simp [g])] at e
        exact congrArg (fun z => f_X4_giversNamed_l4 7 H (nI nm) m (nI z) (nI (k + 1))) e
      · rw [if_neg g]
        rw [if_neg (by simp [g]), Nat.or_zero] at e
        exact congrArg (fun z => f_X4_giversNamed_l4 7 H (nI nm) m (nI z) (nI (k + 1))) e)]
  rfl
theorem rename7 (H : Hp) (b : Nat → Bool) (x : Int32) : ∃ H2, f_X4_rename 7 (nI (bsum 10 b)) x H = some H2 ∧ (∀ a, a < 10 → H2 9 a = if b a then x else H 9 a) ∧ ∀ c k, c ≠ 9 → H2 c k = H c k := by
  have hl := bsum_lt 10 b
  obtain ⟨H2, e1, e2, e3⟩ := up0 (fun m k z => f_X4_rename_l2 7 (nI (bsum 10 b)) x m (nI k) z) 10 (by omega) (fun k z => (∀ c j, c ≠ 9 → z c j = H c j) ∧ ∀ a, a < 10 → z 9 a = if a < k ∧ b a = true then x else H 9 a) (fun z => (∀ c j, c ≠ 9 → z c j = H c j) ∧ ∀ a, a < 10 → z 9 a = if b a then x else H 9 a) H
    ⟨fun _ _ _ => rfl, fun a _ => by rw [if_neg (by omega)]⟩
    (fun m z hz => ⟨z, by simp only [f_X4_rename_l2]; rw [if_pos (by decide)], hz.1, fun a ha => by
      rw [hz.2 a ha]
      by_cases g : b a = true
      · rw [if_pos ⟨ha, g⟩, if_pos g]
      · rw [if_neg (fun z => g z.2), if_neg g]⟩)
    (fun m k z hk hz => by
      have h1 : bsum 10 b / 2 ^ k ≤ bsum 10 b := Nat.div_le_self _ _
      simp only [f_X4_rename_l2]
      rw [if_neg (show ¬ (10 : Int32) ≤ nI k from nI_ge (b := 10) hk (by omega)), shrk (by omega) (by omega), and1 (by omega), bsum_bit b hk, nI_1]
      by_cases g : b k = true
      · rw [if_pos g, if_pos (show nI 1 = 1 from rfl), as_n hk (by omega), Option.bind_some, Option.bind_some]
        refine Or.inr ⟨_, rfl, fun c j hc => by rw [hset_c hc, hz.1 c j hc], fun a ha => ?_⟩
        rw [hset_if]
        by_cases hak : a = k
        · rw [if_pos ⟨rfl, hak⟩, if_pos ⟨by omega, by rw [hak]; exact g⟩]
        · rw [if_neg (fun q => hak q.2), hz.2 a ha]
          by_cases q : a < k ∧ b a = true
          · rw [if_pos q, if_pos ⟨by omega, q.2⟩]
          · rw [if_neg q, if_neg (fun w => q ⟨by omega, w.2⟩)]
      · rw [if_neg g, if_neg (by decide), Option.bind_some]
        refine Or.inr ⟨z, rfl, hz.1, fun a ha => ?_⟩
        rw [hz.2 a ha]
        by_cases q : a < k ∧ b a = true
        · rw [if_pos q, if_pos ⟨by omega, q.2⟩]
        · rw [if_neg q, if_neg (fun w => q ⟨by
            by_cases hak : a = k
            · rw [hak] at w; exact absurd w.2 g
            · omega, w.2⟩)])
  exact ⟨H2, by unfold f_X4_rename; rw [show f_X4_rename_l2 7 (nI (bsum 10 b)) x fuel 0 H = some H2 from e1]; rfl, e3, e2⟩
def On (R : Nat → Nat) (o w : Nat) : Nat → Nat := fun k => if 70 ≤ k ∧ k < 80 ∧ R k = o then w else R k
theorem On_o {R : Nat → Nat} {o w k : Nat} (h : k < 70) : On R o w k = R k := if_neg (by omega)
theorem one8 {H : Hp} {R : Nat → Nat} {o w : Nat} (hR : Rw R) (h : Hr H 64 R) (ho : o < 10) : ∃ l, f_X8_one_l84 (nI o) (nI w) fuel 0 H = some l ∧ Hr l 64 (On R o w) ∧ ∀ c k, c ≠ 64 → l c k = H c k := by
  obtain ⟨l, e1, e2, e3⟩ := up0 (fun m k z => f_X8_one_l84 (nI o) (nI w) m (nI k) z) 10 (by omega) (fun k z => (∀ c j, c ≠ 64 → z c j = H c j) ∧ ∀ i, i < 80 → z 64 i = nI (if i < 70 + k then On R o w i else R i)) (fun z => (∀ c j, c ≠ 64 → z c j = H c j) ∧ ∀ i, i < 80 → z 64 i = nI (On R o w i)) H
    ⟨fun _ _ _ => rfl, fun i hi => by
      by_cases g : i < 70 + 0
      · rw [if_pos g, On_o (by omega), h i hi]
      · rw [if_neg g, h i hi]⟩
    (fun m z hz => ⟨z, by simp only [f_X8_one_l84]; rw [if_pos (by decide)], hz.1, fun i hi => by rw [hz.2 i hi, if_pos (by omega)]⟩)
    (fun m k z hk hz => by
      have hb := hR.2.2.2.2.2.2.2 k hk
      refine Or.inr ⟨hset z 64 (70 + k) (nI (On R o w (70 + k))), ?_, fun c j hc => by rw [hset_c hc, hz.1 c j hc], fun i hi => ?_⟩
      · simp only [f_X8_one_l84]
        rw [if_neg (show ¬ (10 : Int32) ≤ nI k from nI_ge (b := 10) hk (by omega)), z70, ag_n (by omega) (by omega), Option.bind_some, hz.2 _ (by omega), if_neg (Nat.lt_irrefl _), nI_1]
        simp only [nI_eq' (show R (70 + k) < 2 ^ 31 by omega) (show o < 2 ^ 31 by omega), Option.bind_some]
        unfold On
        by_cases g : R (70 + k) = o
        · rw [if_pos g, Option.bind_some, as_n (by omega) (by omega), Option.bind_some, if_pos (by omega)]
        · rw [if_neg g, Option.bind_some, as_n (by omega) (by omega), Option.bind_some, if_neg (by omega)]
      · by_cases g : i = 70 + k
        · rw [g, hset_self, if_pos (by omega)]
        · rw [hset_k g, hz.2 i hi]
          by_cases g2 : i < 70 + k
          · rw [if_pos g2, if_pos (by omega)]
          · rw [if_neg g2, if_neg (by omega)])
  exact ⟨l, e1, e3, e2⟩
theorem q_one {H : Hp} {R : Nat → Nat} (h : FU H R) (hA : AC H R) (x1 x2 : Int32) : ∃ (r : Int32) (H1 H2 : Hp), f_X7_one x1 x2 H = some (r, H1) ∧ f_X8_one x1 x2 H1 = some (r, H2) ∧ ∃ Rn, FU H2 Rn ∧ AC H2 Rn := by
  have hr := h.1.1
  have m8 : ∀ H1, Hr H1 64 R → f_X8_one x1 x2 H1 = (if R 0 = 0 then some (-1000002, hset H1 60 0 0) else if x1 < 0 ∨ 9 < x1 then some (-1000001, hset H1 60 0 0) else if x2 < 0 ∨ 9 < x2 then some (-1000001, hset H1 60 0 0) else if x1 = x2 then some (-1000001, hset H1 60 0 0) else (ag (hset H1 60 0 0) 64 80 (70 + x1)).bind fun v5 => (ag (hset H1 60 0 0) 64 80 (70 + x2)).bind fun v6 => if v5 = v6 then some (-1000002, hset H1 60 0 0) else (f_X8_keep (hset H1 60 0 0)).bind fun H7 => (f_X8_one_l84 v5 v6 fuel 0 H7).bind fun l15 => some (v6, l15)) := by
    intro H1 h1
    simp only [f_X8_one, pf_e, Option.bind_some, in_0_9, within_eq]
    rw [isT8 (by rw [hset_c (by omega)]; exact h1 0 (by omega)) (by omega)]
    simp only [Option.bind_some, bz]
  simp only [f_X7_one, two7, st7 h.2.2, Option.bind_some, bz]
  by_cases g0 : R 0 = 0
  · simp only [if_pos g0]
    exact ⟨_, _, _, rfl, by rw [m8 H h.2.1, if_pos g0], act_bad h hA⟩
  simp only [if_neg g0]
  by_cases g1 : x1 < 0 ∨ 9 < x1
  · rw [if_pos (Or.inl g1)]
    exact ⟨_, _, _, rfl, by rw [m8 H h.2.1, if_neg g0, if_pos g1], act_bad h hA⟩
  by_cases g2 : x2 < 0 ∨ 9 < x2
  · rw [if_pos (Or.inr (Or.inl g2))]
    exact ⟨_, _, _, rfl, by rw [m8 H h.2.1, if_neg g0, if_neg g1, if_pos g2], act_bad h hA⟩
  by_cases g3 : x1 = x2
  · rw [if_pos (Or.inr (Or.inr g3))]
    exact ⟨_, _, _, rfl, by rw [m8 H h.2.1, if_neg g0, if_neg g1, if_neg g2, if_pos g3], act_bad h hA⟩
  rw [if_neg (nor3 g1 g2 g3)]
  obtain ⟨u, hu, rfl⟩ := giI g1
  obtain ⟨v, hv, rfl⟩ := giI g2
  have nu := h.1.2.2.2.2.2.2.2 u hu
  have nv := h.1.2.2.2.2.2.2.2 v hv
  rw [ag_n hu (by omega), Option.bind_some, ag_n hv (by omega), Option.bind_some, h.2.2.2.2.2.2.2.2.1 u hu, h.2.2.2.2.2.2.2.2.1 v hv]
  have e8 : ∀ H1, Hr H1 64 R → f_X8_one (nI u) (nI v) H1 = (if nI (R (70 + u)) = nI (R (70 + v)) then some (-1000002, hset H1 60 0 0) else (f_X8_keep (hset H1 60 0 0)).bind fun H7 => (f_X8_one_l84 (nI (R (70 + u))) (nI (R (70 + v))) fuel 0 H7).bind fun l15 => some (nI (R (70 + v)), l15)) := fun H1 h1 => by
    rw [m8 H1 h1, if_neg g0, if_neg g1, if_neg g2, if_neg g3, z70, z70, ag_n (by omega) (by omega), Option.bind_some, ag_n (by omega) (by omega), Option.bind_some, hset_c (by omega), hset_c (by omega), h1 _ (by omega), h1 _ (by omega)]
  by_cases g4 : nI (R (70 + u)) = nI (R (70 + v))
  · rw [if_pos g4]
    exact ⟨_, _, _, rfl, by rw [e8 H h.2.1, if_pos g4], act_bad h hA⟩
  rw [if_neg g4, named7 h.2.2 h.1 nu, Option.bind_some]
  obtain ⟨a, n, Q, hX⟩ := hA
  obtain ⟨Hk, k1, k2, k3, k4, k5, k6⟩ := keep7 hX.1 hX.2.1 hX.2.2.2.2.1 hX.2.2.1 4 (nI (bsum 10 (fun a => decide (R (70 + a) = R (70 + u))))) (nI (R (70 + u))) 0 0
  obtain ⟨Ht, t1, t2, t3⟩ := rename7 Hk (fun a => decide (R (70 + a) = R (70 + u))) (nI (R (70 + v)))
  rw [k1, Option.bind_some, t1, Option.bind_some]
  have kf : ∀ c k, c < 7 ∨ (12 < c ∧ c < 32) ∨ 37 < c → Ht c k = H c k := fun c k hc => by rw [t3 c k (by omega), k6 c k (by omega)]
  obtain ⟨Hm, m1, m2, m3, m4, m5, m6, m7⟩ := act_k8 h hX kf
  obtain ⟨l, l1, l2, l3⟩ := one8 (w := R (70 + v)) h.1 m6 nu
  have on7 : ∀ a, a < 10 → On R (R (70 + u)) (R (70 + v)) (70 + a) = if R (70 + a) = R (70 + u) then R (70 + v) else R (70 + a) := fun a ha => by
    unfold On
    by_cases q : R (70 + a) = R (70 + u)
    · rw [if_pos (by omega), if_pos q]
    · rw [if_neg (by omega), if_neg q]
  refine ⟨nI (R (70 + v)), Ht, l, rfl, ?_, act_fin (Rn := On R (R (70 + u)) (R (70 + v))) h.1 hX ?_ (by rw [t3 32 5 (by omega), k2]) (by rw [t3 32 6 (by omega), k3]) (by rw [t3 33 n (by omega), t3 34 n (by omega), t3 35 n (by omega), t3 36 n (by omega), t3 37 n (by omega)]; exact k4) (fun c k h1 h2 h3 => by rw [t3 c k (by omega), k5 c k h1 h2 h3]) kf ?_ m2 m3 m4 m5 l2 l3 ?_⟩
  · rw [e8 _ m7, if_neg g4, m1, Option.bind_some, l1, Option.bind_some]
  · obtain ⟨r0, r1, r2, r3, r4, r5, r6, r7⟩ := h.1
    refine ⟨by rw [On_o (by omega)]; exact r0, by rw [On_o (by omega)]; exact r1, by rw [On_o (by omega)]; exact r2, by rw [On_o (by omega), On_o (by omega)]; exact r3, by rw [On_o (by omega)]; exact r4, fun p hp => ?_, fun j hj => ?_, fun a ha => ?_⟩
    · rw [On_o (by omega)] at hp
      rw [On_o (by omega)]; exact r5 p hp
    · rw [On_o (by omega)] at hj
      rw [On_o (by omega), On_o (by omega), On_o (by omega), On_o (by omega)]; exact r6 j hj
    · rw [on7 a ha]
      have := r7 a ha
      split <;> omega
  · obtain ⟨p0, p1, p2, p3, p4, p5, p6, p7⟩ := h.2.2
    have fr : ∀ c k, 7 ≤ c → c ≤ 12 → c ≠ 9 → Ht c k = H c k := fun c k h1 h2 h3 => by rw [t3 c k h3, k6 c k (by omega)]
    refine ⟨?_, ?_, ?_, ?_, ?_, fun p hp => ?_, fun a ha => ?_, fun j hj => ?_⟩
    · rw [fr _ _ (by omega) (by omega) (by omega), p0, On_o (by omega)]
    · rw [fr _ _ (by omega) (by omega) (by omega), p1, On_o (by omega)]
    · rw [fr _ _ (by omega) (by omega) (by omega), p2, On_o (by omega)]
    · rw [fr _ _ (by omega) (by omega) (by omega), p3, On_o (by omega)]
    · rw [fr _ _ (by omega) (by omega) (by omega), p4, On_o (by omega)]
    · rw [On_o (by omega)] at hp
      rw [fr _ _ (by omega) (by omega) (by omega), p5 p hp, On_o (by omega)]
    · rw [show 7 + 2 = 9 from rfl, t2 a ha, k6 _ _ (by omega), on7 a ha, p6 a ha]
      by_cases q : R (70 + a) = R (70 + u)
      · simp [q]
      · simp [q]
    · rw [On_o (by omega)] at hj
      have := h.1.2.2.2.2.1
      rw [fr _ _ (by omega) (by omega) (by omega), fr _ _ (by omega) (by omega) (by omega), fr _ _ (by omega) (by omega) (by omega), On_o (by omega), On_o (by omega), On_o (by omega)]
      exact p7 j hj
  · refine Or.inr (Or.inr (Or.inr (Or.inr ⟨rfl, fun i hi => On_o hi, (fun a => decide (R (70 + a) = R (70 + u))), R (70 + u), rfl, rfl, fun a ha => ?_⟩)))
    rw [on7 a ha]
    by_cases q : R (70 + a) = R (70 + u)
    · simp [q]
    · simp [q]
/-- a gift is put back in its place -/
theorem put7m {H : Hp} {g c : Nat} (hc : c < 20) (hgc : g ≤ c) (h4 : H 7 4 = nI c) (x y z : Int32) : ∃ H2, f_X4_putGift 7 (nI g) x y z H = some H2 ∧ H2 7 4 = nI (c + 1) ∧ (H2 10 g = x ∧ H2 11 g = y ∧ H2 12 g = z) ∧ (∀ w j, 10 ≤ w → w ≤ 12 → j < g → H2 w j = H w j) ∧ (∀ w j, 10 ≤ w → w ≤ 12 → g < j → j ≤ c → H2 w j = H w (j - 1)) ∧ ∀ w j, (w < 10 ∨ 12 < w) → (w ≠ 7 ∨ j ≠ 4) → H2 w j = H w j := by
  obtain ⟨Hl, e1, e2, e3, e4⟩ := upx (fun m k z => f_X4_putGift_l6 7 (nI g) m (nI (c - k)) z) (c - g) (fun k z => k ≤ c - g ∧ (∀ w j, (w < 10 ∨ 12 < w) → z w j = H w j) ∧ (∀ w j, 10 ≤ w → w ≤ 12 → j ≤ c - k → z w j = H w j) ∧ ∀ w j, 10 ≤ w → w ≤ 12 → c - k < j → j ≤ c → z w j = H w (j - 1)) (fun z => (∀ w j, (w < 10 ∨ 12 < w) → z w j = H w j) ∧ (∀ w j, 10 ≤ w → w ≤ 12 → j ≤ g → z w j = H w j) ∧ ∀ w j, 10 ≤ w → w ≤ 12 → g < j → j ≤ c → z w j = H w (j - 1))
    (fun m z hz => ⟨z, by
      simp only [f_X4_putGift_l6]
      rw [show c - (c - g) = g by omega, if_pos (nI_le (Nat.le_refl _) (by omega))], hz.2.1, fun w j h1 h2 h3 => hz.2.2.1 w j h1 h2 (by omega), fun w j h1 h2 h3 h4 => hz.2.2.2 w j h1 h2 (by omega) h4⟩)
    (fun m k z hk hz => by
      obtain ⟨z0, z1, z2, z3⟩ := hz
      refine Or.inr ⟨hset (hset (hset z 10 (c - k) (H 10 (c - k - 1))) 11 (c - k) (H 11 (c - k - 1))) 12 (c - k) (H 12 (c - k - 1)), ?_, by omega, fun w j hw => ?_, fun w j h1 h2 h3 => ?_, fun w j h1 h2 h3 h4 => ?_⟩
      · simp only [f_X4_putGift_l6]
        rw [if_neg (nI_ge (by omega) (by omega)), show nI (c - k) - 1 = nI (c - k - 1) from pk_sub (b := 1) (by omega), ag_n (by omega) (by omega), Option.bind_some, as_n (by omega) (by omega), Option.bind_some, ag_n (by omega) (by omega), Option.bind_some, as_n (by omega) (by omega), Option.bind_some, ag_n (by omega) (by omega), Option.bind_some, as_n (by omega) (by omega), Option.bind_some, z2 _ _ (by omega) (by omega) (by omega), hset_c (show 7 + 4 ≠ 7 + 3 by omega), z2 _ _ (by omega) (by omega) (by omega), hset_c (show 7 + 5 ≠ 7 + 4 by omega), hset_c (show 7 + 5 ≠ 7 + 3 by omega), z2 _ _ (by omega) (by omega) (by omega)]
        obtain ⟨u, hu⟩ : ∃ u, c - k = u + 1 := ⟨c - k - 1, by omega⟩
        rw [show c - (k + 1) = u by omega, hu, pk_m1]
      · rw [hset_c (by omega), hset_c (by omega), hset_c (by omega), z1 w j hw]
      · rw [hset_if, if_neg (by omega), hset_if, if_neg (by omega), hset_if, if_neg (by omega), z2 w j h1 h2 (by omega)]
      · by_cases hjk : j = c - k
        · rcases (show w = 10 ∨ w = 11 ∨ w = 12 by omega) with rfl | rfl | rfl
          · rw [hset_c (by omega), hset_c (by omega), hjk, hset_self]
          · rw [hset_c (by omega), hjk, hset_self]
          · rw [hjk, hset_self]
        · rw [hset_if, if_neg (by omega), hset_if, if_neg (by omega), hset_if, if_neg (by omega), z3 w j h1 h2 (by omega) h4]) (c - g) fuel 0 H (by omega) (by unfold fuel; omega) ⟨by omega, fun _ _ _ => rfl, fun _ _ _ _ _ => rfl, fun w j _ _ h3 h4 => by omega⟩
  unfold f_X4_putGift
  rw [h4, show f_X4_putGift_l6 7 (nI g) fuel (nI c) H = some Hl from e1, Option.bind_some, as_n (by omega) (by omega), Option.bind_some, as_n (by omega) (by omega), Option.bind_some, as_n (by omega) (by omega), Option.bind_some]
  simp only [pf_e, Option.bind_some]
  rw [hset_c (show 7 ≠ 7 + 5 by omega), hset_c (show 7 ≠ 7 + 4 by omega), hset_c (show 7 ≠ 7 + 3 by omega), e2 7 4 (by omega), h4, nI_1]
  refine ⟨_, rfl, hset_self, ⟨?_, ?_, ?_⟩, fun w j h1 h2 h3 => ?_, fun w j h1 h2 h3 h4 => ?_, fun w j h1 h2 => ?_⟩
  · rw [hset_c (by omega), hset_c (by omega), hset_c (by omega), hset_self]
  · rw [hset_c (by omega), hset_c (by omega), hset_self]
  · rw [hset_c (by omega), hset_self]
  · rw [hset_c (by omega), hset_if, if_neg (by omega), hset_if, if_neg (by omega), hset_if, if_neg (by omega), e3 w j h1 h2 (by omega)]
  · rw [hset_c (by omega), hset_if, if_neg (by omega), hset_if, if_neg (by omega), hset_if, if_neg (by omega), e4 w j h1 h2 h3 h4]
  · rw [hset_if, if_neg (by omega), hset_c (by omega), hset_c (by omega), hset_c (by omega), e2 w j h1]
