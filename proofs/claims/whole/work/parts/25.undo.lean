/-! undo, image, restore -/
theorem Rp_of {H : Hp} {Q : Nat → Nat} (p0 : H 7 0 = (if Q 0 = 0 then 0 else 1)) (p1 : H 7 1 = nI (Q 1)) (p2 : H 7 2 = nI (Q 2)) (p3 : H 7 3 = nI (Q 0)) (p4 : H 7 4 = nI (Q 3)) (p5 : ∀ p, p < Q 0 → H 8 p = nI (Q (4 + p))) (p6 : ∀ a, a < 10 → H 9 a = nI (Q (70 + a))) (p7 : ∀ j, j < Q 3 → H 10 j = nI (Q (10 + 3 * j)) ∧ H 11 j = nI (Q (11 + 3 * j)) ∧ H 12 j = nI (Q (12 + 3 * j))) : Rp H 7 Q := ⟨p0, p1, p2, p3, p4, p5, p6, p7⟩
theorem rev7 {H : Hp} {R Q : Nat → Nat} {n : Nat} (hn : n < 24) (hR : Rw R) (hQ : Rw Q) (hP : Rp H 7 R) (h5 : H 32 5 = nI n) (rv : Rv (H 33 n) (H 34 n) (H 35 n) (H 36 n) (H 37 n) R Q) : ∃ H2, ((ag H 33 24 (H 32 5)).bind fun v3 =>
  if v3 = 0 then
    (f_X4_takeGift 7 ((H 7 4) - 1) H).bind fun H4 =>
    some H4
  else
  if v3 = 1 then
    (ag H 34 24 (H 32 5)).bind fun v5 =>
    (ag H 35 24 (H 32 5)).bind fun v6 =>
    (ag H 36 24 (H 32 5)).bind fun v7 =>
    (ag H 37 24 (H 32 5)).bind fun v8 =>
    (f_X4_putGift 7 v5 v6 v7 v8 H).bind fun H9 =>
    some H9
  else
  if v3 = 2 then
    (ag H 34 24 (H 32 5)).bind fun v10 =>
    (pf H 7 1 v10).bind fun H11 =>
    some H11
  else
  if v3 = 3 then
    (ag H 34 24 (H 32 5)).bind fun v12 =>
    (ag H 35 24 (H 32 5)).bind fun v13 =>
    (as H 8 6 v12 v13).bind fun H14 =>
    some H14
  else
    (ag H 34 24 (H 32 5)).bind fun v15 =>
    (ag H 35 24 (H 32 5)).bind fun v16 =>
    (f_X4_rename 7 v15 v16 H).bind fun H17 =>
    some H17) = some H2 ∧ Rp H2 7 Q ∧ ∀ c k, c < 7 ∨ 12 < c → H2 c k = H c k := by
  obtain ⟨p0, p1, p2, p3, p4, p5, p6, p7⟩ := hP
  have hg := hR.2.2.2.2.1
  have hg2 := hQ.2.2.2.2.1
  have hr0 := hR.1
  rw [h5, ag_n hn (by omega), ag_n hn (by omega), ag_n hn (by omega), ag_n hn (by omega), ag_n hn (by omega)]
  simp only [Option.bind_some]
  rcases rv with ⟨d, v3, vo, vg⟩ | ⟨d, v3, vo, g, v4, v5, v6, v7, v8, v9, v10⟩ | ⟨d, v1, vo⟩ | ⟨d, p, v1, v2, v3, vo⟩ | ⟨d, vo, b, nm, v1, v2, v3⟩
  · rw [d, if_pos rfl, p4, show nI (R 3) - 1 = nI (R 3 - 1) from pk_sub (b := 1) (by omega)]
    obtain ⟨Ht, t1, t2, t3, t4, t5⟩ := take7 (H := H) (g := R 3 - 1) (c := R 3 - 1) (by omega) (by omega) (by rw [p4, Nat.sub_add_cancel (by omega)])
    rw [t1, Option.bind_some]
    refine ⟨Ht, rfl, Rp_of ?_ ?_ ?_ ?_ ?_ (fun p hp => ?_) (fun a ha => ?_) (fun j hj => ?_), fun c k hc => t5 c k (by omega) (by omega)⟩
    · rw [t5 _ _ (by omega) (by omega), p0, vo 0 (by omega) (by omega) (by omega)]
    · rw [t5 _ _ (by omega) (by omega), p1, vo 1 (by omega) (by omega) (by omega)]
    · rw [t5 _ _ (by omega) (by omega), p2, vo 2 (by omega) (by omega) (by omega)]
    · rw [t5 _ _ (by omega) (by omega), p3, vo 0 (by omega) (by omega) (by omega)]
    · rw [t2]; congr 1; omega
    · have e0 := vo 0 (by omega) (by omega) (by omega)
      rw [t5 _ _ (by omega) (by omega), ← vo (4 + p) (by omega) (by omega) (by omega)]
      exact p5 p (by omega)
    · rw [t5 _ _ (by omega) (by omega), ← vo (70 + a) (by omega) (by omega) (by omega)]
      exact p6 a ha
    · rw [t3 _ _ (by omega) (by omega) (by omega), t3 _ _ (by omega) (by omega) (by omega), t3 _ _ (by omega) (by omega) (by omega), ← vg _ (by omega) (by omega), ← vg _ (by omega) (by omega), ← vg _ (by omega) (by omega)]
      exact p7 j (by omega)
  · rw [d, if_neg (by decide), if_pos rfl, v5, v6, v7, v8]
    obtain ⟨Ht, t1, t2, t3, t4, t5, t6⟩ := put7m (H := H) (g := g) (c := R 3) (by omega) v4 p4 (nI (Q (10 + 3 * g))) (nI (Q (11 + 3 * g))) (nI (Q (12 + 3 * g)))
    rw [t1, Option.bind_some]
    refine ⟨Ht, rfl, Rp_of ?_ ?_ ?_ ?_ ?_ (fun p hp => ?_) (fun a ha => ?_) (fun j hj => ?_), fun c k hc => t6 c k (by omega) (by omega)⟩
    · rw [t6 _ _ (by omega) (by omega), p0, vo 0 (by omega) (by omega) (by omega)]
    · rw [t6 _ _ (by omega) (by omega), p1, vo 1 (by omega) (by omega) (by omega)]
    · rw [t6 _ _ (by omega) (by omega), p2, vo 2 (by omega) (by omega) (by omega)]
    · rw [t6 _ _ (by omega) (by omega), p3, vo 0 (by omega) (by omega) (by omega)]
    · rw [t2, v3]
    · have e0 := vo 0 (by omega) (by omega) (by omega)
      rw [t6 _ _ (by omega) (by omega), ← vo (4 + p) (by omega) (by omega) (by omega)]
      exact p5 p (by omega)
    · rw [t6 _ _ (by omega) (by omega), ← vo (70 + a) (by omega) (by omega) (by omega)]
      exact p6 a ha
    · rcases Nat.lt_trichotomy j g with q | q | q
      · rw [t4 _ _ (by omega) (by omega) q, t4 _ _ (by omega) (by omega) q, t4 _ _ (by omega) (by omega) q, ← v9 _ (by omega) (by omega), ← v9 _ (by omega) (by omega), ← v9 _ (by omega) (by omega)]
        exact p7 j (by omega)
      · rw [q]; exact t3
      · have e := p7 (j - 1) (by omega)
        rw [v10 _ (by omega) (by omega), v10 _ (by omega) (by omega), v10 _ (by omega) (by omega), show 10 + 3 * (j - 1) + 3 = 10 + 3 * j by omega, show 11 + 3 * (j - 1) + 3 = 11 + 3 * j by omega, show 12 + 3 * (j - 1) + 3 = 12 + 3 * j by omega] at e
        rw [t5 _ _ (by omega) (by omega) q (by omega), t5 _ _ (by omega) (by omega) q (by omega), t5 _ _ (by omega) (by omega) q (by omega)]
        exact e
  · rw [d, if_neg (by decide), if_neg (by decide), if_pos rfl, v1]
    simp only [pf_e, Option.bind_some]
    refine ⟨_, rfl, Rp_of ?_ hset_self ?_ ?_ ?_ (fun p hp => ?_) (fun a ha => ?_) (fun j hj => ?_), fun c k hc => hset_c (by omega)⟩
    · rw [hset_k (by omega), p0, vo 0 (by omega) (by omega)]
    · rw [hset_k (by omega), p2, vo 2 (by omega) (by omega)]
    · rw [hset_k (by omega), p3, vo 0 (by omega) (by omega)]
    · rw [hset_k (by omega), p4, vo 3 (by omega) (by omega)]
    · have e0 := vo 0 (by omega) (by omega)
      rw [hset_c (by omega), ← vo (4 + p) (by omega) (by omega)]
      exact p5 p (by omega)
    · rw [hset_c (by omega), ← vo (70 + a) (by omega) (by omega)]
      exact p6 a ha
    · have e3 := vo 3 (by omega) (by omega)
      rw [hset_c (by omega), hset_c (by omega), hset_c (by omega), ← vo _ (by omega) (by omega), ← vo _ (by omega) (by omega), ← vo _ (by omega) (by omega)]
      exact p7 j (by omega)
  · rw [d, if_neg (by decide), if_neg (by decide), if_neg (by decide), if_pos rfl, v2, v3, as_n (by omega) (by omega), Option.bind_some]
    refine ⟨_, rfl, Rp_of ?_ ?_ ?_ ?_ ?_ (fun q hq => ?_) (fun a ha => ?_) (fun j hj => ?_), fun c k hc => hset_c (by omega)⟩
    · rw [hset_c (by omega), p0, vo 0 (by omega) (by omega)]
    · rw [hset_c (by omega), p1, vo 1 (by omega) (by omega)]
    · rw [hset_c (by omega), p2, vo 2 (by omega) (by omega)]
    · rw [hset_c (by omega), p3, vo 0 (by omega) (by omega)]
    · rw [hset_c (by omega), p4, vo 3 (by omega) (by omega)]
    · have e0 := vo 0 (by omega) (by omega)
      by_cases e : q = p
      · rw [e, hset_self]
      · rw [hset_k e, ← vo (4 + q) (by omega) (by omega)]
        exact p5 q (by omega)
    · rw [hset_c (by omega), ← vo (70 + a) (by omega) (by omega)]
      exact p6 a ha
    · have e3 := vo 3 (by omega) (by omega)
      rw [hset_c (by omega), hset_c (by omega), hset_c (by omega), ← vo _ (by omega) (by omega), ← vo _ (by omega) (by omega), ← vo _ (by omega) (by omega)]
      exact p7 j (by omega)
  · rw [d, if_neg (by decide), if_neg (by decide), if_neg (by decide), if_neg (by decide), v1, v2]
    obtain ⟨Ht, t1, t2, t3⟩ := rename7 H b (nI nm)
    rw [t1, Option.bind_some]
    refine ⟨Ht, rfl, Rp_of ?_ ?_ ?_ ?_ ?_ (fun q hq => ?_) (fun a ha => ?_) (fun j hj => ?_), fun c k hc => t3 c k (by omega)⟩
    · rw [t3 _ _ (by omega), p0, vo 0 (by omega)]
    · rw [t3 _ _ (by omega), p1, vo 1 (by omega)]
    · rw [t3 _ _ (by omega), p2, vo 2 (by omega)]
    · rw [t3 _ _ (by omega), p3, vo 0 (by omega)]
    · rw [t3 _ _ (by omega), p4, vo 3 (by omega)]
    · have e0 := vo 0 (by omega)
      rw [t3 _ _ (by omega), ← vo (4 + q) (by omega)]
      exact p5 q (by omega)
    · rw [t2 a ha, v3 a ha]
      by_cases q : b a = true
      · rw [if_pos q, if_pos q]
      · rw [if_neg q, if_neg q]; exact p6 a ha
    · have e3 := vo 3 (by omega)
      rw [t3 _ _ (by omega), t3 _ _ (by omega), t3 _ _ (by omega), ← vo _ (by omega), ← vo _ (by omega), ← vo _ (by omega)]
      exact p7 j (by omega)
theorem copy64 {H : Hp} {Q : Nat → Nat} {a : Nat} (ha : a < 24) (h9 : H 60 9 = nI a) (hw : ∀ k, k < 80 → H 67 (80 * a + k) = nI (Q k)) : ∃ l, f_X8_undo_l27 fuel 0 H = some l ∧ Hr l 64 Q ∧ ∀ c k, c ≠ 64 → l c k = H c k := by
  obtain ⟨l, e1, e2, e3⟩ := up0 (fun m k z => f_X8_undo_l27 m (nI k) z) 80 (by omega) (fun k z => (∀ c j, c ≠ 64 → z c j = H c j) ∧ ∀ i, i < k → z 64 i = nI (Q i)) (fun z => (∀ c j, c ≠ 64 → z c j = H c j) ∧ ∀ i, i < 80 → z 64 i = nI (Q i)) H
    ⟨fun _ _ _ => rfl, fun i hi => absurd hi (by omega)⟩
    (fun m z hz => ⟨z, by simp only [f_X8_undo_l27]; rw [if_pos (by decide)], hz⟩)
    (fun m k z hk hz => Or.inr ⟨hset z 64 k (nI (Q k)), by
      simp only [f_X8_undo_l27]
      rw [if_neg (show ¬ (80 : Int32) ≤ nI k from nI_ge (b := 80) hk (by omega)), hz.1 60 9 (by omega), h9, y80, ag_n (by omega) (by omega), Option.bind_some, hz.1 67 _ (by omega), hw k hk, as_n hk (by omega), Option.bind_some, nI_1],
      fun c j hc => by rw [hset_c hc, hz.1 c j hc],
      fun i hi => by
        by_cases g : i = k
        · rw [g, hset_self]
        · rw [hset_k g, hz.2 i (by omega)]⟩)
  exact ⟨l, e1, e3, e2⟩
theorem q_undo {H : Hp} {R : Nat → Nat} (h : FU H R) (hA : AC H R) : ∃ (r : Int32) (H1 H2 : Hp), f_X7_undo H = some (r, H1) ∧ f_X8_undo H1 = some (r, H2) ∧ ∃ Rn, FU H2 Rn ∧ AC H2 Rn := by
  have hA' := hA
  obtain ⟨a, n, Q, h1, h2, h3, h4, h5, h6, h7⟩ := hA
  unfold f_X7_undo
  rw [h3]
  have ea : (nI a = 0) = (a = 0) := nI_eq' (b := 0) (by omega) (by omega)
  simp only [ea]
  by_cases g : a = 0
  · rw [if_pos g]
    refine ⟨_, _, _, rfl, ?_, act_bad h hA'⟩
    simp only [f_X8_undo, pf_e, Option.bind_some]
    rw [hset_k (by omega), h4, if_pos (by rw [g]; rfl)]
  rw [if_neg g]
  obtain ⟨w1, w2, w3⟩ := h7 (a - 1) (by omega)
  rw [Nat.sub_add_cancel (by omega), h6] at w3
  have epl : pl n a (a - 1) = (n + 23) % 24 := by unfold pl; congr 1; omega
  rw [epl] at w3
  have hn' : (n + 23) % 24 < 24 := Nat.mod_lt _ (by omega)
  have en : (if nI n = 0 then (23 : Int32) else nI n - 1) = nI ((n + 23) % 24) := by
    have : (nI n = 0) = (n = 0) := nI_eq' (b := 0) (by omega) (by omega)
    simp only [this]
    by_cases q : n = 0
    · rw [if_pos q, q]; rfl
    · rw [if_neg q, show nI n - 1 = nI (n - 1) from pk_sub (b := 1) (by omega)]
      congr 1
      omega
  have hPx : Rp (hset (hset H 32 5 (nI ((n + 23) % 24))) 32 6 (nI (a - 1))) 7 R := h.2.2.fr (fun c k q1 q2 => by rw [hset_c (by omega), hset_c (by omega)])
  obtain ⟨Hr', r1, r2, r3⟩ := rev7 (H := hset (hset H 32 5 (nI ((n + 23) % 24))) 32 6 (nI (a - 1))) hn' h.1 w1 hPx (by rw [hset_k (by omega), hset_self]) (by
    rw [hset_c (by omega), hset_c (by omega), hset_c (by omega), hset_c (by omega), hset_c (by omega), hset_c (by omega), hset_c (by omega), hset_c (by omega), hset_c (by omega), hset_c (by omega)]
    exact w3)
  have e7 : f_X0_revertLatest H = some Hr' := by
    simp only [f_X0_revertLatest, pf_e, Option.bind_some]
    rw [h5, en, hset_k (show 6 ≠ 5 by omega), h3, show nI a - 1 = nI (a - 1) from pk_sub (b := 1) (by omega)]
    exact r1
  rw [e7, Option.bind_some]
  have f6 : Hr' 32 6 = nI (a - 1) := by rw [r3 32 6 (by omega), hset_self]
  have f5 : Hr' 32 5 = nI ((n + 23) % 24) := by rw [r3 32 5 (by omega), hset_k (by omega), hset_self]
  have fo : ∀ c k, (c < 7 ∨ 12 < c) → c ≠ 32 → Hr' c k = H c k := fun c k q1 q2 => by rw [r3 c k q1, hset_c q2, hset_c q2]
  obtain ⟨l, l1, l2, l3⟩ := copy64 (H := hset (hset Hr' 60 0 0) 60 9 (nI (a - 1))) (Q := Q (a - 1)) (a := a - 1) (by omega) hset_self (fun k hk => by rw [hset_c (by omega), hset_c (by omega), fo 67 _ (by omega) (by omega), w2 k hk])
  refine ⟨nI (a - 1), Hr', l, by rw [f6], ?_, Q (a - 1), ⟨w1, l2, r2.fr (fun c k q1 q2 => by rw [l3 c k (by omega), hset_c (by omega), hset_c (by omega)])⟩, a - 1, (n + 23) % 24, Q, by omega, hn', by rw [l3 _ _ (by omega), hset_c (by omega), hset_c (by omega), f6], by rw [l3 _ _ (by omega), hset_self], by rw [l3 _ _ (by omega), hset_c (by omega), hset_c (by omega), f5], rfl, fun i hi => ?_⟩
  · simp only [f_X8_undo, pf_e, Option.bind_some]
    rw [hset_k (show 9 ≠ 0 by omega), fo 60 9 (by omega) (by omega), h4, if_neg (by rw [ea]; exact g), show nI a - 1 = nI (a - 1) from pk_sub (b := 1) (by omega), l1, Option.bind_some, l3 60 9 (by omega), hset_self]
  · obtain ⟨u1, u2, u3⟩ := h7 i (by omega)
    have ep : pl ((n + 23) % 24) (a - 1) i = pl n a i := by
      unfold pl
      by_cases q : n = 0
      · rw [q]; omega
      · rw [show (n + 23) % 24 = n - 1 by omega]; omega
    refine ⟨u1, fun k hk => by rw [l3 _ _ (by omega), hset_c (by omega), hset_c (by omega), fo _ _ (by omega) (by omega), u2 k hk], ?_⟩
    rw [ep, l3 33 _ (by omega), l3 34 _ (by omega), l3 35 _ (by omega), l3 36 _ (by omega), l3 37 _ (by omega), hset_c (show 33 ≠ 60 by omega), hset_c (show 34 ≠ 60 by omega), hset_c (show 35 ≠ 60 by omega), hset_c (show 36 ≠ 60 by omega), hset_c (show 37 ≠ 60 by omega), hset_c (show 33 ≠ 60 by omega), hset_c (show 34 ≠ 60 by omega), hset_c (show 35 ≠ 60 by omega), hset_c (show 36 ≠ 60 by omega), hset_c (show 37 ≠ 60 by omega), fo 33 _ (by omega) (by omega), fo 34 _ (by omega) (by omega), fo 35 _ (by omega) (by omega), fo 36 _ (by omega) (by omega), fo 37 _ (by omega) (by omega)]
    exact u3
theorem ac_6 (H : Hp) (c0 c1 : Nat) : ac H c0 6 0 c1 6 0 6 = some (fillH H c1 0 6 (fun t => H c0 (0 + t))) := by
  rw [← hcpy_fill]; unfold ac; rw [if_pos (by decide)]; rfl
theorem ac_10 (H : Hp) (c0 c1 : Nat) : ac H c0 10 0 c1 10 0 10 = some (fillH H c1 0 10 (fun t => H c0 (0 + t))) := by
  rw [← hcpy_fill]; unfold ac; rw [if_pos (by decide)]; rfl
theorem ac_20 (H : Hp) (c0 c1 : Nat) : ac H c0 20 0 c1 20 0 20 = some (fillH H c1 0 20 (fun t => H c0 (0 + t))) := by
  rw [← hcpy_fill]; unfold ac; rw [if_pos (by decide)]; rfl
theorem like7 {H : Hp} {R : Nat → Nat} {b o : Nat} (hbo : b + 5 < o ∨ o + 5 < b) (hR : Rw R) (h : Rp H o R) : ∃ H2, f_X4_becomeLike b o H = some H2 ∧ Rp H2 b R ∧ ∀ c k, c < b ∨ b + 5 < c → H2 c k = H c k := by
  obtain ⟨p0, p1, p2, p3, p4, p5, p6, p7⟩ := h
  have hr := hR.1
  have hg := hR.2.2.2.2.1
  unfold f_X4_becomeLike
  have z01 : pz H b 0 (H o 0) = some (hset H b 0 (H o 0)) := by
    unfold pz
    rw [if_pos]
    rw [p0]
    split
    · exact Or.inl rfl
    · exact Or.inr rfl
  rw [z01, Option.bind_some]
  simp only [pf_e, Option.bind_some]
  rw [ac_6, Option.bind_some, ac_10, Option.bind_some, ac_20, Option.bind_some, ac_20, Option.bind_some, ac_20, Option.bind_some]
  refine ⟨_, rfl, ⟨?_, ?_, ?_, ?_, ?_, fun p hp => ?_, fun a ha => ?_, fun j hj => ⟨?_, ?_, ?_⟩⟩, fun c k hc => ?_⟩
  · rw [fill_c (by omega), fill_c (by omega), fill_c (by omega), fill_c (by omega), fill_c (by omega), hset_k (by omega), hset_k (by omega), hset_k (by omega), hset_k (by omega), hset_self, p0]
  · rw [fill_c (by omega), fill_c (by omega), fill_c (by omega), fill_c (by omega), fill_c (by omega), hset_k (by omega), hset_k (by omega), hset_k (by omega), hset_self, hset_c (by omega), p1]
  · rw [fill_c (by omega), fill_c (by omega), fill_c (by omega), fill_c (by omega), fill_c (by omega), hset_k (by omega), hset_k (by omega), hset_self, hset_c (by omega), hset_c (by omega), p2]
  · rw [fill_c (by omega), fill_c (by omega), fill_c (by omega), fill_c (by omega), fill_c (by omega), hset_k (by omega), hset_self, hset_c (by omega), hset_c (by omega), hset_c (by omega), p3]
  · rw [fill_c (by omega), fill_c (by omega), fill_c (by omega), fill_c (by omega), fill_c (by omega), hset_self, hset_c (by omega), hset_c (by omega), hset_c (by omega), hset_c (by omega), p4]
  · rw [fill_c (by omega), fill_c (by omega), fill_c (by omega), fill_c (by omega), fill_in (by omega) (by omega), Nat.sub_zero, Nat.zero_add, hset_c (by omega), hset_c (by omega), hset_c (by omega), hset_c (by omega), hset_c (by omega), p5 p hp]
  · rw [fill_c (by omega), fill_c (by omega), fill_c (by omega), fill_in (by omega) (by omega), Nat.sub_zero, Nat.zero_add, fill_c (by omega), hset_c (by omega), hset_c (by omega), hset_c (by omega), hset_c (by omega), hset_c (by omega), p6 a ha]
  · rw [fill_c (by omega), fill_c (by omega), fill_in (by omega) (by omega), Nat.sub_zero, Nat.zero_add, fill_c (by omega), fill_c (by omega), hset_c (by omega), hset_c (by omega), hset_c (by omega), hset_c (by omega), hset_c (by omega), (p7 j hj).1]
  · rw [fill_c (by omega), fill_in (by omega) (by omega), Nat.sub_zero, Nat.zero_add, fill_c (by omega), fill_c (by omega), fill_c (by omega), hset_c (by omega), hset_c (by omega), hset_c (by omega), hset_c (by omega), hset_c (by omega), (p7 j hj).2.1]
  · rw [fill_in (by omega) (by omega), Nat.sub_zero, Nat.zero_add, fill_c (by omega), fill_c (by omega), fill_c (by omega), fill_c (by omega), hset_c (by omega), hset_c (by omega), hset_c (by omega), hset_c (by omega), hset_c (by omega), (p7 j hj).2.2]
  · rw [fill_c (by omega), fill_c (by omega), fill_c (by omega), fill_c (by omega), fill_c (by omega), hset_c (by omega), hset_c (by omega), hset_c (by omega), hset_c (by omega), hset_c (by omega)]
def Jimg (H : Hp) : Prop := ∀ k, k < 2 → (H (20 + 6 * k) 0 = 0 ∧ H 75 k = 0) ∨ (H 75 k = 1 ∧ ∃ R, Rw R ∧ 0 < R 0 ∧ Rp H (20 + 6 * k) R ∧ ∀ i, i < 80 → H 76 (80 * k + i) = nI (R i))
theorem Jimg.fr {H H2 : Hp} (h : Jimg H) (f : ∀ c k, (20 ≤ c ∧ c ≤ 31) ∨ c = 75 ∨ c = 76 → H2 c k = H c k) : Jimg H2 := by
  intro k hk
  rcases h k hk with ⟨a1, a2⟩ | ⟨a1, R, a2, a3, a4, a5⟩
  · exact Or.inl ⟨by rw [f _ _ (by omega), a1], by rw [f _ _ (by omega), a2]⟩
  · exact Or.inr ⟨by rw [f _ _ (by omega), a1], R, a2, a3, a4.fr (fun c j h1 h2 => f c j (by omega)), fun i hi => by rw [f _ _ (by omega), a5 i hi]⟩
theorem q_image {H : Hp} {R : Nat → Nat} (h : FU H R) (hI : Jimg H) (x1 : Int32) : ∃ (r : Int32) (H1 H2 : Hp), f_X7_image x1 H = some (r, H1) ∧ f_X8_image x1 H1 = some (r, H2) ∧ Jimg H2 := by
  have hr := h.1.1
  have m8 : ∀ H1, Hr H1 64 R → f_X8_image x1 H1 = (if x1 < 0 ∨ 1 < x1 then some (-1000001, hset H1 60 0 0) else if R 0 = 0 then some (-1000002, hset H1 60 0 0) else (f_X8_image_l30 x1 fuel 0 (hset H1 60 0 0)).bind fun l7 => (as l7 75 2 x1 1).bind fun H8 => some (1, H8)) := by
    intro H1 h1
    simp only [f_X8_image, pf_e, Option.bind_some, in_0_1, within_eq]
    rw [isT8 (by rw [hset_c (by omega)]; exact h1 0 (by omega)) (by omega)]
    simp only [Option.bind_some, bz]
  have bad : Jimg (hset H 60 0 0) := hI.fr (fun c k hc => hset_c (by omega))
  simp only [f_X7_image, within_eq, st7 h.2.2, Option.bind_some, bz]
  by_cases g1 : x1 < 0 ∨ 1 < x1
  · simp only [if_pos g1]
    exact ⟨_, _, _, rfl, by rw [m8 H h.2.1, if_pos g1], bad⟩
  by_cases g0 : R 0 = 0
  · simp only [if_neg g1, if_pos g0]
    exact ⟨_, _, _, rfl, by rw [m8 H h.2.1, if_neg g1, if_pos g0], bad⟩
  simp only [if_neg g1, if_neg g0]
  obtain ⟨w, -, hw, rfl⟩ := i_rng x1 0 1 (by omega) (by omega) g1
  obtain ⟨Hb, b1, b2, b3⟩ := like7 (H := H) (b := 20 + 6 * w) (o := 7) (by omega) h.1 h.2.2
  have hF64 : Hr Hb 64 R := h.2.1.fr (fun k _ => b3 64 k (by omega))
  obtain ⟨l, e1, e2, e3⟩ := up0 (fun m k z => f_X8_image_l30 (nI w) m (nI k) z) 80 (by omega) (fun k z => (∀ c j, c ≠ 76 ∨ j < 80 * w ∨ 80 * w + 80 ≤ j → z c j = hset Hb 60 0 0 c j) ∧ ∀ i, i < k → z 76 (80 * w + i) = nI (R i)) (fun z => (∀ c j, c ≠ 76 ∨ j < 80 * w ∨ 80 * w + 80 ≤ j → z c j = hset Hb 60 0 0 c j) ∧ ∀ i, i < 80 → z 76 (80 * w + i) = nI (R i)) (hset Hb 60 0 0)
    ⟨fun _ _ _ => rfl, fun i hi => absurd hi (by omega)⟩
    (fun m z hz => ⟨z, by simp only [f_X8_image_l30]; rw [if_pos (by decide)], hz⟩)
    (fun m k z hk hz => Or.inr ⟨hset z 76 (80 * w + k) (nI (R k)), by
      simp only [f_X8_image_l30]
      rw [if_neg (show ¬ (80 : Int32) ≤ nI k from nI_ge (b := 80) hk (by omega)), ag_n hk (by omega), Option.bind_some, hz.1 64 k (by omega), hset_c (by omega), hF64 k hk, y80, as_n (by omega) (by omega), Option.bind_some, nI_1],
      fun c j hc => by rw [hset_if, if_neg (by omega), hz.1 c j hc],
      fun i hi => by
        rw [hset_if]
        by_cases g : i = k
        · rw [if_pos (by omega), g]
        · rw [if_neg (by omega), hz.2 i (by omega)]⟩)
  have e8 : f_X8_image (nI w) Hb = some (1, hset l 75 w 1) := by
    rw [m8 Hb hF64, if_neg g1, if_neg g0, show f_X8_image_l30 (nI w) fuel 0 (hset Hb 60 0 0) = some l from e1, Option.bind_some, as_n (by omega) (by omega), Option.bind_some]
  have hJ : Jimg (hset l 75 w 1) := by
    intro k hk
    by_cases g : k = w
    · subst g
      refine Or.inr ⟨hset_self, R, h.1, by omega, b2.fr (fun c j h1 h2 => by rw [hset_c (by omega), e2 c j (by omega), hset_c (by omega)]), fun i hi => by rw [hset_c (by omega), e3 i hi]⟩
    · have fr : ∀ c j, (20 + 6 * k ≤ c ∧ c ≤ 25 + 6 * k) ∨ (c = 75 ∧ j = k) ∨ (c = 76 ∧ 80 * k ≤ j ∧ j < 80 * k + 80) → hset l 75 w 1 c j = H c j := fun c j hc => by
        rw [hset_if, if_neg (by omega), e2 c j (by omega), hset_c (by omega), b3 c j (by omega)]
      rcases hI k hk with ⟨a1, a2⟩ | ⟨a1, R', a2, a3, a4, a5⟩
      · exact Or.inl ⟨by rw [fr _ _ (by omega), a1], by rw [fr _ _ (by omega), a2]⟩
      · exact Or.inr ⟨by rw [fr _ _ (by omega), a1], R', a2, a3, a4.fr (fun c j h1 h2 => fr c j (by omega)), fun i hi => by rw [fr _ _ (by omega), a5 i hi]⟩
  rcases (show w = 0 ∨ w = 1 by omega) with rfl | rfl
  · rw [if_pos (show nI 0 = 0 from rfl), show f_X4_becomeLike 20 7 H = some Hb from b1, Option.bind_some]
    exact ⟨_, _, _, rfl, e8, hJ⟩
  · rw [if_neg (show ¬ nI 1 = 0 by decide), if_pos (show nI 1 = 1 from rfl), show f_X4_becomeLike 26 7 H = some Hb from b1, Option.bind_some]
    exact ⟨_, _, _, rfl, e8, hJ⟩
theorem q_restore {H : Hp} {R : Nat → Nat} (h : FU H R) (hA : AC H R) (hI : Jimg H) (x1 : Int32) : ∃ (r : Int32) (H1 H2 : Hp), f_X7_restore x1 H = some (r, H1) ∧ f_X8_restore x1 H1 = some (r, H2) ∧ ∃ Rn, FU H2 Rn ∧ AC H2 Rn := by
  have m8 : ∀ H1, f_X8_restore x1 H1 = (if x1 < 0 ∨ 1 < x1 then some (-1000001, hset H1 60 0 0) else (ag (hset H1 60 0 0) 75 2 x1).bind fun v3 => if v3 = 0 then some (-1000002, hset H1 60 0 0) else (f_X8_restore_l32 x1 fuel 0 (hset H1 60 0 0)).bind fun l7 => some (1, hset l7 60 9 0)) := by
    intro H1
    simp only [f_X8_restore, pf_e, Option.bind_some, in_0_1, within_eq, bz]
  simp only [f_X7_restore, within_eq, Option.bind_some, bz]
  by_cases g1 : x1 < 0 ∨ 1 < x1
  · simp only [if_pos g1]
    exact ⟨_, _, _, rfl, by rw [m8 H, if_pos g1], act_bad h hA⟩
  simp only [if_neg g1]
  obtain ⟨w, -, hw, rfl⟩ := i_rng x1 0 1 (by omega) (by omega) g1
  have main : (H (20 + 6 * w) 0 = 0 → ∃ H2, f_X8_restore (nI w) H = some (-1000002, H2) ∧ ∃ Rn, FU H2 Rn ∧ AC H2 Rn) ∧ (¬ H (20 + 6 * w) 0 = 0 → ∃ H1 H2, f_X4_becomeLike 7 (20 + 6 * w) H = some H1 ∧ f_X8_restore (nI w) (hset H1 32 6 0) = some (1, H2) ∧ ∃ Rn, FU H2 Rn ∧ AC H2 Rn) := by
    rcases hI w (by omega) with ⟨a1, a2⟩ | ⟨a1, Q, a2, a3, a4, a5⟩
    · refine ⟨fun _ => ⟨hset H 60 0 0, ?_, act_bad h hA⟩, fun q => absurd a1 q⟩
      rw [m8 H, if_neg g1, ag_n (by omega) (by omega), Option.bind_some, hset_c (by omega), a2, if_pos rfl]
    · have ne : ¬ H (20 + 6 * w) 0 = 0 := by
        rw [a4.1, if_neg (by omega)]; decide
      refine ⟨fun q => absurd q ne, fun _ => ?_⟩
      obtain ⟨Hb, b1, b2, b3⟩ := like7 (H := H) (b := 7) (o := 20 + 6 * w) (by omega) a2 a4
      obtain ⟨l, e1, e2, e3⟩ := up0 (fun m k z => f_X8_restore_l32 (nI w) m (nI k) z) 80 (by omega) (fun k z => (∀ c j, c ≠ 64 → z c j = hset (hset Hb 32 6 0) 60 0 0 c j) ∧ ∀ i, i < k → z 64 i = nI (Q i)) (fun z => (∀ c j, c ≠ 64 → z c j = hset (hset Hb 32 6 0) 60 0 0 c j) ∧ ∀ i, i < 80 → z 64 i = nI (Q i)) (hset (hset Hb 32 6 0) 60 0 0)
        ⟨fun _ _ _ => rfl, fun i hi => absurd hi (by omega)⟩
        (fun m z hz => ⟨z, by simp only [f_X8_restore_l32]; rw [if_pos (by decide)], hz⟩)
        (fun m k z hk hz => Or.inr ⟨hset z 64 k (nI (Q k)), by
          simp only [f_X8_restore_l32]
          rw [if_neg (show ¬ (80 : Int32) ≤ nI k from nI_ge (b := 80) hk (by omega)), y80, ag_n (by omega) (by omega), Option.bind_some, hz.1 76 _ (by omega), hset_c (by omega), hset_c (by omega), b3 76 _ (by omega), a5 k hk, as_n hk (by omega), Option.bind_some, nI_1],
          fun c j hc => by rw [hset_c hc, hz.1 c j hc],
          fun i hi => by
            by_cases g : i = k
            · rw [g, hset_self]
            · rw [hset_k g, hz.2 i (by omega)]⟩)
      refine ⟨Hb, hset l 60 9 0, b1, ?_, Q, ⟨a2, fun k hk => by rw [hset_c (by omega), e3 k hk], b2.fr (fun c k h1 h2 => by rw [hset_c (by omega), e2 c k (by omega), hset_c (by omega), hset_c (by omega)])⟩, ?_⟩
      · rw [m8, if_neg g1, ag_n (by omega) (by omega), Option.bind_some, hset_c (by omega), hset_c (by omega), b3 75 w (by omega), a1, if_neg (by decide), show f_X8_restore_l32 (nI w) fuel 0 (hset (hset Hb 32 6 0) 60 0 0) = some l from e1, Option.bind_some]
      · obtain ⟨a, n, Q0, h1, h2, h3, h4, h5, h6, h7⟩ := hA
        refine ⟨0, n, fun _ => Q, by omega, h2, ?_, hset_self, ?_, rfl, fun i hi => absurd hi (by omega)⟩
        · rw [hset_c (by omega), e2 _ _ (by omega), hset_c (by omega), hset_self]; rfl
        · rw [hset_c (by omega), e2 _ _ (by omega), hset_c (by omega), hset_k (by omega), b3 _ _ (by omega), h5]
  rcases (show w = 0 ∨ w = 1 by omega) with rfl | rfl
  · rw [if_pos (show nI 0 = 0 from rfl)]
    by_cases q : H 20 0 = 0
    · obtain ⟨H2, e1, e2⟩ := main.1 q
      rw [if_pos q]
      exact ⟨_, _, _, rfl, e1, e2⟩
    · obtain ⟨H1, H2, e0, e1, e2⟩ := main.2 q
      rw [if_neg q, if_pos (show nI 0 = 0 from rfl), show f_X4_becomeLike 7 20 H = some H1 from e0, Option.bind_some]
      simp only [f_X0_forgetAll, pf_e, Option.bind_some]
      exact ⟨_, _, _, rfl, e1, e2⟩
  · rw [if_neg (show ¬ nI 1 = 0 by decide), if_pos (show nI 1 = 1 from rfl)]
    by_cases q : H 26 0 = 0
    · obtain ⟨H2, e1, e2⟩ := main.1 q
      rw [if_pos q]
      exact ⟨_, _, _, rfl, e1, e2⟩
    · obtain ⟨H1, H2, e0, e1, e2⟩ := main.2 q
      rw [if_neg q, if_neg (show ¬ nI 1 = 0 by decide), if_pos (show nI 1 = 1 from rfl), show f_X4_becomeLike 7 26 H = some H1 from e0, Option.bind_some]
      simp only [f_X0_forgetAll, pf_e, Option.bind_some]
      exact ⟨_, _, _, rfl, e1, e2⟩
