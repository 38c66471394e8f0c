/-! feed, fault, status, trace, count, as, ask -/
def Jtape (H : Hp) : Prop := ∃ n, n ≤ 130 ∧ H 5 1 = nI n ∧ H 60 11 = nI n ∧ ∀ i, i < n → H 6 i = H 68 i ∧ ∃ b, b ≤ 255 ∧ H 6 i = nI b
def Jtrace (H : Hp) : Prop := ∃ t, t ≤ 16 ∧ H 58 2 = nI t ∧ H 60 29 = nI t ∧ ∀ i, i < t → H 59 i = H 77 i
theorem q_feed {H : Hp} (h : Jtape H) (x1 : Int32) : ∃ (r : Int32) (H1 H2 : Hp), f_X7_feed x1 H = some (r, H1) ∧ f_X8_feed x1 H1 = some (r, H2) ∧ Jtape H2 := by
  obtain ⟨n, h1, h2, h3, h4⟩ := h
  simp only [f_X7_feed, f_X8_feed, f_X6_append, pf_e, Option.bind_some, in_0_255, within_eq, bz]
  by_cases g : x1 < 0 ∨ 255 < x1
  · simp only [if_pos g]
    exact ⟨_, _, _, rfl, rfl, n, h1, h2, by rw [hset_k (by omega), h3], h4⟩
  simp only [if_neg g]
  obtain ⟨b, -, hb, rfl⟩ := i_rng x1 0 255 (by omega) (by omega) g
  rw [h2]
  have e1 : (nI n < 130) = (n < 130) := nI_lt' (b := 130) (by omega) (by omega)
  have e2 : (nI n = 130) = (n = 130) := nI_eq' (b := 130) (by omega) (by omega)
  simp only [e1]
  by_cases g2 : n < 130
  · rw [if_pos g2, as_n g2 (by omega), Option.bind_some, Option.bind_some]
    rw [hset_c (show 5 ≠ 6 by omega), h2, nI_1]
    refine ⟨nI (n + 1), _, hset (hset (hset (hset (hset H 6 n (nI b)) 5 1 (nI (n + 1))) 60 0 0) 68 n (nI b)) 60 11 (nI (n + 1)), rfl, ?_, n + 1, by omega, by rw [hset_c (by omega), hset_c (by omega), hset_c (by omega), hset_self], hset_self, fun i hi => ?_⟩
    · dsimp only
      rw [hset_k (by omega), hset_c (show 60 ≠ 5 by omega), hset_c (show 60 ≠ 6 by omega), h3, if_neg (by rw [e2]; omega), as_n g2 (by omega), Option.bind_some, hset_self, hset_c (show 60 ≠ 68 by omega), hset_k (show 11 ≠ 0 by omega), hset_c (show 60 ≠ 5 by omega), hset_c (show 60 ≠ 6 by omega), h3, nI_1]
    · by_cases q : i = n
      · subst q
        exact ⟨by simp [hset_if], b, hb, by simp [hset_if]⟩
      · have := h4 i (by omega)
        simp only [hset_if]
        simp [q]
        exact this
  · rw [if_neg g2]
    refine ⟨-1000003, H, hset H 60 0 0, rfl, ?_, n, h1, h2, by rw [hset_k (by omega), h3], h4⟩
    rw [hset_k (by omega), h3, if_pos (by rw [e2]; omega)]
theorem q_fault {H : Hp} (h : Jst H) : ∃ (r : Int32) (H2 : Hp), f_X7_fault H = some r ∧ f_X8_fault H = some (r, H2) := ⟨_, hset H 60 0 0, rfl, by
  simp only [f_X8_fault, pf_e, Option.bind_some]
  rw [hset_k (by omega), h.1]⟩
theorem q_status {H : Hp} (h : Jst H) : ∃ (r : Int32) (H2 : Hp), f_X7_status H = some r ∧ f_X8_status H = some (r, H2) := ⟨_, hset H 60 0 0, rfl, by
  simp only [f_X8_status, pf_e, Option.bind_some]
  rw [hset_k (by omega), h.2]⟩
theorem q_trace {H : Hp} (h : Jtrace H) (x1 : Int32) : ∃ (r : Int32) (H2 : Hp), f_X7_trace x1 H = some r ∧ f_X8_trace x1 H = some (r, H2) := by
  obtain ⟨t, h1, h2, h3, h4⟩ := h
  simp only [f_X7_trace, f_X8_trace, pf_e, Option.bind_some]
  rw [h2, hset_k (show 29 ≠ 0 by omega), h3, in0, within_eq]
  simp only [Option.bind_some, n1lt (show t ≤ 100 by omega), bz]
  by_cases g : x1 < 0 ∨ nI t ≤ x1
  · rw [if_pos g]
    refine ⟨-1000000, _, ?_, rfl⟩
    by_cases g1 : x1 < 0
    · rw [if_pos g1]; rfl
    · rw [if_neg g1, if_pos (g.resolve_left g1)]; rfl
  · rw [if_neg g]
    have g1 : ¬ x1 < 0 := fun z => g (Or.inl z)
    have g2 : ¬ nI t ≤ x1 := fun z => g (Or.inr z)
    obtain ⟨k, hk, rfl⟩ := gpI (by omega) g
    rw [if_neg g1, if_neg g2, ag_n (by omega) (by omega), ag_n (by omega) (by omega), hset_c (by omega), h4 k hk]
    exact ⟨_, _, rfl, rfl⟩
theorem many7 {H : Hp} (h : Jrows H) : ∃ v, f_X5_howMany H = some v ∧ f_X8_count_l54 (hset H 60 0 0) fuel 0 0 = some v := by
  have e : ∀ k, k < 8 → (if H 2 k = -1 then (0 : Nat) else 1) = (if H 61 k < 0 then 0 else 1) := fun k hk => by
    obtain ⟨a1, a2, a3, -⟩ := h k hk
    rw [← a1]
    simp only [lane_neg a3]
  refine ⟨nI (sm 8 (fun k => if H 2 k = -1 then 0 else 1)), ?_, ?_⟩
  · unfold f_X5_howMany
    rw [acc0 (f_X5_howMany_l4 H) 8 (by omega) (fun k => if H 2 k = -1 then 0 else 1)
      (fun m z => by simp only [f_X5_howMany_l4]; rw [if_pos (by decide)])
      (fun m k hk => by
        simp only [f_X5_howMany_l4]
        rw [if_neg (show ¬ (8 : Int32) ≤ nI k from nI_ge (b := 8) hk (by omega)), miss hk, Option.bind_some, nI_1, sm_s]
        by_cases g : H 2 k = -1
        · rw [if_pos g, if_pos g, if_neg (by decide), Int32.add_zero]; rfl
        · rw [if_neg g, if_neg g, if_pos rfl, nI_1])]
    rfl
  · rw [sm_congr e]
    exact acc0 (f_X8_count_l54 (hset H 60 0 0)) 8 (by omega) (fun k => if H 61 k < 0 then 0 else 1)
      (fun m z => by simp only [f_X8_count_l54]; rw [if_pos (by decide)])
      (fun m k hk => by
        simp only [f_X8_count_l54]
        rw [if_neg (show ¬ (8 : Int32) ≤ nI k from nI_ge (b := 8) hk (by omega)), ag_n hk (by omega), Option.bind_some, hset_c (by omega), nI_1, sm_s]
        by_cases g : H 61 k < 0
        · rw [if_pos g, if_pos g, Int32.add_zero]; rfl
        · rw [if_neg g, if_neg g, nI_1])
theorem q_count {H : Hp} {R : Nat → Nat} (h : FU H R) (hJ : Jrows H) (hT : Jtape H) (hA : AC H R) (x1 : Int32) : ∃ (r : Int32) (H2 : Hp), f_X7_count x1 H = some r ∧ f_X8_count x1 H = some (r, H2) := by
  have hg := h.1.2.2.2.2.1
  obtain ⟨v, v1, v2⟩ := many7 hJ
  obtain ⟨n, t1, t2, t3, -⟩ := hT
  obtain ⟨a, m, Q, a1, a2, a3, a4, -⟩ := hA
  obtain ⟨p0, p1, p2, p3, p4, p5, p6, p7⟩ := h.2.2
  have c7 : f_X4_allCoins 7 H = some (nI (sm (R 3) (fun j => R (12 + 3 * j)))) := by
    unfold f_X4_allCoins
    rw [acc0 (f_X4_allCoins_l4 7 H) (R 3) (by omega) (fun j => R (12 + 3 * j))
      (fun m z => by simp only [f_X4_allCoins_l4]; rw [p4, if_pos (nI_le (Nat.le_refl _) (by omega))])
      (fun m k hk => by
        simp only [f_X4_allCoins_l4]
        rw [p4, if_neg (nI_ge hk (by omega)), ag_n (by omega) (by omega), Option.bind_some, (p7 k hk).2.2, nI_add, nI_1, sm_s])]
    rfl
  have c8 : f_X8_count_l108 (hset H 60 0 0) fuel 0 0 = some (nI (sm (R 3) (fun j => R (12 + 3 * j)))) :=
    acc0 (f_X8_count_l108 (hset H 60 0 0)) (R 3) (by omega) (fun j => R (12 + 3 * j))
      (fun m z => by simp only [f_X8_count_l108]; rw [show ag (hset H 60 0 0) 64 80 3 = ag (hset H 60 0 0) 64 80 (nI 3) from rfl, ag_n (by omega) (by omega), Option.bind_some, h.t.2.1 3 (by omega), if_pos (nI_le (Nat.le_refl _) (by omega))])
      (fun m k hk => by
        simp only [f_X8_count_l108]
        rw [show ag (hset H 60 0 0) 64 80 3 = ag (hset H 60 0 0) 64 80 (nI 3) from rfl, ag_n (by omega) (by omega), Option.bind_some, h.t.2.1 3 (by omega), if_neg (nI_ge hk (by omega)), of_2 (by omega), Option.bind_some, h.t.2.1 _ (by omega), nI_add, nI_1, sm_s])
  simp only [f_X7_count, f_X8_count, pf_e, Option.bind_some]
  rw [v1, v2, c7, c8, show ag (hset H 60 0 0) 64 80 0 = ag (hset H 60 0 0) 64 80 (nI 0) from rfl, show ag (hset H 60 0 0) 64 80 3 = ag (hset H 60 0 0) 64 80 (nI 3) from rfl, show ag (hset H 60 0 0) 64 80 1 = ag (hset H 60 0 0) 64 80 (nI 1) from rfl, ag_n (by omega) (by omega), ag_n (by omega) (by omega), ag_n (by omega) (by omega), h.t.2.1 0 (by omega), h.t.2.1 3 (by omega), h.t.2.1 1 (by omega), p1, p3, p4, a3, t2, hset_k (show 9 ≠ 0 by omega), hset_k (show 11 ≠ 0 by omega), a4, t3]
  simp only [Option.bind_some]
  by_cases k0 : x1 = 0
  · simp only [if_pos k0]; exact ⟨_, _, rfl, rfl⟩
  by_cases k1 : x1 = 1
  · simp only [if_neg k0, if_pos k1]; exact ⟨_, _, rfl, rfl⟩
  by_cases k2 : x1 = 2
  · simp only [if_neg k0, if_neg k1, if_pos k2]; exact ⟨_, _, rfl, rfl⟩
  by_cases k3 : x1 = 3
  · simp only [if_neg k0, if_neg k1, if_neg k2, if_pos k3]; exact ⟨_, _, rfl, rfl⟩
  by_cases k4 : x1 = 4
  · simp only [if_neg k0, if_neg k1, if_neg k2, if_neg k3, if_pos k4]; exact ⟨_, _, rfl, rfl⟩
  by_cases k5 : x1 = 5
  · simp only [if_neg k0, if_neg k1, if_neg k2, if_neg k3, if_neg k4, if_pos k5]; exact ⟨_, _, rfl, rfl⟩
  by_cases k6 : x1 = 6
  · simp only [if_neg k0, if_neg k1, if_neg k2, if_neg k3, if_neg k4, if_neg k5, if_pos k6]; exact ⟨_, _, rfl, rfl⟩
  simp only [if_neg k0, if_neg k1, if_neg k2, if_neg k3, if_neg k4, if_neg k5, if_neg k6]; exact ⟨_, _, rfl, rfl⟩
def okind (a k : Nat) : Bool := k == 0 || a == k || (k == 1 && a < 4) || (k == 4 && a == 5)
theorem kind7 (H : Hp) (a k : Nat) (ha : 1 ≤ a) (ha5 : a ≤ 5) (hk : k ≤ 5) : f_X7_isOfKind (nI a) (nI k) H = some (if okind a k then 1 else 0) := by
  obtain ⟨fq, hfq⟩ : ∃ q, fuel = q + 4 := ⟨4996, rfl⟩
  unfold f_X7_isOfKind
  rw [hfq]
  rcases (show a = 1 ∨ a = 2 ∨ a = 3 ∨ a = 4 ∨ a = 5 by omega) with rfl | rfl | rfl | rfl | rfl <;> rcases (show k = 0 ∨ k = 1 ∨ k = 2 ∨ k = 3 ∨ k = 4 ∨ k = 5 by omega) with rfl | rfl | rfl | rfl | rfl | rfl <;> rfl
theorem kind8 (a k : Nat) (ha : 1 ≤ a) (ha5 : a ≤ 5) (hk : k ≤ 5) : f_X8_isOf (nI a) (nI k) = some (if okind a k then 1 else 0) := by
  rcases (show a = 1 ∨ a = 2 ∨ a = 3 ∨ a = 4 ∨ a = 5 by omega) with rfl | rfl | rfl | rfl | rfl <;> rcases (show k = 0 ∨ k = 1 ∨ k = 2 ∨ k = 3 ∨ k = 4 ∨ k = 5 by omega) with rfl | rfl | rfl | rfl | rfl | rfl <;> rfl
theorem q_as {H : Hp} {R : Nat → Nat} (h : FU H R) (hS : Jst H) (x1 x2 : Int32) : ∃ (r : Int32) (H1 H2 : Hp), f_X7_as x1 x2 H = some (r, H1) ∧ f_X8_as x1 x2 H1 = some (r, H2) ∧ Jst H2 := by
  have hr := h.1.1
  have m8 : ∀ H1, Hr H1 64 R → f_X8_as x1 x2 H1 = (if x1 < 0 ∨ nI (R 0) ≤ x1 then some (-1000001, hset H1 60 0 0) else if x2 < 0 ∨ 5 < x2 then some (-1000001, hset H1 60 0 0) else (ag (hset (hset H1 60 0 0) 60 1 0) 64 80 (4 + x1)).bind fun v5 => (f_X8_isOf v5 x2).bind fun v6 => Option.bind (if v6 = 0 then some (-1000010 - 3, hset (hset (hset H1 60 0 0) 60 1 0) 60 1 3) else some (x1, hset (hset H1 60 0 0) 60 1 0)) fun j8 => some (j8.1, j8.2)) := by
    intro H1 h1
    simp only [f_X8_as, pf_e, Option.bind_some, in_0_5, within_eq, fnd8]
    rw [isP8 (by rw [hset_c (by omega)]; exact h1 0 (by omega)) (by omega)]
    simp only [Option.bind_some, bz]
  simp only [f_X7_as, within_eq, isP7 h.2.2.2.2.2.1, Option.bind_some, bz, unm, fnd]
  by_cases g0 : x1 < 0 ∨ nI (R 0) ≤ x1
  · simp only [if_pos g0]
    exact ⟨_, _, hset H 60 0 0, rfl, by rw [m8 H h.2.1, if_pos g0], hS⟩
  by_cases g1 : x2 < 0 ∨ 5 < x2
  · simp only [if_neg g0, if_pos g1]
    exact ⟨_, _, hset H 60 0 0, rfl, by rw [m8 H h.2.1, if_neg g0, if_pos g1], hS⟩
  simp only [if_neg g0, if_neg g1]
  obtain ⟨p, hp, rfl⟩ := gpI (by omega) g0
  obtain ⟨k, -, hk, rfl⟩ := i_rng x2 0 5 (by omega) (by omega) g1
  obtain ⟨q1, q2⟩ := h.1.2.2.2.2.2.1 p hp
  rw [ag_n (by omega) (by omega), Option.bind_some, h.2.2.2.2.2.2.2.1 p hp, kind7 H _ _ q1 q2 hk, Option.bind_some]
  have e8 : ∀ H1, Hr H1 64 R → f_X8_as (nI p) (nI k) H1 = Option.bind (if (if okind (R (4 + p)) k = true then (1 : Int32) else 0) = 0 then some (-1000010 - 3, hset (hset (hset H1 60 0 0) 60 1 0) 60 1 3) else some (nI p, hset (hset H1 60 0 0) 60 1 0)) fun j8 => some (j8.1, j8.2) := fun H1 h1 => by
    rw [m8 H1 h1, if_neg g0, if_neg g1, z4, ag_n (by omega) (by omega), Option.bind_some, hset_c (by omega), hset_c (by omega), h1 _ (by omega), kind8 _ _ q1 q2 hk, Option.bind_some]
  by_cases g : okind (R (4 + p)) k = true
  · rw [if_pos g, if_neg (by decide), Option.bind_some]
    refine ⟨_, _, _, rfl, by rw [e8 _ (h.2.1.fr (fun j _ => hset_c (by omega))), if_pos g, if_neg (by decide), Option.bind_some], ?_⟩
    exact ⟨by simp [hset_if]; exact hS.1, by simp [hset_if]⟩
  · rw [if_neg g, if_pos rfl, Option.bind_some]
    refine ⟨_, _, _, rfl, by rw [e8 _ (h.2.1.fr (fun j _ => hset_c (by omega))), if_neg g, if_pos rfl, Option.bind_some], ?_⟩
    exact ⟨by simp [hset_if]; exact hS.1, by simp [hset_if]⟩
/-! ask -/
def CS (H B : Hp) (l : List Int32) : Prop := H 58 2 = nI l.length ∧ (∀ i, i < l.length → H 59 i = l.getD i 0) ∧ ∀ c k, c ≠ 59 → (c ≠ 58 ∨ k ≠ 2) → H c k = B c k
def MS (H B : Hp) (l : List Int32) : Prop := H 60 29 = nI l.length ∧ (∀ i, i < l.length → H 77 i = l.getD i 0) ∧ ∀ c k, c ≠ 77 → (c ≠ 60 ∨ k ≠ 29) → H c k = B c k
theorem getD_app (l : List Int32) (x : Int32) (i : Nat) (h : i < l.length + 1) : (l ++ [x]).getD i 0 = if i = l.length then x else l.getD i 0 := by
  by_cases g : i = l.length
  · subst g; simp [List.getD]
  · rw [if_neg g]
    simp [List.getD, List.getElem?_append_left (show i < l.length by omega)]
theorem lv7 {H B : Hp} {l : List Int32} (h : CS H B l) (hl : l.length < 16) (x : Int32) : ∃ H2, f_X1_leaveNumber x H = some H2 ∧ CS H2 B (l ++ [x]) := by
  obtain ⟨h1, h2, h3⟩ := h
  unfold f_X1_leaveNumber
  rw [h1, if_neg (show ¬ (16 : Int32) ≤ nI l.length from nI_ge (b := 16) hl (by omega)), as_n hl (by omega), Option.bind_some]
  simp only [pf_e, Option.bind_some]
  refine ⟨_, rfl, ?_, fun i hi => ?_, fun c k q1 q2 => ?_⟩
  · rw [hset_self, hset_c (by omega), h1, nI_1]; simp
  · simp only [List.length_append, List.length_singleton] at hi
    rw [getD_app l x i hi, hset_c (by omega), hset_if]
    by_cases g : i = l.length
    · rw [if_pos ⟨rfl, g⟩, if_pos g]
    · rw [if_neg (fun z => g z.2), if_neg g, h2 i (by omega)]
  · rw [hset_if, if_neg (by omega), hset_c q1, h3 c k q1 q2]
theorem bg8 {H B : Hp} {l : List Int32} (h : MS H B l) (hl : l.length < 16) (x : Int32) : ∃ H2, f_X8_began x H = some H2 ∧ MS H2 B (l ++ [x]) := by
  obtain ⟨h1, h2, h3⟩ := h
  unfold f_X8_began
  rw [h1, if_neg (show ¬ (16 : Int32) ≤ nI l.length from nI_ge (b := 16) hl (by omega)), as_n hl (by omega), Option.bind_some]
  simp only [pf_e, Option.bind_some]
  refine ⟨_, rfl, ?_, fun i hi => ?_, fun c k q1 q2 => ?_⟩
  · rw [hset_self, hset_c (by omega), h1, nI_1]; simp
  · simp only [List.length_append, List.length_singleton] at hi
    rw [getD_app l x i hi, hset_c (by omega), hset_if]
    by_cases g : i = l.length
    · rw [if_pos ⟨rfl, g⟩, if_pos g]
    · rw [if_neg (fun z => g z.2), if_neg g, h2 i (by omega)]
  · rw [hset_if, if_neg (by omega), hset_c q1, h3 c k q1 q2]
