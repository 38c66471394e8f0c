/-! who: what fits -/
def fits (n : Nat) (d : Nat → Nat) (E : Nat → Int32) : Prop := ∀ p, p < n → nI (d p) = E p
noncomputable def ft (n : Nat) (d : Nat → Nat) (E : Nat → Int32) : Bool := @decide (fits n d E) (Classical.propDecidable _)
theorem ft_t {n : Nat} {d : Nat → Nat} {E : Nat → Int32} : ft n d E = true ↔ fits n d E := by
  unfold ft
  exact @decide_eq_true_iff _ (Classical.propDecidable _)
theorem ft_congr {n : Nat} {d d2 : Nat → Nat} {E : Nat → Int32} (h : ∀ p, p < n → d p = d2 p) : ft n d E = ft n d2 E := by
  have : fits n d E ↔ fits n d2 E := ⟨fun q p hp => by rw [← h p hp]; exact q p hp, fun q p hp => by rw [h p hp]; exact q p hp⟩
  exact Bool.eq_iff_iff.mpr (by rw [ft_t, ft_t]; exact this)
theorem exp7 {H : Hp} {n r i : Nat} (hn : n ≤ 6) (hr : r < 8) (hi : i + n ≤ 40) (h3 : H 7 3 = nI n) : ∃ H2, f_X3_expect (nI r) (nI i) H = some H2 ∧ (∀ p, p < n → H2 57 p = H 4 (40 * r + i + p)) ∧ ∀ c k, c ≠ 57 → H2 c k = H c k := by
  obtain ⟨H2, e1, e2, e3⟩ := up0 (fun m k z => f_X3_expect_l3 (nI r) (nI i) m (nI k) z) n (by omega) (fun k z => (∀ c j, c ≠ 57 → z c j = H c j) ∧ ∀ p, p < k → z 57 p = H 4 (40 * r + i + p)) (fun z => (∀ c j, c ≠ 57 → z c j = H c j) ∧ ∀ p, p < n → z 57 p = H 4 (40 * r + i + p)) H
    ⟨fun _ _ _ => rfl, fun p hp => absurd hp (by omega)⟩
    (fun m z hz => ⟨z, by simp only [f_X3_expect_l3]; rw [hz.1 7 3 (by omega), h3, if_pos (nI_le (Nat.le_refl _) (by omega))], hz⟩)
    (fun m k z hk hz => Or.inr ⟨hset z 57 k (H 4 (40 * r + i + k)), by
      simp only [f_X3_expect_l3, f_X5_itemAt]
      rw [hz.1 7 3 (by omega), h3, if_neg (nI_ge hk (by omega)), nI_add, x40, ag_n (by omega) (by omega), Option.bind_some, Option.bind_some, hz.1 4 _ (by omega), as_n (by omega) (by omega), Option.bind_some, nI_1, Nat.add_assoc],
      fun c j hc => by rw [hset_c hc, hz.1 c j hc],
      fun p hp => by
        by_cases q : p = k
        · rw [q, hset_self]
        · rw [hset_k q, hz.2 p (by omega)]⟩)
  exact ⟨H2, by unfold f_X3_expect; rw [show f_X3_expect_l3 (nI r) (nI i) fuel 0 H = some H2 from e1]; rfl, e3, e2⟩
theorem isx7 {H : Hp} {n : Nat} {d : Nat → Nat} {E : Nat → Int32} (hn : n ≤ 6) (h3 : H 7 3 = nI n) (hd : ∀ p, p < n → H 48 p = nI (d p)) (hE : ∀ p, p < n → H 57 p = E p) : f_X3_isAsExpected H = some (if ft n d E then 1 else 0) := by
  unfold f_X3_isAsExpected
  obtain ⟨v, e1, e2⟩ := up0 (fun m k (_ : Unit) => f_X3_isAsExpected_l2 H m (nI k)) n (by omega) (fun k _ => ∀ p, p < k → nI (d p) = E p) (fun v => v = if ft n d E then .inl () else .inr 0) () (fun p hp => absurd hp (by omega))
    (fun m _ hz => ⟨.inl (), by simp only [f_X3_isAsExpected_l2]; rw [h3, if_pos (nI_le (Nat.le_refl _) (by omega))], by rw [if_pos (ft_t.mpr hz)]⟩)
    (fun m k _ hk hz => by
      simp only [f_X3_isAsExpected_l2]
      rw [h3, if_neg (nI_ge hk (by omega)), ag_n (by omega) (by omega), Option.bind_some, ag_n (by omega) (by omega), Option.bind_some, hd k hk, hE k hk, nI_1]
      by_cases g : nI (d k) = E k
      · rw [if_pos g]
        exact Or.inr ⟨(), rfl, fun p hp => by
          by_cases q : p = k
          · rw [q]; exact g
          · exact hz p (by omega)⟩
      · rw [if_neg g]
        exact Or.inl ⟨_, rfl, by rw [if_neg (fun z => g (ft_t.mp z k hk))]⟩)
  rw [show f_X3_isAsExpected_l2 H fuel 0 = some v from e1, Option.bind_some, e2]
  by_cases g : ft n d E = true
  · rw [if_pos g, if_pos g]; rfl
  · rw [if_neg g, if_neg g]; rfl
theorem isx8 {H : Hp} {n f : Nat} {d : Nat → Nat} {E : Nat → Int32} (hn : n ≤ 6) (hf : f + n ≤ 320) (h3 : H 64 0 = nI n) (hd : ∀ p, p < n → H 73 p = nI (d p)) (hE : ∀ p, p < n → H 63 (f + p) = E p) : f_X8_isPaidSo (nI f) H = some (if ft n d E then 1 else 0) := by
  unfold f_X8_isPaidSo
  obtain ⟨v, e1, e2⟩ := up0 (fun m k z => f_X8_isPaidSo_l4 H (nI f) m z (nI k)) n (by omega) (fun k z => (z = 1 ∧ ∀ p, p < k → nI (d p) = E p) ∨ (z = 0 ∧ ¬ fits n d E)) (fun z => z = if ft n d E then 1 else 0) 1 (Or.inl ⟨rfl, fun p hp => absurd hp (by omega)⟩)
    (fun m z hz => ⟨z, by simp only [f_X8_isPaidSo_l4]; rw [show ag H 64 80 0 = ag H 64 80 (nI 0) from rfl, ag_n (by omega) (by omega), Option.bind_some, h3, if_pos (nI_le (Nat.le_refl _) (by omega))], by
      rcases hz with ⟨rfl, q⟩ | ⟨rfl, q⟩
      · rw [if_pos (ft_t.mpr q)]
      · rw [if_neg (fun z => q (ft_t.mp z))]⟩)
    (fun m k z hk hz => by
      simp only [f_X8_isPaidSo_l4]
      rw [show ag H 64 80 0 = ag H 64 80 (nI 0) from rfl, ag_n (by omega) (by omega), Option.bind_some, h3, if_neg (nI_ge hk (by omega)), nI_1]
      rcases hz with ⟨rfl, q⟩ | ⟨rfl, q⟩
      · rw [if_neg (by decide), ag_n (by omega) (by omega), Option.bind_some, nI_add, ag_n (by omega) (by omega), Option.bind_some, hd k hk, hE k hk]
        by_cases g : nI (d k) = E k
        · rw [if_pos g, Option.bind_some]
          exact Or.inr ⟨1, rfl, Or.inl ⟨rfl, fun p hp => by
            by_cases qq : p = k
            · rw [qq]; exact g
            · exact q p (by omega)⟩⟩
        · rw [if_neg g, Option.bind_some]
          exact Or.inr ⟨0, rfl, Or.inr ⟨rfl, fun w => g (w k hk)⟩⟩
      · rw [if_pos rfl, Option.bind_some]
        exact Or.inr ⟨0, rfl, Or.inr ⟨rfl, q⟩⟩)
  rw [show f_X8_isPaidSo_l4 H (nI f) fuel 1 0 = some v from e1, Option.bind_some, e2]
  by_cases g : ft n d E = true
  · rw [if_pos g]; rfl
  · rw [if_neg g]; rfl
noncomputable def cb (b : Nat → Bool) (lo j : Nat) : Nat := sm j (fun i => if b (lo + i) then 1 else 0)
noncomputable def lbD (b : Nat → Bool) (lo : Nat) : Nat → Int32
  | 0 => -1000000
  | j + 1 => if b (lo + j) then (if cb b lo j = 0 then nI (lo + j) else lbD b lo j) else lbD b lo j
theorem lb_ex : ∃ s : (Nat → Bool) → Nat → Nat → Int32, s = lbD := ⟨_, rfl⟩
noncomputable def lb : (Nat → Bool) → Nat → Nat → Int32 := lb_ex.choose
theorem lb_d : lb = lbD := lb_ex.choose_spec
theorem lb_0 (b : Nat → Bool) (lo : Nat) : lb b lo 0 = -1000000 := by rw [lb_d]; rfl
theorem lb_s (b : Nat → Bool) (lo j : Nat) : lb b lo (j + 1) = if b (lo + j) then (if cb b lo j = 0 then nI (lo + j) else lb b lo j) else lb b lo j := by rw [lb_d]; rfl
theorem cb_s (b : Nat → Bool) (lo j : Nat) : cb b lo (j + 1) = cb b lo j + if b (lo + j) then 1 else 0 := sm_s _ _
theorem lb_none (b : Nat → Bool) (lo j : Nat) (h : cb b lo j = 0) : lb b lo j = -1000000 := by
  induction j with
  | zero => exact lb_0 b lo
  | succ j ih =>
    rw [cb_s] at h
    rw [lb_s]
    rw [if_neg (fun z => by rw [if_pos z] at h; omega)]
    exact ih (by omega)
theorem lb_hit (b : Nat → Bool) (lo j : Nat) (h : cb b lo j = 0) (hb : b (lo + j) = true) (J : Nat) (hJ : j < J) : lb b lo J = nI (lo + j) ∧ 0 < cb b lo J := by
  induction J with
  | zero => omega
  | succ J ih =>
    rw [cb_s, lb_s]
    by_cases q : J = j
    · subst q
      rw [if_pos hb, if_pos h, if_pos hb]
      exact ⟨rfl, by omega⟩
    · obtain ⟨i1, i2⟩ := ih (by omega)
      refine ⟨?_, by omega⟩
      by_cases g : b (lo + J) = true
      · rw [if_pos g, if_neg (by omega)]; exact i1
      · rw [if_neg g]; exact i1
theorem cb_le (b : Nat → Bool) (lo j : Nat) : cb b lo j ≤ j := by
  have := sm_le (n := j) (B := 1) (f := fun i => if b (lo + i) then 1 else 0) (fun i _ => by split <;> omega)
  unfold cb
  omega
/-- pots -/
theorem pots7 {H : Hp} {R : Nat → Nat} {E : Nat → Int32} (h : FU H R) (h0 : 0 < R 0) (hE : ∀ p, p < R 0 → H 57 p = E p) (w : Bool) : ∃ Hz, f_X3_fittingPots (if w then 1 else 0) H = some ((if w then lb (fun v => ft (R 0) (PD (R 0) v (CR R)) E) 0 1000 else nI (cb (fun v => ft (R 0) (PD (R 0) v (CR R)) E) 0 1000)), Hz) := by
  have hr := h.1.1
  obtain ⟨Ha, Hb, a1, b1, hF, b2, b3, b4, b5, b6⟩ := both h h0
  obtain ⟨v, e1, e2⟩ := up0 (fun m k (z : Int32 × Hp) => f_X3_fittingPots_l22 (if w then 1 else 0) m z.1 (nI k) z.2) 1000 (by omega) (fun k z => z.1 = nI (cb (fun v => ft (R 0) (PD (R 0) v (CR R)) E) 0 k) ∧ (w = true → cb (fun v => ft (R 0) (PD (R 0) v (CR R)) E) 0 k = 0) ∧ ∀ c j, c ≠ 48 → (c ≠ 38 ∨ j ≠ 14) → z.2 c j = Hb c j) (fun v => (∃ Hz, v = .inl (nI (cb (fun v => ft (R 0) (PD (R 0) v (CR R)) E) 0 1000), Hz) ∧ (w = true → cb (fun v => ft (R 0) (PD (R 0) v (CR R)) E) 0 1000 = 0)) ∨ ∃ Hz, w = true ∧ v = .inr (lb (fun v => ft (R 0) (PD (R 0) v (CR R)) E) 0 1000, Hz)) (0, Hb)
    ⟨by unfold cb; rw [sm_0]; rfl, fun _ => by unfold cb; rw [sm_0], fun _ _ _ _ => rfl⟩
    (fun m z hz => ⟨.inl z, by simp only [f_X3_fittingPots_l22]; rw [if_pos (by decide)], Or.inl ⟨z.2, by rw [← hz.1], hz.2.1⟩⟩)
    (fun m k z hk hz => by
      obtain ⟨z1, z2, z3⟩ := hz
      obtain ⟨H3, s1, s2, s3⟩ := share7 (H := z.2) (P := k) (c := CR R) hr (by omega) (by rw [z3 38 10 (by omega) (by omega), b2.1.1]) (by rw [z3 38 13 (by omega) (by omega), b4]) (fun p _ => CL_le (tb_B h.1) _ p) (fun p hp => by rw [z3 47 p (by omega) (by omega), (b3 p hp).1])
      have f3 : ∀ c j, c ≠ 48 → (c ≠ 38 ∨ j ≠ 14) → H3 c j = Hb c j := fun c j h1 h2 => by rw [fr_X2_share s1 c j (by omega), z3 c j h1 h2]
      have ex := isx7 (H := H3) (E := E) hr (by rw [f3 7 3 (by omega) (by omega), hF.2.2.2.2.2.1]) s2 (fun p hp => by rw [f3 57 p (by omega) (by omega), b6 57 p (by omega), hE p hp])
      have cs := cb_s (fun v => ft (R 0) (PD (R 0) v (CR R)) E) 0 k
      rw [Nat.zero_add] at cs
      simp only [f_X3_fittingPots_l22]
      rw [if_neg (show ¬ (999 : Int32) < nI k from nI_nlt (b := k) (a := 999) (by omega) (by omega)), s1, Option.bind_some, ex, Option.bind_some, nI_1]
      by_cases g : ft (R 0) (PD (R 0) k (CR R)) E = true
      · rw [if_pos g, if_neg (by decide)]
        cases w
        · rw [if_pos (show (if false = true then (1 : Int32) else 0) = 0 from rfl)]
          exact Or.inr ⟨(z.1 + 1, H3), rfl, by rw [cs, if_pos g]; dsimp only; rw [z1, nI_1], fun q => absurd q (by decide), f3⟩
        · rw [if_neg (by decide)]
          refine Or.inl ⟨_, rfl, Or.inr ⟨H3, rfl, ?_⟩⟩
          rw [(lb_hit (fun v => ft (R 0) (PD (R 0) v (CR R)) E) 0 k (z2 rfl) (by rw [Nat.zero_add]; exact g) 1000 hk).1, Nat.zero_add]
      · rw [if_neg g, if_pos rfl]
        exact Or.inr ⟨(z.1, H3), rfl, by rw [cs, if_neg g]; exact z1, fun q => by rw [cs, if_neg g]; exact z2 q, f3⟩)
  unfold f_X3_fittingPots
  rw [a1, Option.bind_some, b1, Option.bind_some, show f_X3_fittingPots_l22 (if w then 1 else 0) fuel 0 0 Hb = some v from e1, Option.bind_some]
  rcases e2 with ⟨Hz, rfl, q⟩ | ⟨Hz, q, rfl⟩
  · refine ⟨Hz, ?_⟩
    simp only [Sum.elim_inl]
    cases w
    · rw [if_pos (show (if false = true then (1 : Int32) else 0) = 0 from rfl), if_neg (show ¬ false = true by decide)]
    · rw [lb_none _ _ _ (q rfl), if_neg (show ¬ (if true = true then (1 : Int32) else 0) = 0 by decide), if_pos (show true = true from rfl)]
  · refine ⟨Hz, ?_⟩
    simp only [Sum.elim_inr]
    rw [if_pos q]
theorem pots8 {H : Hp} {R : Nat → Nat} {E : Nat → Int32} {f : Nat} (hR : Rw R) (hH : Hr H 64 R) (h0 : 0 < R 0) (hf : f + R 0 ≤ 320) (hE : ∀ p, p < R 0 → H 63 (f + p) = E p) (x2 : Int32) : ∃ Hz, f_X8_potsOf (nI f) x2 H = some ((if x2 = 0 then nI (cb (fun v => ft (R 0) (PD (R 0) v (CR R)) E) 0 1000) else lb (fun v => ft (R 0) (PD (R 0) v (CR R)) E) 0 1000), Hz) := by
  have hr := hR.1
  obtain ⟨Ha, a1, a2, a3⟩ := then8 hH
  obtain ⟨Hb, b1, b2, b3⟩ := rk66 (H := H) hR h0 a2 a3
  obtain ⟨⟨y1, y2, Hz⟩, e1, e2⟩ := up0 (fun m k (z : Int32 × Int32 × Hp) => f_X8_potsOf_l21 (nI f) m z.1 z.2.1 (nI k) z.2.2) 1000 (by omega) (fun k z => z.1 = nI (cb (fun v => ft (R 0) (PD (R 0) v (CR R)) E) 0 k) ∧ z.2.1 = lb (fun v => ft (R 0) (PD (R 0) v (CR R)) E) 0 k ∧ ∀ c j, c ≠ 73 → (c ≠ 60 ∨ j ≠ 24) → (c ≠ 66 ∨ j ≠ 1) → z.2.2 c j = Hb c j) (fun z => z.1 = nI (cb (fun v => ft (R 0) (PD (R 0) v (CR R)) E) 0 1000) ∧ z.2.1 = lb (fun v => ft (R 0) (PD (R 0) v (CR R)) E) 0 1000) (0, -1000000, Hb)
    ⟨by unfold cb; rw [sm_0]; rfl, (lb_0 _ _).symm, fun _ _ _ _ _ => rfl⟩
    (fun m z hz => ⟨z, by simp only [f_X8_potsOf_l21]; rw [if_pos (by decide)], hz.1, hz.2.1⟩)
    (fun m k z hk hz => by
      obtain ⟨z1, z2, z3⟩ := hz
      obtain ⟨H4, p1, p2, p3, p4⟩ := pay8 (H := hset z.2.2 66 1 (nI k)) (r := 66) (n := R 0) (P := k) (c := CR R) (by omega) (by omega) hr (by omega) (by rw [hset_k (by omega), z3 66 0 (by omega) (by omega) (by omega), b3 0 (by omega)]) hset_self (fun p _ => CL_le (tb_B hR) _ p) (fun p hp => by rw [hset_c (by omega), z3 72 p (by omega) (by omega) (by omega), (b2.2.2.1 p hp).1])
      have f4 : ∀ c j, c ≠ 73 → (c ≠ 60 ∨ j ≠ 24) → (c ≠ 66 ∨ j ≠ 1) → H4 c j = Hb c j := fun c j h1 h2 h3 => by rw [p2 c j h1 h2, hset_if, if_neg (by omega), z3 c j h1 h2 h3]
      have ex := isx8 (H := H4) (E := E) hr hf (by rw [f4 64 0 (by omega) (by omega) (by omega), b2.1 64 0 (by omega) (by omega), hH 0 (by omega)]) p3 (fun p hp => by rw [f4 63 _ (by omega) (by omega) (by omega), b2.1 63 _ (by omega) (by omega), hE p hp])
      have cs := cb_s (fun v => ft (R 0) (PD (R 0) v (CR R)) E) 0 k
      have cl := cb_le (fun v => ft (R 0) (PD (R 0) v (CR R)) E) 0 k
      rw [Nat.zero_add] at cs
      refine Or.inr ⟨(nI (cb (fun v => ft (R 0) (PD (R 0) v (CR R)) E) 0 (k + 1)), lb (fun v => ft (R 0) (PD (R 0) v (CR R)) E) 0 (k + 1), H4), ?_, rfl, rfl, f4⟩
      simp only [f_X8_potsOf_l21]
      rw [if_neg (show ¬ (1000 : Int32) ≤ nI k from nI_ge (b := 1000) hk (by omega)), show as z.2.2 66 80 1 (nI k) = as z.2.2 66 80 (nI 1) (nI k) from rfl, as_n (by omega) (by omega), Option.bind_some, p1, Option.bind_some, ex, Option.bind_some, z1, z2, nI_1, nI_1, cs]
      rw [lb_s]
      simp only [Nat.zero_add]
      have e0 : (nI (cb (fun v => ft (R 0) (PD (R 0) v (CR R)) E) 0 k) = 0) = (cb (fun v => ft (R 0) (PD (R 0) v (CR R)) E) 0 k = 0) := nI_eq' (b := 0) (by omega) (by omega)
      by_cases g : ft (R 0) (PD (R 0) k (CR R)) E = true
      · simp only [if_pos g, e0, if_neg (show ¬ (1 : Int32) = 0 by decide)]
      · simp only [if_neg g, if_true, Nat.add_zero])
  refine ⟨Hz, ?_⟩
  unfold f_X8_potsOf
  rw [a1, Option.bind_some, b1, Option.bind_some, show f_X8_potsOf_l21 (nI f) fuel 0 (-1000000) 0 Hb = some (y1, y2, Hz) from e1, Option.bind_some]
  dsimp only at e2 ⊢
  rw [e2.1, e2.2]
