/-! acts -/
/-- what a kept act (d, f1 .. f4) has to do with the fund R after it and the fund Q before it -/
def Rv (d f1 f2 f3 f4 : Int32) (R Q : Nat → Nat) : Prop :=
  (d = 0 ∧ R 3 = Q 3 + 1 ∧ (∀ i, i ≠ 3 → i < 10 ∨ 70 ≤ i → i < 80 → R i = Q i) ∧ ∀ i, 10 ≤ i → i < 10 + 3 * Q 3 → R i = Q i) ∨
  (d = 1 ∧ Q 3 = R 3 + 1 ∧ (∀ i, i ≠ 3 → i < 10 ∨ 70 ≤ i → i < 80 → R i = Q i) ∧ ∃ g, g ≤ R 3 ∧ f1 = nI g ∧ f2 = nI (Q (10 + 3 * g)) ∧ f3 = nI (Q (11 + 3 * g)) ∧ f4 = nI (Q (12 + 3 * g)) ∧ (∀ i, 10 ≤ i → i < 10 + 3 * g → R i = Q i) ∧ ∀ i, 10 + 3 * g ≤ i → i < 10 + 3 * R 3 → R i = Q (i + 3)) ∨
  (d = 2 ∧ f1 = nI (Q 1) ∧ ∀ i, i ≠ 1 → i < 80 → R i = Q i) ∨
  (d = 3 ∧ ∃ p, p < R 0 ∧ f1 = nI p ∧ f2 = nI (Q (4 + p)) ∧ ∀ i, i ≠ 4 + p → i < 80 → R i = Q i) ∨
  (d = 4 ∧ (∀ i, i < 70 → R i = Q i) ∧ ∃ (b : Nat → Bool) (nm : Nat), f1 = nI (bsum 10 b) ∧ f2 = nI nm ∧ ∀ a, a < 10 → Q (70 + a) = if b a then nm else R (70 + a))
def pl (n a i : Nat) : Nat := (n + i + 24 - a) % 24
def AX (H : Hp) (R : Nat → Nat) (a n : Nat) (Q : Nat → Nat → Nat) : Prop := a ≤ 24 ∧ n < 24 ∧ H 32 6 = nI a ∧ H 60 9 = nI a ∧ H 32 5 = nI n ∧ Q a = R ∧ ∀ i, i < a → Rw (Q i) ∧ (∀ k, k < 80 → H 67 (80 * i + k) = nI (Q i k)) ∧ Rv (H 33 (pl n a i)) (H 34 (pl n a i)) (H 35 (pl n a i)) (H 36 (pl n a i)) (H 37 (pl n a i)) (Q (i + 1)) (Q i)
def AC (H : Hp) (R : Nat → Nat) : Prop := ∃ a n Q, AX H R a n Q
theorem AC.fr {H H2 : Hp} {R : Nat → Nat} (h : AC H R) (f : ∀ c k, (c = 32 ∧ k = 5) ∨ (c = 32 ∧ k = 6) ∨ (c = 60 ∧ k = 9) ∨ c = 67 ∨ (33 ≤ c ∧ c ≤ 37) → H2 c k = H c k) : AC H2 R := by
  obtain ⟨a, n, Q, h1, h2, h3, h4, h5, h6, h7⟩ := h
  refine ⟨a, n, Q, h1, h2, by rw [f 32 6 (by omega), h3], by rw [f 60 9 (by omega), h4], by rw [f 32 5 (by omega), h5], h6, fun i hi => ?_⟩
  obtain ⟨q1, q2, q3⟩ := h7 i hi
  refine ⟨q1, fun k hk => by rw [f 67 _ (by omega), q2 k hk], ?_⟩
  rw [f 33 _ (by omega), f 34 _ (by omega), f 35 _ (by omega), f 36 _ (by omega), f 37 _ (by omega)]
  exact q3
theorem keep7 {H : Hp} {a n : Nat} (ha : a ≤ 24) (hn : n < 24) (h5 : H 32 5 = nI n) (h6 : H 32 6 = nI a) (d f1 f2 f3 f4 : Int32) : ∃ H2, f_X0_keep d f1 f2 f3 f4 H = some H2 ∧ H2 32 5 = nI ((n + 1) % 24) ∧ H2 32 6 = nI (min (a + 1) 24) ∧ (H2 33 n = d ∧ H2 34 n = f1 ∧ H2 35 n = f2 ∧ H2 36 n = f3 ∧ H2 37 n = f4) ∧ (∀ c k, 33 ≤ c → c ≤ 37 → k ≠ n → H2 c k = H c k) ∧ ∀ c k, c < 32 ∨ 37 < c → H2 c k = H c k := by
  unfold f_X0_keep
  rw [h5, as_n (show n < 24 by omega) (by omega), Option.bind_some, hset_c (show 32 ≠ 33 by omega), h5, as_n (show n < 24 by omega) (by omega), Option.bind_some, hset_c (show 32 ≠ 34 by omega), hset_c (show 32 ≠ 33 by omega), h5, as_n (show n < 24 by omega) (by omega), Option.bind_some, hset_c (show 32 ≠ 35 by omega), hset_c (show 32 ≠ 34 by omega), hset_c (show 32 ≠ 33 by omega), h5, as_n (show n < 24 by omega) (by omega), Option.bind_some, hset_c (show 32 ≠ 36 by omega), hset_c (show 32 ≠ 35 by omega), hset_c (show 32 ≠ 34 by omega), hset_c (show 32 ≠ 33 by omega), h5, as_n (show n < 24 by omega) (by omega), Option.bind_some]
  simp only [pf_e, Option.bind_some]
  rw [hset_c (show 32 ≠ 37 by omega), hset_c (show 32 ≠ 36 by omega), hset_c (show 32 ≠ 35 by omega), hset_c (show 32 ≠ 34 by omega), hset_c (show 32 ≠ 33 by omega), h5, hset_k (show 6 ≠ 5 by omega), hset_c (show 32 ≠ 37 by omega), hset_c (show 32 ≠ 36 by omega), hset_c (show 32 ≠ 35 by omega), hset_c (show 32 ≠ 34 by omega), hset_c (show 32 ≠ 33 by omega), h6]
  have e23 : (nI n = 23) = (n = 23) := nI_eq' (b := 23) (by omega) (by omega)
  have e24 : ((24 : Int32) < nI (a + 1)) = (24 < a + 1) := nI_lt' (a := 24) (by omega) (by omega)
  have p1 : (if nI n = 23 then (0 : Int32) else nI n + 1) = nI ((n + 1) % 24) := by
    simp only [e23]
    by_cases g : n = 23
    · rw [if_pos g, g]; rfl
    · rw [if_neg g, nI_1, Nat.mod_eq_of_lt (by omega)]
  have p2 : (if 24 < nI a + 1 then (24 : Int32) else nI a + 1) = nI (min (a + 1) 24) := by
    rw [nI_1]
    simp only [e24]
    by_cases g : 24 < a + 1
    · rw [if_pos g, Nat.min_eq_right (by omega)]; rfl
    · rw [if_neg g, Nat.min_eq_left (by omega)]
  rw [p1, p2]
  refine ⟨_, rfl, ?_, ?_, ⟨?_, ?_, ?_, ?_, ?_⟩, fun c k h1 h2 h3 => ?_, fun c k h1 => ?_⟩
  · simp [hset_if]
  · simp [hset_if]
  · simp [hset_if]
  · simp [hset_if]
  · simp [hset_if]
  · simp [hset_if]
  · simp [hset_if]
  · rw [hset_c (by omega), hset_c (by omega), hset_if, if_neg (by omega), hset_if, if_neg (by omega), hset_if, if_neg (by omega), hset_if, if_neg (by omega), hset_if, if_neg (by omega)]
  · rw [hset_c (by omega), hset_c (by omega), hset_c (by omega), hset_c (by omega), hset_c (by omega), hset_c (by omega), hset_c (by omega)]
theorem y80 (a k : Nat) : 80 * nI a + nI k = nI (80 * a + k) := by rw [show (80 : Int32) = nI 80 from rfl, pk_mul, nI_add]
theorem keep8 {H : Hp} {R : Nat → Nat} {a : Nat} (ha : a ≤ 24) (h9 : H 60 9 = nI a) (hR : Hr H 64 R) : ∃ H2, f_X8_keep H = some H2 ∧ H2 60 9 = nI (min (a + 1) 24) ∧ (∀ k, k < 80 → H2 67 (80 * (min a 23) + k) = nI (R k)) ∧ (∀ k, k < 80 * min a 23 → H2 67 k = H 67 (if a = 24 then k + 80 else k)) ∧ ∀ c k, c ≠ 67 → (c ≠ 60 ∨ k ≠ 9) → H2 c k = H c k := by
  have s1 : ∃ j6, (if H 60 9 = 24 then (f_X8_keep_l11 fuel 0 H).bind fun l4 => (pf l4 60 9 ((l4 60 9) - 1)).bind fun H5 => some H5 else some H) = some j6 ∧ j6 60 9 = nI (min a 23) ∧ (∀ k, k < 80 * min a 23 → j6 67 k = H 67 (if a = 24 then k + 80 else k)) ∧ ∀ c k, c ≠ 67 → (c ≠ 60 ∨ k ≠ 9) → j6 c k = H c k := by
    rw [h9]
    have e24 : (nI a = 24) = (a = 24) := nI_eq' (b := 24) (by omega) (by omega)
    simp only [e24]
    by_cases g : a = 24
    · rw [if_pos g]
      obtain ⟨Ha, a1, a2, a3⟩ := up0 (fun m k z => f_X8_keep_l11 m (nI k) z) 1840 (by omega) (fun k z => (∀ c j, c ≠ 67 → z c j = H c j) ∧ (∀ i, i < k → z 67 i = H 67 (i + 80)) ∧ ∀ i, k ≤ i → z 67 i = H 67 i) (fun z => (∀ c j, c ≠ 67 → z c j = H c j) ∧ ∀ i, i < 1840 → z 67 i = H 67 (i + 80)) H
        ⟨fun _ _ _ => rfl, fun i hi => absurd hi (by omega), fun _ _ => rfl⟩
        (fun m z hz => ⟨z, by simp only [f_X8_keep_l11]; rw [if_pos (by decide)], hz.1, hz.2.1⟩)
        (fun m k z hk hz => Or.inr ⟨hset z 67 k (H 67 (k + 80)), by
          simp only [f_X8_keep_l11]
          rw [if_neg (show ¬ (1840 : Int32) ≤ nI k from nI_ge (b := 1840) hk (by omega)), show (80 : Int32) = nI 80 from rfl, nI_add, ag_n (by omega) (by omega), Option.bind_some, hz.2.2 (k + 80) (by omega), as_n (by omega) (by omega), Option.bind_some, nI_1],
          fun c j hc => by rw [hset_c hc, hz.1 c j hc],
          fun i hi => by
            rw [hset_if]
            by_cases hik : i = k
            · rw [if_pos ⟨rfl, hik⟩, hik]
            · rw [if_neg (by omega), hz.2.1 i (by omega)],
          fun i hi => by rw [hset_k (by omega), hz.2.2 i (by omega)]⟩)
      rw [show f_X8_keep_l11 fuel 0 H = some Ha from a1, Option.bind_some]
      simp only [pf_e, Option.bind_some]
      refine ⟨_, rfl, ?_, fun k hk => ?_, fun c k h1 h2 => ?_⟩
      · rw [hset_self, a2 60 9 (by omega), h9, g]; rfl
      · rw [hset_c (by omega), a3 k (by omega), if_pos g]
      · rw [hset_if, if_neg (by omega), a2 c k h1]
    · rw [if_neg g]
      exact ⟨H, rfl, by rw [h9, Nat.min_eq_left (by omega)], fun k _ => by rw [if_neg g], fun _ _ _ _ => rfl⟩
  obtain ⟨j6, b1, b2, b3, b4⟩ := s1
  have hm : min a 23 ≤ 23 := Nat.min_le_right _ _
  obtain ⟨Hb, c1, c2, c3, c4⟩ := up0 (fun m k z => f_X8_keep_l51 m (nI k) z) 80 (by omega) (fun k z => (∀ c j, c ≠ 67 → z c j = j6 c j) ∧ (∀ i, i < k → z 67 (80 * min a 23 + i) = nI (R i)) ∧ ∀ i, i < 80 * min a 23 → z 67 i = j6 67 i) (fun z => (∀ c j, c ≠ 67 → z c j = j6 c j) ∧ (∀ i, i < 80 → z 67 (80 * min a 23 + i) = nI (R i)) ∧ ∀ i, i < 80 * min a 23 → z 67 i = j6 67 i) j6
    ⟨fun _ _ _ => rfl, fun i hi => absurd hi (by omega), fun _ _ => rfl⟩
    (fun m z hz => ⟨z, by simp only [f_X8_keep_l51]; rw [if_pos (by decide)], hz⟩)
    (fun m k z hk hz => Or.inr ⟨hset z 67 (80 * min a 23 + k) (nI (R k)), by
      simp only [f_X8_keep_l51]
      rw [if_neg (show ¬ (80 : Int32) ≤ nI k from nI_ge (b := 80) hk (by omega)), ag_n hk (by omega), Option.bind_some, hz.1 64 k (by omega), b4 64 k (by omega) (by omega), hR k hk, hz.1 60 9 (by omega), b2, y80, as_n (by omega) (by omega), Option.bind_some, nI_1],
      fun c j hc => by rw [hset_c hc, hz.1 c j hc],
      fun i hi => by
        rw [hset_if]
        by_cases hik : i = k
        · rw [if_pos (by omega), hik]
        · rw [if_neg (by omega), hz.2.1 i (by omega)],
      fun i hi => by rw [hset_k (by omega), hz.2.2 i hi]⟩)
  unfold f_X8_keep
  rw [b1, Option.bind_some, show f_X8_keep_l51 fuel 0 j6 = some Hb from c1, Option.bind_some]
  simp only [pf_e, Option.bind_some]
  refine ⟨_, rfl, ?_, fun k hk => ?_, fun k hk => ?_, fun c k h1 h2 => ?_⟩
  · rw [hset_self, c2 60 9 (by omega), b2, nI_1]
    congr 1
    omega
  · rw [hset_c (by omega), c3 k hk]
  · rw [hset_c (by omega), c4 k hk, b3 k hk]
  · rw [hset_if, if_neg (by omega), c2 c k h1, b4 c k h1 h2]
/-- one act more -/
theorem AC_keep {H H2 : Hp} {R Rn : Nat → Nat} {a n : Nat} {Q : Nat → Nat → Nat} (hR : Rw R) (h : AX H R a n Q) (d f1 f2 f3 f4 : Int32)
    (k5 : H2 32 5 = nI ((n + 1) % 24)) (k6 : H2 32 6 = nI (min (a + 1) 24)) (k9 : H2 60 9 = nI (min (a + 1) 24)) (kn : H2 33 n = d ∧ H2 34 n = f1 ∧ H2 35 n = f2 ∧ H2 36 n = f3 ∧ H2 37 n = f4) (ko : ∀ c k, 33 ≤ c → c ≤ 37 → k ≠ n → H2 c k = H c k)
    (w1 : ∀ k, k < 80 → H2 67 (80 * (min a 23) + k) = nI (R k)) (w2 : ∀ k, k < 80 * min a 23 → H2 67 k = H 67 (if a = 24 then k + 80 else k)) (rv : Rv d f1 f2 f3 f4 Rn R) : AC H2 Rn := by
  obtain ⟨h1, h2, h3, h4, h5, h6, h7⟩ := h
  have hm : (n + 1) % 24 < 24 := Nat.mod_lt _ (by omega)
  refine ⟨min (a + 1) 24, (n + 1) % 24, fun i => if i = min (a + 1) 24 then Rn else Q (if a = 24 then i + 1 else i), by omega, hm, k6, k9, k5, by simp, fun i hi => ?_⟩
  dsimp only
  by_cases g : i = min a 23
  · have e1 : pl ((n + 1) % 24) (min (a + 1) 24) i = n := by
      unfold pl
      by_cases q : n = 23
      · rw [q] at *; omega
      · rw [Nat.mod_eq_of_lt (show n + 1 < 24 by omega)]; omega
    have e2 : (if a = 24 then i + 1 else i) = a := by split <;> omega
    rw [e1, if_neg (show ¬ i = min (a + 1) 24 by omega), if_pos (show i + 1 = min (a + 1) 24 by omega), e2, h6, kn.1, kn.2.1, kn.2.2.1, kn.2.2.2.1, kn.2.2.2.2]
    exact ⟨hR, fun k hk => by rw [g, w1 k hk], rv⟩
  · have e1 : pl ((n + 1) % 24) (min (a + 1) 24) i = pl n a (if a = 24 then i + 1 else i) := by
      unfold pl
      by_cases q : n = 23
      · rw [q]
        split <;> omega
      · rw [Nat.mod_eq_of_lt (show n + 1 < 24 by omega)]
        split <;> omega
    have e3 : pl n a (if a = 24 then i + 1 else i) ≠ n := by
      unfold pl
      split <;> omega
    have hi2 : (if a = 24 then i + 1 else i) < a := by split <;> omega
    obtain ⟨q1, q2, q3⟩ := h7 _ hi2
    rw [if_neg (show ¬ i = min (a + 1) 24 by omega), if_neg (show ¬ i + 1 = min (a + 1) 24 by omega), e1]
    have e4 : (if a = 24 then i + 1 + 1 else i + 1) = (if a = 24 then i + 1 else i) + 1 := by split <;> rfl
    rw [e4, ko 33 _ (by omega) (by omega) e3, ko 34 _ (by omega) (by omega) e3, ko 35 _ (by omega) (by omega) e3, ko 36 _ (by omega) (by omega) e3, ko 37 _ (by omega) (by omega) e3]
    refine ⟨q1, fun k hk => ?_, q3⟩
    rw [w2 _ (by omega), ← q2 k hk]
    congr 1
    split <;> omega
/-- the end of every act -/
theorem act_fin {H H1 Hm H2 : Hp} {R Rn : Nat → Nat} {a n : Nat} {Q : Nat → Nat → Nat} {d f1 f2 f3 f4 : Int32} (hRw : Rw R) (hX : AX H R a n Q) (hw : Rw Rn) (k5 : H1 32 5 = nI ((n + 1) % 24)) (k6 : H1 32 6 = nI (min (a + 1) 24)) (kn : H1 33 n = d ∧ H1 34 n = f1 ∧ H1 35 n = f2 ∧ H1 36 n = f3 ∧ H1 37 n = f4) (ko : ∀ c k, 33 ≤ c → c ≤ 37 → k ≠ n → H1 c k = H c k) (kf : ∀ c k, c < 7 ∨ (12 < c ∧ c < 32) ∨ 37 < c → H1 c k = H c k) (hp : Rp H1 7 Rn)
    (m2 : Hm 60 9 = nI (min (a + 1) 24)) (m3 : ∀ k, k < 80 → Hm 67 (80 * (min a 23) + k) = nI (R k)) (m4 : ∀ k, k < 80 * min a 23 → Hm 67 k = hset H1 60 0 0 67 (if a = 24 then k + 80 else k)) (m5 : ∀ c k, c ≠ 67 → (c ≠ 60 ∨ k ≠ 9) → Hm c k = hset H1 60 0 0 c k) (hr : Hr H2 64 Rn) (hf : ∀ c k, c ≠ 64 → H2 c k = Hm c k) (rv : Rv d f1 f2 f3 f4 Rn R) : ∃ Rn, FU H2 Rn ∧ AC H2 Rn := by
  have fo : ∀ c k, c ≠ 64 → c ≠ 67 → c ≠ 60 → H2 c k = H1 c k := fun c k h1 h2 h3 => by
    rw [hf c k h1, m5 c k h2 (by omega), hset_c h3]
  refine ⟨Rn, ⟨hw, hr, hp.fr (fun c k h1 h2 => fo c k (by omega) (by omega) (by omega))⟩, ?_⟩
  refine AC_keep hRw hX d f1 f2 f3 f4 (by rw [fo _ _ (by omega) (by omega) (by omega), k5]) (by rw [fo _ _ (by omega) (by omega) (by omega), k6]) (by rw [hf _ _ (by omega), m2]) ?_ (fun c k h1 h2 h3 => by rw [fo _ _ (by omega) (by omega) (by omega), ko c k h1 h2 h3]) (fun k hk => by rw [hf _ _ (by omega), m3 k hk]) (fun k hk => by rw [hf _ _ (by omega), m4 k hk, hset_c (by omega), kf _ _ (by omega)]) rv
  rw [fo _ _ (by omega) (by omega) (by omega), fo _ _ (by omega) (by omega) (by omega), fo _ _ (by omega) (by omega) (by omega), fo _ _ (by omega) (by omega) (by omega), fo _ _ (by omega) (by omega) (by omega)]
  exact kn
theorem act_bad {H : Hp} {R : Nat → Nat} (h : FU H R) (hA : AC H R) : ∃ Rn, FU (hset H 60 0 0) Rn ∧ AC (hset H 60 0 0) Rn := ⟨R, h.t, hA.fr (fun c k hc => by rw [hset_if, if_neg (by omega)])⟩
theorem act_k8 {H H1 : Hp} {R : Nat → Nat} {a n : Nat} {Q : Nat → Nat → Nat} (h : FU H R) (hX : AX H R a n Q) (kf : ∀ c k, c < 7 ∨ (12 < c ∧ c < 32) ∨ 37 < c → H1 c k = H c k) : ∃ Hm, f_X8_keep (hset H1 60 0 0) = some Hm ∧ Hm 60 9 = nI (min (a + 1) 24) ∧ (∀ k, k < 80 → Hm 67 (80 * (min a 23) + k) = nI (R k)) ∧ (∀ k, k < 80 * min a 23 → Hm 67 k = hset H1 60 0 0 67 (if a = 24 then k + 80 else k)) ∧ (∀ c k, c ≠ 67 → (c ≠ 60 ∨ k ≠ 9) → Hm c k = hset H1 60 0 0 c k) ∧ Hr Hm 64 R ∧ Hr H1 64 R := by
  have hr64 : Hr (hset H1 60 0 0) 64 R := h.2.1.fr (fun k _ => by rw [hset_c (by omega), kf 64 k (by omega)])
  obtain ⟨Hm, m1, m2, m3, m4, m5⟩ := keep8 hX.1 (by rw [hset_k (by omega), kf 60 9 (by omega), hX.2.2.2.1]) hr64
  exact ⟨Hm, m1, m2, m3, m4, m5, hr64.fr (fun k _ => m5 64 k (by omega) (by omega)), h.2.1.fr (fun k _ => kf 64 k (by omega))⟩
def ru (R : Nat → Nat) (i v : Nat) : Nat → Nat := fun k => if k = i then v else R k
theorem ru_s (R : Nat → Nat) (i v : Nat) : ru R i v i = v := if_pos rfl
theorem ru_o {R : Nat → Nat} {i v k : Nat} (h : k ≠ i) : ru R i v k = R k := if_neg h
theorem Hr_ru {H : Hp} {r i v : Nat} {R : Nat → Nat} (h : Hr H r R) : Hr (hset H r i (nI v)) r (ru R i v) := by
  intro k hk
  by_cases g : k = i
  · rw [g, hset_self, ru_s]
  · rw [hset_k g, ru_o g, h k hk]
theorem q_pot {H : Hp} {R : Nat → Nat} (h : FU H R) (hA : AC H R) (x1 : Int32) : ∃ (r : Int32) (H1 H2 : Hp), f_X7_pot x1 H = some (r, H1) ∧ f_X8_pot x1 H1 = some (r, H2) ∧ ∃ Rn, FU H2 Rn ∧ AC H2 Rn := by
  have hr := h.1.1
  have m8 : ∀ H1, Hr H1 64 R → f_X8_pot x1 H1 = (if R 0 = 0 then some (-1000002, hset H1 60 0 0) else if x1 < 0 ∨ 999 < x1 then some (-1000001, hset H1 60 0 0) else (f_X8_keep (hset H1 60 0 0)).bind fun H4 => (ag H4 64 80 1).bind fun v5 => (as H4 64 80 1 x1).bind fun H6 => some (v5, H6)) := by
    intro H1 h1
    simp only [f_X8_pot, pf_e, Option.bind_some, in_0_999, within_eq]
    rw [isT8 (by rw [hset_c (by omega)]; exact h1 0 (by omega)) (by omega)]
    simp only [Option.bind_some, bz]
  simp only [f_X7_pot, within_eq, st7 h.2.2, Option.bind_some, bz]
  by_cases g0 : R 0 = 0
  · simp only [if_pos g0]
    exact ⟨_, _, _, rfl, by rw [m8 H h.2.1, if_pos g0], act_bad h hA⟩
  by_cases g1 : x1 < 0 ∨ 999 < x1
  · simp only [if_neg g0, if_pos g1]
    exact ⟨_, _, _, rfl, by rw [m8 H h.2.1, if_neg g0, if_pos g1], act_bad h hA⟩
  simp only [if_neg g0, if_neg g1]
  obtain ⟨v, -, hv, rfl⟩ := i_rng x1 0 999 (by omega) (by omega) g1
  obtain ⟨a, n, Q, hX⟩ := hA
  obtain ⟨Hk, k1, k2, k3, k4, k5, k6⟩ := keep7 hX.1 hX.2.1 hX.2.2.2.2.1 hX.2.2.1 2 (H 7 1) 0 0 0
  rw [k1, Option.bind_some]
  simp only [pf_e, Option.bind_some]
  have kf : ∀ c k, c < 7 ∨ (12 < c ∧ c < 32) ∨ 37 < c → hset Hk 7 1 (nI v) c k = H c k := fun c k hc => by rw [hset_c (by omega), k6 c k (by omega)]
  obtain ⟨Hm, m1, m2, m3, m4, m5, m6, m7⟩ := act_k8 h hX kf
  refine ⟨H 7 1, _, hset Hm 64 1 (nI v), rfl, ?_, act_fin (Rn := ru R 1 v) h.1 hX ?_ (by rw [hset_c (by omega), k2]) (by rw [hset_c (by omega), k3]) (by simp only [hset_c (show 33 ≠ 7 by omega), hset_c (show 34 ≠ 7 by omega), hset_c (show 35 ≠ 7 by omega), hset_c (show 36 ≠ 7 by omega), hset_c (show 37 ≠ 7 by omega)]; exact k4) (fun c k h1 h2 h3 => by rw [hset_c (by omega), k5 c k h1 h2 h3]) kf ?_ m2 m3 m4 m5 (Hr_ru m6) (fun c k hc => hset_c hc) (Or.inr (Or.inr (Or.inl ⟨rfl, by rw [h.2.2.2.1], fun i h1 _ => ru_o h1⟩)))⟩
  · rw [m8 _ m7, if_neg g0, if_neg g1, m1, Option.bind_some, show ag Hm 64 80 1 = ag Hm 64 80 (nI 1) from rfl, ag_n (by omega) (by omega), Option.bind_some, m6 1 (by omega), show as Hm 64 80 1 (nI v) = as Hm 64 80 (nI 1) (nI v) from rfl, as_n (by omega) (by omega), Option.bind_some, h.2.2.2.1]
  · obtain ⟨r0, r1, r2, r3, r4, r5, r6, r7⟩ := h.1
    refine ⟨by rw [ru_o (by omega)]; exact r0, by rw [ru_s]; exact hv, by rw [ru_o (by omega)]; exact r2, by rw [ru_o (by omega), ru_o (by omega)]; exact r3, by rw [ru_o (by omega)]; exact r4, fun p hp => ?_, fun j hj => ?_, fun a ha => by rw [ru_o (by omega)]; exact r7 a ha⟩
    · rw [ru_o (by omega)] at hp ⊢; exact r5 p hp
    · rw [ru_o (by omega)] at hj
      rw [ru_o (by omega), ru_o (by omega), ru_o (by omega), ru_o (by omega)]; exact r6 j hj
  · obtain ⟨p0, p1, p2, p3, p4, p5, p6, p7⟩ := h.2.2
    have fr : ∀ c k, 7 ≤ c → c ≤ 12 → ¬ (c = 7 ∧ k = 1) → hset Hk 7 1 (nI v) c k = H c k := fun c k h1 h2 h3 => by
      rw [hset_if, if_neg h3, k6 c k (by omega)]
    refine ⟨?_, ?_, ?_, ?_, ?_, fun p hp => ?_, fun a ha => ?_, fun j hj => ?_⟩
    · rw [fr _ _ (by omega) (by omega) (by omega), p0, ru_o (by omega)]
    · rw [hset_self, ru_s]
    · rw [fr _ _ (by omega) (by omega) (by omega), p2, ru_o (by omega)]
    · rw [fr _ _ (by omega) (by omega) (by omega), p3, ru_o (by omega)]
    · rw [fr _ _ (by omega) (by omega) (by omega), p4, ru_o (by omega)]
    · rw [ru_o (by omega)] at hp
      rw [fr _ _ (by omega) (by omega) (by omega), p5 p hp, ru_o (by omega)]
    · rw [fr _ _ (by omega) (by omega) (by omega), p6 a ha, ru_o (by omega)]
    · rw [ru_o (by omega)] at hj
      rw [fr _ _ (by omega) (by omega) (by omega), fr _ _ (by omega) (by omega) (by omega), fr _ _ (by omega) (by omega) (by omega), ru_o (by omega), ru_o (by omega), ru_o (by omega)]
      exact p7 j hj
theorem q_become {H : Hp} {R : Nat → Nat} (h : FU H R) (hA : AC H R) (x1 x2 : Int32) : ∃ (r : Int32) (H1 H2 : Hp), f_X7_become x1 x2 H = some (r, H1) ∧ f_X8_become x1 x2 H1 = some (r, H2) ∧ ∃ Rn, FU H2 Rn ∧ AC H2 Rn := by
  have hr := h.1.1
  have m8 : ∀ H1, Hr H1 64 R → f_X8_become x1 x2 H1 = (if x1 < 0 ∨ nI (R 0) ≤ x1 then some (-1000001, hset H1 60 0 0) else if x2 < 1 ∨ 5 < x2 then some (-1000001, hset H1 60 0 0) else (ag (hset H1 60 0 0) 64 80 (4 + x1)).bind fun v4 => if v4 = x2 then some (-1000002, hset H1 60 0 0) else (f_X8_keep (hset H1 60 0 0)).bind fun H5 => (as H5 64 80 (4 + x1) x2).bind fun H6 => some (v4, H6)) := by
    intro H1 h1
    simp only [f_X8_become, pf_e, Option.bind_some, in_1_5, within_eq]
    rw [isP8 (by rw [hset_c (by omega)]; exact h1 0 (by omega)) (by omega)]
    simp only [Option.bind_some, bz]
  simp only [f_X7_become, within_eq, isP7 h.2.2.2.2.2.1, Option.bind_some, bz]
  by_cases g0 : x1 < 0 ∨ nI (R 0) ≤ x1
  · simp only [if_pos g0]
    exact ⟨_, _, _, rfl, by rw [m8 H h.2.1, if_pos g0], act_bad h hA⟩
  by_cases g1 : x2 < 1 ∨ 5 < x2
  · simp only [if_neg g0, if_pos g1]
    exact ⟨_, _, _, rfl, by rw [m8 H h.2.1, if_neg g0, if_pos g1], act_bad h hA⟩
  simp only [if_neg g0, if_neg g1]
  obtain ⟨q, hq, rfl⟩ := gpI (by omega) g0
  obtain ⟨v, hv1, hv, rfl⟩ := i_rng x2 1 5 (by omega) (by omega) g1
  rw [ag_n (by omega) (by omega), Option.bind_some, h.2.2.2.2.2.2.2.1 q hq]
  by_cases g2 : nI (R (4 + q)) = nI v
  · rw [if_pos g2]
    refine ⟨_, _, _, rfl, ?_, act_bad h hA⟩
    rw [m8 H h.2.1, if_neg g0, if_neg g1, z4, ag_n (by omega) (by omega), Option.bind_some, hset_c (by omega), h.2.1 _ (by omega), if_pos g2]
  rw [if_neg g2]
  obtain ⟨a, n, Q, hX⟩ := hA
  obtain ⟨Hk, k1, k2, k3, k4, k5, k6⟩ := keep7 hX.1 hX.2.1 hX.2.2.2.2.1 hX.2.2.1 3 (nI q) (nI (R (4 + q))) 0 0
  rw [k1, Option.bind_some, as_n (by omega) (by omega), Option.bind_some]
  have kf : ∀ c k, c < 7 ∨ (12 < c ∧ c < 32) ∨ 37 < c → hset Hk 8 q (nI v) c k = H c k := fun c k hc => by rw [hset_c (by omega), k6 c k (by omega)]
  obtain ⟨Hm, m1, m2, m3, m4, m5, m6, m7⟩ := act_k8 h hX kf
  refine ⟨nI (R (4 + q)), _, hset Hm 64 (4 + q) (nI v), rfl, ?_, act_fin (Rn := ru R (4 + q) v) h.1 hX ?_ (by rw [hset_c (by omega), k2]) (by rw [hset_c (by omega), k3]) (by simp only [hset_c (show 33 ≠ 8 by omega), hset_c (show 34 ≠ 8 by omega), hset_c (show 35 ≠ 8 by omega), hset_c (show 36 ≠ 8 by omega), hset_c (show 37 ≠ 8 by omega)]; exact k4) (fun c k h1 h2 h3 => by rw [hset_c (by omega), k5 c k h1 h2 h3]) kf ?_ m2 m3 m4 m5 (Hr_ru m6) (fun c k hc => hset_c hc) (Or.inr (Or.inr (Or.inr (Or.inl ⟨rfl, q, by rw [ru_o (by omega)]; exact hq, rfl, rfl, fun i h1 _ => ru_o h1⟩))))⟩
  · rw [m8 _ m7, if_neg g0, if_neg g1, z4, ag_n (by omega) (by omega), Option.bind_some, hset_c (by omega), m7 _ (by omega), if_neg g2, m1, Option.bind_some, as_n (by omega) (by omega), Option.bind_some]
  · obtain ⟨r0, r1, r2, r3, r4, r5, r6, r7⟩ := h.1
    refine ⟨by rw [ru_o (by omega)]; exact r0, by rw [ru_o (by omega)]; exact r1, by rw [ru_o (by omega)]; exact r2, by rw [ru_o (by omega), ru_o (by omega)]; exact r3, by rw [ru_o (by omega)]; exact r4, fun p hp => ?_, fun j hj => ?_, fun a ha => by rw [ru_o (by omega)]; exact r7 a ha⟩
    · rw [ru_o (by omega)] at hp
      by_cases gp : p = q
      · rw [gp, ru_s]; exact ⟨hv1, hv⟩
      · rw [ru_o (by omega)]; exact r5 p hp
    · rw [ru_o (by omega)] at hj
      rw [ru_o (by omega), ru_o (by omega), ru_o (by omega), ru_o (by omega)]; exact r6 j hj
  · obtain ⟨p0, p1, p2, p3, p4, p5, p6, p7⟩ := h.2.2
    have fr : ∀ c k, 7 ≤ c → c ≤ 12 → ¬ (c = 8 ∧ k = q) → hset Hk 8 q (nI v) c k = H c k := fun c k h1 h2 h3 => by
      rw [hset_if, if_neg h3, k6 c k (by omega)]
    refine ⟨?_, ?_, ?_, ?_, ?_, fun p hp => ?_, fun a ha => ?_, fun j hj => ?_⟩
    · rw [fr _ _ (by omega) (by omega) (by omega), p0, ru_o (by omega)]
    · rw [fr _ _ (by omega) (by omega) (by omega), p1, ru_o (by omega)]
    · rw [fr _ _ (by omega) (by omega) (by omega), p2, ru_o (by omega)]
    · rw [fr _ _ (by omega) (by omega) (by omega), p3, ru_o (by omega)]
    · rw [fr _ _ (by omega) (by omega) (by omega), p4, ru_o (by omega)]
    · rw [ru_o (by omega)] at hp
      by_cases gp : p = q
      · rw [gp, hset_self, ru_s]
      · rw [fr _ _ (by omega) (by omega) (by omega), p5 p hp, ru_o (by omega)]
    · rw [fr _ _ (by omega) (by omega) (by omega), p6 a ha, ru_o (by omega)]
    · rw [ru_o (by omega)] at hj
      rw [fr _ _ (by omega) (by omega) (by omega), fr _ _ (by omega) (by omega) (by omega), fr _ _ (by omega) (by omega) (by omega), ru_o (by omega), ru_o (by omega), ru_o (by omega)]
      exact p7 j hj
