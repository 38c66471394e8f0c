/-! ring, missed, sets -/
theorem ring_in {H7 H8 : Hp} {t : Nat → Nat → Nat} (h7 : ∀ a b, a < 10 → b < 10 → f_X2_overlapOf (nI a) (nI b) H7 = some (nI (ov t a b))) (h8 : ∀ a b, a < 10 → b < 10 → H8 71 (10 * a + b) = nI (ov t a b)) {a : Nat} (ha : a < 10) : ∀ (m b : Nat) (x y z : Int32), b ≤ 10 → f_X3_likestRing_l36 H7 (nI a) m x y z (nI b) = f_X8_ring_l63 H8 (nI a) m x y z (nI b) := by
  intro m
  induction m with
  | zero => intros; rfl
  | succ m ih =>
    intro b x y z hb
    simp only [f_X3_likestRing_l36, f_X8_ring_l63]
    by_cases g : b = 10
    · rw [g, if_pos (by decide), if_pos (by decide)]
    rw [if_neg (show ¬ (10 : Int32) ≤ nI b from nI_ge (b := 10) (by omega) (by omega)), if_neg (show ¬ (10 : Int32) ≤ nI b from nI_ge (b := 10) (by omega) (by omega)), h7 a b ha (by omega), y10, ag_n (by omega) (by omega), h8 a b ha (by omega)]
    simp only [Option.bind_some, nI_1]
    by_cases g2 : nI (ov t a b) ≤ z
    · simp only [if_pos g2, Option.bind_some]
      exact ih (b + 1) x y z (by omega)
    · simp only [if_neg g2, Option.bind_some]
      exact ih (b + 1) _ _ _ (by omega)
theorem ring_out {H7 H8 : Hp} {t : Nat → Nat → Nat} (h7 : ∀ a b, a < 10 → b < 10 → f_X2_overlapOf (nI a) (nI b) H7 = some (nI (ov t a b))) (h8 : ∀ a b, a < 10 → b < 10 → H8 71 (10 * a + b) = nI (ov t a b)) : ∀ (m a : Nat) (x y z : Int32), a ≤ 10 → f_X3_likestRing_l23 H7 m x y z (nI a) = f_X8_ring_l50 H8 m x y z (nI a) := by
  intro m
  induction m with
  | zero => intros; rfl
  | succ m ih =>
    intro a x y z ha
    simp only [f_X3_likestRing_l23, f_X8_ring_l50]
    by_cases g : a = 10
    · rw [g, if_pos (by decide), if_pos (by decide)]
    rw [if_neg (show ¬ (10 : Int32) ≤ nI a from nI_ge (b := 10) (by omega) (by omega)), if_neg (show ¬ (10 : Int32) ≤ nI a from nI_ge (b := 10) (by omega) (by omega)), nI_1, ring_in h7 h8 (show a < 10 by omega) fuel (a + 1) x y z (by omega)]
    congr 1
    funext w
    exact ih (a + 1) _ _ _ (by omega)
def RI (w : Int32 × Int32 × Int32) : Prop := ∃ m, m ≤ 12000 ∧ w.2.2 = nI m ∧ (m = 0 → w.1 = -1000000 ∧ w.2.1 = -1000000)
theorem ring8 {H8 : Hp} {n : Nat} {t : Nat → Nat → Nat} (hB : Bt n t) (h8 : ∀ a b, a < 10 → b < 10 → H8 71 (10 * a + b) = nI (ov t a b)) : ∃ w, f_X8_ring_l50 H8 fuel (-1000000) (-1000000) 0 0 = some w ∧ RI w := by
  refine up0 (fun m k (z : Int32 × Int32 × Int32) => f_X8_ring_l50 H8 m z.1 z.2.1 z.2.2 (nI k)) 10 (by omega) (fun k z => RI z) RI (-1000000, -1000000, 0) ⟨0, by omega, rfl, fun _ => ⟨rfl, rfl⟩⟩
    (fun m z hz => ⟨z, by simp only [f_X8_ring_l50]; rw [if_pos (by decide)], hz⟩)
    (fun m a z ha hz => ?_)
  obtain ⟨w, e1, e2⟩ := upx (fun m k (z : Int32 × Int32 × Int32) => f_X8_ring_l63 H8 (nI a) m z.1 z.2.1 z.2.2 (nI k)) 10 (fun k z => RI z) RI
    (fun m z hz => ⟨z, by simp only [f_X8_ring_l63]; rw [if_pos (by decide)], hz⟩)
    (fun m b z hb hz => by
      obtain ⟨q, q1, q2, q3⟩ := hz
      have ro := ov_le2 hB a b
      simp only [f_X8_ring_l63]
      rw [if_neg (show ¬ (10 : Int32) ≤ nI b from nI_ge (b := 10) (by omega) (by omega)), y10, ag_n (by omega) (by omega), h8 a b ha hb]
      simp only [Option.bind_some, nI_1]
      rw [q2]
      simp only [nI_le' (show ov t a b < 2 ^ 31 by omega) (show q < 2 ^ 31 by omega)]
      by_cases g : ov t a b ≤ q
      · simp only [if_pos g, Option.bind_some]
        exact Or.inr ⟨(z.1, z.2.1, nI q), rfl, q, q1, rfl, q3⟩
      · simp only [if_neg g, Option.bind_some]
        exact Or.inr ⟨(nI a, nI b, nI (ov t a b)), rfl, ov t a b, ro, rfl, fun z => by omega⟩) (10 - (a + 1)) fuel (a + 1) z (by omega) (by unfold fuel; omega) hz
  refine Or.inr ⟨w, ?_, e2⟩
  simp only [f_X8_ring_l50]
  rw [if_neg (show ¬ (10 : Int32) ≤ nI a from nI_ge (b := 10) (by omega) (by omega)), nI_1, e1, Option.bind_some]
theorem q_ring {H : Hp} {R : Nat → Nat} (h : FU H R) (x1 : Int32) : ∃ (r : Int32) (H1 H2 : Hp), f_X7_ring x1 H = some (r, H1) ∧ f_X8_ring x1 H1 = some (r, H2) := by
  have hr := h.1.1
  have m8 : ∀ H1, FU H1 R → f_X8_ring x1 H1 = (if R 0 = 0 then some (-1000002, hset H1 60 0 0) else if x1 < 0 ∨ 2 < x1 then some (-1000001, hset H1 60 0 0) else (f_X8_lookAt 64 (hset H1 60 0 0)).bind fun H4 => (f_X8_ring_l50 H4 fuel (-1000000) (-1000000) 0 0).bind fun l13 => some ((if x1 = 0 then l13.1 else (if x1 = 1 then l13.2.1 else (if l13.2.2 = 0 then (-1000000) else l13.2.2))), H4)) := by
    intro H1 h1
    simp only [f_X8_ring, pf_e, Option.bind_some, in_0_2, within_eq]
    rw [isT8 (h1.t.2.1 0 (by omega)) (by omega)]
    simp only [Option.bind_some, bz]
  simp only [f_X7_ring, within_eq, st7 h.2.2, Option.bind_some, bz]
  by_cases g0 : R 0 = 0
  · simp only [if_pos g0]
    exact ⟨_, _, _, rfl, by rw [m8 H h, if_pos g0]⟩
  by_cases g1 : x1 < 0 ∨ 2 < x1
  · simp only [if_neg g0, if_pos g1]
    exact ⟨_, _, _, rfl, by rw [m8 H h, if_neg g0, if_pos g1]⟩
  simp only [if_neg g0, if_neg g1]
  obtain ⟨w, -, hw, rfl⟩ := i_rng x1 0 2 (by omega) (by omega) g1
  obtain ⟨Ha, a1, a2, a3⟩ := lay7 h.1 h.2.2
  have hF : FU Ha R := h.fr (fun c k hc => fr_X2_lay a1 c k (by omega))
  obtain ⟨Hb, b1, b2, b3⟩ := look8 (r := 64) (by omega) hF.1 hF.t.2.1
  obtain ⟨⟨y1, y2, y3⟩, c1, m, c2, c3, c4⟩ := ring8 (tb_B h.1) b3.2
  dsimp only at c3 c4
  have e7 : f_X3_likestRing_l23 Ha fuel (-1000000) (-1000000) 0 0 = some (y1, y2, y3) := by
    rw [← c1]
    exact ring_out (fun a b ha hb => over7 hr (tb_B h.1) a2 ha hb) b3.2 fuel 0 _ _ _ (by omega)
  unfold f_X3_likestRing
  rw [a1, Option.bind_some, e7, Option.bind_some]
  have e8 := m8 Ha hF
  rw [if_neg g0, if_neg g1, b1, Option.bind_some, c1, Option.bind_some] at e8
  dsimp only at e8 ⊢
  rw [c3] at e8 ⊢
  have em : (nI m = 0) = (m = 0) := nI_eq' (b := 0) (by omega) (by omega)
  simp only [em] at e8 ⊢
  by_cases gm : m = 0
  · obtain ⟨d1, d2⟩ := c4 gm
    rw [d1, d2] at e8
    simp only [if_pos gm, Option.bind_some] at e8 ⊢
    refine ⟨-1000000, Ha, Hb, rfl, ?_⟩
    rw [e8]
    simp
  · simp only [if_neg gm] at e8 ⊢
    rcases (show w = 0 ∨ w = 1 ∨ w = 2 by omega) with rfl | rfl | rfl
    · exact ⟨_, _, _, rfl, e8⟩
    · exact ⟨_, _, _, rfl, e8⟩
    · exact ⟨_, _, _, rfl, e8⟩
/-! without some names -/
def Wk (R : Nat → Nat) (L : Nat → Bool) : Nat → Nat → Nat
  | 0 => fun i => if i = 3 then 0 else R i
  | k + 1 => if L (R (70 + R (10 + 3 * k))) then Wk R L k else Pt (Wk R L k) (R (10 + 3 * k)) (R (11 + 3 * k)) (R (12 + 3 * k))
theorem Wk_fact {R : Nat → Nat} (h : Rw R) (L : Nat → Bool) : ∀ k, k ≤ R 3 → Rw (Wk R L k) ∧ Wk R L k 3 ≤ k ∧ (∀ i, i ≠ 3 → (i < 10 ∨ 70 ≤ i) → Wk R L k i = R i) ∧ ∀ x q, tb (Wk R L k) x q = if L x then 0 else tk R k x q := by
  intro k
  induction k with
  | zero =>
    intro _
    obtain ⟨r0, r1, r2, r3, r4, r5, r6, r7⟩ := h
    refine ⟨⟨?_, ?_, ?_, ?_, ?_, fun p hp => ?_, fun j hj => ?_, fun a ha => ?_⟩, ?_, fun i h1 _ => ?_, fun x q => ?_⟩
    · simpa [Wk] using r0
    · simpa [Wk] using r1
    · simpa [Wk] using r2
    · simpa [Wk] using r3
    · simp [Wk]
    · simp only [Wk] at hp ⊢
      rw [if_neg (by omega)] at hp ⊢
      exact r5 p hp
    · simp [Wk] at hj
    · simp only [Wk]
      rw [if_neg (by omega)]
      exact r7 a ha
    · simp [Wk]
    · simp [Wk, h1]
    · have : tb (Wk R L 0) x q = 0 := by
        unfold tb tk
        rw [show Wk R L 0 3 = 0 by simp [Wk], sm_0]
      rw [this]
      unfold tk
      rw [sm_0]
      split <;> rfl
  | succ k ih =>
    intro hk
    obtain ⟨i1, i2, i3, i4⟩ := ih (by omega)
    have hb := h.2.2.2.2.1
    obtain ⟨g1, g2, g3, g4⟩ := h.2.2.2.2.2.2.1 k (by omega)
    simp only [Wk]
    by_cases hL : L (R (70 + R (10 + 3 * k))) = true
    · rw [if_pos hL]
      refine ⟨i1, by omega, i3, fun x q => ?_⟩
      rw [i4 x q]
      by_cases hx : L x = true
      · rw [if_pos hx, if_pos hx]
      · rw [if_neg hx, if_neg hx]
        unfold tk
        rw [sm_s, if_neg (fun z => hx (by rw [← z.1]; exact hL))]; rfl
    · rw [if_neg hL]
      refine ⟨Rw_Pt i1 (by omega) g1 (by rw [i3 0 (by omega) (by omega)]; exact g2) g3 g4, by rw [Pt_3]; omega, fun i h1 h2 => ?_, fun x q => ?_⟩
      · rw [Pt_o h1 (by omega), i3 i h1 h2]
      · rw [tb_Pt i1 (by omega) g1, i4 x q, i3 _ (by omega) (by omega)]
        unfold tk
        rw [sm_s]
        by_cases hx : L x = true
        · rw [if_pos hx, if_pos hx, if_neg (fun z => hL (by rw [z.1]; exact hx))]
        · rw [if_neg hx, if_neg hx]
theorem tb_out {R : Nat → Nat} (h : Rw R) {x : Nat} (hx : 10 ≤ x) (q : Nat) : tb R x q = 0 := by
  refine sm_z (fun j hj => if_neg (fun z => ?_))
  have := h.2.2.2.2.2.2.2 _ (h.2.2.2.2.2.2.1 j hj).1
  omega
theorem mk_ext {R : Nat → Nat} (h : Rw R) {L L2 : Nat → Bool} (hL : ∀ a, a < 10 → L a = L2 a) : mk L (tb R) = mk L2 (tb R) := by
  funext a p
  unfold mk
  by_cases ha : a < 10
  · rw [hL a ha]
  · rw [tb_out h (by omega)]; simp
theorem without8 {H : Hp} {R : Nat → Nat} (hR : Rw R) (h0 : 0 < R 0) (h : Hr H 64 R) {S : Nat} (hS : S < 2 ^ 31) : ∃ H2, f_X8_layWithout (nI S) H = some H2 ∧ MT H H2 (Wk R (fun a => decide (S / 2 ^ a % 2 = 1)) (R 3)) := by
  obtain ⟨Ha, a1, a2, a3⟩ := then8 h
  have hb := hR.2.2.2.2.1
  have wf := Wk_fact hR (fun a => decide (S / 2 ^ a % 2 = 1))
  obtain ⟨Hb, b1, b2, b3⟩ := up0 (fun m k z => f_X8_layWithout_l13 (nI S) m (nI k) z) (R 3) (by omega) (fun k z => (∀ c j, c ≠ 66 → z c j = H c j) ∧ Hr z 66 (Wk R (fun a => decide (S / 2 ^ a % 2 = 1)) k)) (fun z => (∀ c j, c ≠ 66 → z c j = H c j) ∧ Hr z 66 (Wk R (fun a => decide (S / 2 ^ a % 2 = 1)) (R 3))) (hset Ha 66 3 0)
    ⟨fun c j hc => by rw [hset_c hc, a3 c j hc], fun k hk => by
      by_cases k3 : k = 3
      · rw [k3, hset_self]; rfl
      · rw [hset_k k3, a2 k hk]; simp [Wk, k3]⟩
    (fun m z hz => ⟨z, by
      simp only [f_X8_layWithout_l13]
      rw [show ag z 64 80 3 = ag z 64 80 (nI 3) from rfl, ag_n (by omega) (by omega), Option.bind_some, hz.1 64 3 (by omega), h 3 (by omega), if_pos (nI_le (Nat.le_refl _) (by omega))], hz⟩)
    (fun m k z hk hz => by
      obtain ⟨z1, z2⟩ := hz
      obtain ⟨w1, w2, w3, w4⟩ := wf k (by omega)
      obtain ⟨g1, g2, g3, g4⟩ := hR.2.2.2.2.2.2.1 k hk
      have g5 := hR.2.2.2.2.2.2.2 _ g1
      have er : ∀ i, i < 80 → z 64 i = nI (R i) := fun i hi => by rw [z1 64 i (by omega), h i hi]
      simp only [f_X8_layWithout_l13]
      rw [show ag z 64 80 3 = ag z 64 80 (nI 3) from rfl, ag_n (by omega) (by omega), Option.bind_some, er 3 (by omega), if_neg (nI_ge hk (by omega)), of_0 (by omega), of_1 (by omega), of_2 (by omega), er _ (by omega), er _ (by omega), er _ (by omega)]
      simp only [Option.bind_some]
      rw [z70, ag_n (by omega) (by omega), Option.bind_some, er _ (by omega), hasN hS (by omega), Option.bind_some, nI_1]
      by_cases gL : S / 2 ^ R (70 + R (10 + 3 * k)) % 2 = 1
      · rw [if_pos gL, if_neg (by decide), Option.bind_some]
        exact Or.inr ⟨z, rfl, z1, by simp only [Wk]; rw [if_pos (by simp [gL])]; exact z2⟩
      · rw [if_neg gL, if_pos rfl]
        obtain ⟨z3, p1, p2, p3⟩ := put8 z2 (show Wk R (fun a => decide (S / 2 ^ a % 2 = 1)) k 3 < 20 by omega) (R (10 + 3 * k)) (R (11 + 3 * k)) (R (12 + 3 * k))
        rw [p1, Option.bind_some, Option.bind_some]
        exact Or.inr ⟨z3, rfl, fun c j hc => by rw [p3 c j hc, z1 c j hc], by simp only [Wk]; rw [if_neg (by simp [gL])]; exact p2⟩)
  obtain ⟨w1, w2, w3, w4⟩ := wf (R 3) (Nat.le_refl _)
  obtain ⟨Hc, c1, c2, -⟩ := rk66 (H := H) w1 (by rw [w3 0 (by omega) (by omega)]; exact h0) b3 b2
  refine ⟨Hc, ?_, c2⟩
  unfold f_X8_layWithout
  rw [a1, Option.bind_some, show as Ha 66 80 3 0 = as Ha 66 80 (nI 3) 0 from rfl, as_n (by omega) (by omega), Option.bind_some, show f_X8_layWithout_l13 (nI S) fuel 0 (hset Ha 66 3 0) = some Hb from b1, Option.bind_some, c1]; rfl
/-- what is paid without the names of L, on both sides -/
theorem wo_PD {R : Nat → Nat} (h : Rw R) {L L2 : Nat → Bool} (hL : ∀ a, a < 10 → L a = L2 a) : Wk R L (R 3) 0 = R 0 ∧ Wk R L (R 3) 1 = R 1 ∧ ∀ q, q < R 0 → CR (Wk R L (R 3)) q = CB (κR R) (R 2) (tb R) L2 q := by
  obtain ⟨w1, w2, w3, w4⟩ := Wk_fact h L (R 3) (Nat.le_refl _)
  have := h.1
  refine ⟨w3 0 (by omega) (by omega), w3 1 (by omega) (by omega), fun q hq => ?_⟩
  refine CR_like (w3 2 (by omega) (by omega)) (fun k hk => w3 _ (by omega) (by omega)) ?_ (by omega)
  rw [← mk_ext h hL]
  funext x q
  rw [w4 x q]
  rfl
theorem tb_bsum (n : Nat) (b : Nat → Bool) (k : Nat) : (bsum n b).testBit k = (decide (k < n) && b k) := by
  by_cases hk : k < n
  · rw [Nat.testBit_eq_decide_div_mod_eq, bsum_bit b hk]
    cases b k <;> simp [hk]
  · rw [Nat.testBit_lt_two_pow (Nat.lt_of_lt_of_le (bsum_lt n b) (Nat.pow_le_pow_right (by omega) (by omega)))]
    simp [hk]
theorem bsum_orb (n : Nat) (b c : Nat → Bool) : bsum n b ||| bsum n c = bsum n (fun g => b g || c g) := by
  apply Nat.eq_of_testBit_eq
  intro k
  rw [Nat.testBit_or, tb_bsum, tb_bsum, tb_bsum]
  cases decide (k < n) <;> simp
theorem giversA8 {H : Hp} {R : Nat → Nat} (hR : Rw R) (h : Hr H 64 R) : ∃ H2, f_X8_givers 64 H = some (nI (bsum 10 (fun g => decide (0 < sm 6 (tb R g)))), H2) ∧ ∀ c j, c ≠ 69 → c ≠ 70 → c ≠ 71 → H2 c j = H c j := by
  obtain ⟨Ha, a1, a2, a3⟩ := look8 (r := 64) (by omega) hR h
  have hr := hR.1
  have hB := tb_B hR
  obtain ⟨v, e1, e2⟩ := up0 (fun m k z => f_X8_givers_l9 64 Ha m z (nI k)) (R 0) (by omega) (fun k z => z = nI (bsum 10 (fun g => decide (0 < sm k (tb R g))))) (fun z => z = nI (bsum 10 (fun g => decide (0 < sm (R 0) (tb R g))))) 0 (by
      unfold bsum
      rw [sm_z (fun g _ => if_neg (by simp [sm_0]))]; rfl)
    (fun m z hz => ⟨z, by
      simp only [f_X8_givers_l9]
      rw [show ag Ha 64 80 0 = ag Ha 64 80 (nI 0) from rfl, ag_n (by omega) (by omega), Option.bind_some, a2 64 0 (by omega) (by omega) (by omega), h 0 (by omega), if_pos (nI_le (Nat.le_refl _) (by omega))], hz⟩)
    (fun m k z hk hz => Or.inr ⟨nI (bsum 10 (fun g => decide (0 < sm (k + 1) (tb R g)))), by
      simp only [f_X8_givers_l9]
      rw [show ag Ha 64 80 0 = ag Ha 64 80 (nI 0) from rfl, ag_n (by omega) (by omega), Option.bind_some, a2 64 0 (by omega) (by omega) (by omega), h 0 (by omega), if_neg (nI_ge hk (by omega)), givers8 hB a3 (by omega), Option.bind_some, hz, orN, bsum_orb, nI_1]
      congr 3
      funext g
      rw [sm_s]
      by_cases g1 : 0 < sm k (tb R g)
      · simp [g1]; omega
      · by_cases g2 : 0 < tb R g k
        · simp [g1, g2]; omega
        · simp [g1, g2]; omega, rfl⟩)
  refine ⟨Ha, ?_, a2⟩
  unfold f_X8_givers
  rw [a1, Option.bind_some, show f_X8_givers_l9 64 Ha fuel 0 0 = some v from e1, Option.bind_some, e2]
  congr 4
  funext g
  rw [sm_ext hr (fun p h1 _ => (hB g p).2 h1)]
theorem hasB {n k : Nat} (b : Nat → Bool) (hn : n ≤ 30) (hk : k < n) : f_X8_has (nI (bsum n b)) (nI k) = some (if b k then 1 else 0) := by
  rw [hasN (Nat.lt_of_lt_of_le (bsum_lt n b) (Nat.pow_le_pow_right (by omega) (by omega))) (by omega), bsum_bit b hk]
  cases b k <;> simp
noncomputable def dm (R : Nat → Nat) (p g : Nat) : Int32 := nI (PD (R 0) (R 1) (CB (κR R) (R 2) (tb R) (Lp L0 g true)) p)
noncomputable def mf (R : Nat → Nat) (p : Nat) : Nat → Int32 × Int32
  | 0 => (-1000000, -1000000)
  | k + 1 => if 0 < sm 6 (tb R k) then (if (mf R p k).1 = -1000000 then (nI k, dm R p k) else if (mf R p k).2 ≤ dm R p k then mf R p k else (nI k, dm R p k)) else mf R p k
theorem miss7 {H : Hp} {R : Nat → Nat} (h : FU H R) {p : Nat} (hp : p < R 0) (x2 : Int32) : ∃ Hz, f_X3_mostMissed (nI p) x2 H = some ((if x2 = 0 then (mf R p 10).1 else (mf R p 10).2), Hz) ∧ FU Hz R := by
  have hr := h.1.1
  obtain ⟨Ha, a1, a2, a3⟩ := load7 h.1 (by omega) h.2.2
  have ok := okR h.1 (show 0 < R 0 by omega)
  have hFa : FU Ha R := h.fr (fun c k hc => fr_X2_load a1 c k (by omega))
  obtain ⟨⟨y1, y2, Hz⟩, e1, e2, e3⟩ := up0 (fun m k (z : Int32 × Int32 × Hp) => f_X3_mostMissed_l21 (nI p) m z.1 z.2.1 (nI k) z.2.2) 10 (by omega) (fun k z => (z.1, z.2.1) = mf R p k ∧ FU z.2.2 R ∧ BO z.2.2 (R 0) (R 1) (R 2) (κR R) (tb R) L0) (fun z => (z.1, z.2.1) = mf R p 10 ∧ FU z.2.2 R) (-1000000, -1000000, Ha)
    ⟨rfl, hFa, a2⟩
    (fun m z hz => ⟨z, by simp only [f_X3_mostMissed_l21]; rw [if_pos (by decide)], hz.1, hz.2.1⟩)
    (fun m k z hk hz => by
      obtain ⟨z1, z2, z3⟩ := hz
      have q1 : z.1 = (mf R p k).1 := congrArg Prod.fst z1
      have q2 : z.2.1 = (mf R p k).2 := congrArg Prod.snd z1
      simp only [f_X3_mostMissed_l21]
      rw [if_neg (show ¬ (10 : Int32) ≤ nI k from nI_ge (b := 10) hk (by omega)), gives7 hr ok.2.1 z3.1 hk, Option.bind_some, nI_1, q1, q2]
      by_cases g0 : 0 < sm 6 (tb R k)
      · rw [if_pos g0, if_neg (by decide)]
        obtain ⟨H3, b1, b2⟩ := leave7 ok z3 hk rfl
        obtain ⟨H4, c1, c2, c3, c4, c5⟩ := settle7 ok h.1.2.1 b2
        obtain ⟨H5, d1, d2⟩ := join7 ok c2 hk (by simp [Lp])
        rw [Lp_back L0 k rfl] at d2
        have ev : H5 48 p = dm R p k := by rw [fr_X2_join d1 48 p (by omega), (c3 p hp).2]; rfl
        have hF5 : FU H5 R := z2.fr (fun c j hc => by rw [fr_X2_join d1 c j (by omega), fr_X2_settle c1 c j (by omega), fr_X2_leave b1 c j (by omega)])
        rw [b1, Option.bind_some, c1, Option.bind_some, d1, Option.bind_some, ag_n (by omega) (by omega), ev]
        simp only [Option.bind_some]
        refine Or.inr ⟨((mf R p (k + 1)).1, (mf R p (k + 1)).2, H5), ?_, rfl, hF5, d2⟩
        simp only [mf, if_pos g0]
        by_cases g1 : (mf R p k).1 = -1000000
        · simp only [if_pos g1, Option.bind_some]
        · simp only [if_neg g1]
          by_cases g2 : (mf R p k).2 ≤ dm R p k
          · simp only [if_pos g2, Option.bind_some]
          · simp only [if_neg g2, Option.bind_some]
      · rw [if_neg g0, if_pos rfl, Option.bind_some]
        exact Or.inr ⟨((mf R p k).1, (mf R p k).2, z.2.2), rfl, by simp only [mf, if_neg g0], z2, z3⟩)
  refine ⟨Hz, ?_, e3⟩
  have q1 : y1 = (mf R p 10).1 := congrArg Prod.fst e2
  have q2 : y2 = (mf R p 10).2 := congrArg Prod.snd e2
  unfold f_X3_mostMissed
  rw [a1, Option.bind_some, show f_X3_mostMissed_l21 (nI p) fuel (-1000000) (-1000000) 0 Ha = some (y1, y2, Hz) from e1, Option.bind_some, ← q1, ← q2]
theorem bit2 : ∀ g, g < 10 → ∀ a, a < 10 → decide (2 ^ g / 2 ^ a % 2 = 1) = Lp L0 g true a := by decide
theorem miss8 {H : Hp} {R : Nat → Nat} (hR : Rw R) (hH : Hr H 64 R) {p : Nat} (hp : p < R 0) : ∃ Hz, f_X8_missed_l46 (nI p) (nI (bsum 10 (fun g => decide (0 < sm 6 (tb R g))))) fuel (-1000000) (-1000000) 0 H = some ((mf R p 10).1, (mf R p 10).2, Hz) := by
  have hr := hR.1
  obtain ⟨⟨y1, y2, Hz⟩, e1, e2⟩ := up0 (fun m k (z : Int32 × Int32 × Hp) => f_X8_missed_l46 (nI p) (nI (bsum 10 (fun g => decide (0 < sm 6 (tb R g))))) m z.1 z.2.1 (nI k) z.2.2) 10 (by omega) (fun k z => (z.1, z.2.1) = mf R p k ∧ Hr z.2.2 64 R) (fun z => (z.1, z.2.1) = mf R p 10) (-1000000, -1000000, H)
    ⟨rfl, hH⟩
    (fun m z hz => ⟨z, by simp only [f_X8_missed_l46]; rw [if_pos (by decide)], hz.1⟩)
    (fun m k z hk hz => by
      obtain ⟨z1, z2⟩ := hz
      have q1 : z.1 = (mf R p k).1 := congrArg Prod.fst z1
      have q2 : z.2.1 = (mf R p k).2 := congrArg Prod.snd z1
      simp only [f_X8_missed_l46]
      rw [if_neg (show ¬ (10 : Int32) ≤ nI k from nI_ge (b := 10) hk (by omega)), hasB _ (by omega) hk, Option.bind_some, nI_1, q1, q2]
      by_cases g0 : 0 < sm 6 (tb R k)
      · rw [if_neg (by simp [g0]), shl1 (by omega)]
        have h2k : 2 ^ k < 2 ^ 31 := Nat.pow_lt_pow_right (by omega) (by omega)
        obtain ⟨H6, b1, b2⟩ := without8 hR (by omega) z2 h2k
        obtain ⟨w0, w1, w2⟩ := wo_PD hR (L := fun a => decide (2 ^ k / 2 ^ a % 2 = 1)) (L2 := Lp L0 k true) (fun a ha => bit2 k hk a ha)
        have b4 := (b2.2.2.1 p (by rw [w0]; exact hp)).2
        rw [w0, w1, PD_congr w2 hp] at b4
        have ev : H6 73 p = dm R p k := b4
        rw [b1, Option.bind_some, ag_n (by omega) (by omega), ev]
        simp only [Option.bind_some]
        refine Or.inr ⟨((mf R p (k + 1)).1, (mf R p (k + 1)).2, H6), ?_, rfl, z2.fr (fun j _ => b2.1 64 j (by omega) (by omega))⟩
        simp only [mf, if_pos g0]
        by_cases g1 : (mf R p k).1 = -1000000
        · simp only [if_pos g1, Option.bind_some]
        · simp only [if_neg g1]
          by_cases g2 : (mf R p k).2 ≤ dm R p k
          · simp only [if_pos g2, Option.bind_some]
          · simp only [if_neg g2, Option.bind_some]
      · rw [if_pos (by simp [g0]), Option.bind_some]
        exact Or.inr ⟨((mf R p k).1, (mf R p k).2, z.2.2), rfl, by simp only [mf, if_neg g0], z2⟩)
  have q1 : y1 = (mf R p 10).1 := congrArg Prod.fst e2
  have q2 : y2 = (mf R p 10).2 := congrArg Prod.snd e2
  exact ⟨Hz, by rw [← q1, ← q2]; exact e1⟩
theorem q_missed {H : Hp} {R : Nat → Nat} (h : FU H R) (x1 x2 : Int32) : ∃ (r : Int32) (H1 H2 : Hp), f_X7_missed x1 x2 H = some (r, H1) ∧ f_X8_missed x1 x2 H1 = some (r, H2) := by
  have hr := h.1.1
  have m8 : ∀ H1, FU H1 R → f_X8_missed x1 x2 H1 = (if x1 < 0 ∨ nI (R 0) ≤ x1 then some (-1000001, hset H1 60 0 0) else if x2 < 0 ∨ 1 < x2 then some (-1000001, hset H1 60 0 0) else (f_X8_givers 64 (hset H1 60 0 0)).bind fun q4 => (f_X8_missed_l46 x1 q4.1 fuel (-1000000) (-1000000) 0 q4.2).bind fun l16 => some ((if x2 = 0 then l16.1 else l16.2.1), l16.2.2)) := by
    intro H1 h1
    simp only [f_X8_missed, pf_e, Option.bind_some, in_0_1, within_eq]
    rw [isP8 (h1.t.2.1 0 (by omega)) (by omega)]
    simp only [Option.bind_some, bz]
  simp only [f_X7_missed, within_eq, isP7 h.2.2.2.2.2.1, Option.bind_some, bz]
  by_cases g1 : x1 < 0 ∨ nI (R 0) ≤ x1
  · simp only [if_pos g1]
    exact ⟨_, _, _, rfl, by rw [m8 H h, if_pos g1]⟩
  by_cases g2 : x2 < 0 ∨ 1 < x2
  · simp only [if_neg g1, if_pos g2]
    exact ⟨_, _, _, rfl, by rw [m8 H h, if_neg g1, if_pos g2]⟩
  simp only [if_neg g1, if_neg g2]
  obtain ⟨p, hp, rfl⟩ := gpI (by omega) g1
  obtain ⟨Hz, z1, z2⟩ := miss7 h hp x2
  obtain ⟨Ha, a1, a2⟩ := giversA8 h.1 z2.t.2.1
  obtain ⟨Hy, y1⟩ := miss8 (p := p) h.1 (z2.t.2.1.fr (H2 := Ha) (fun j _ => a2 64 j (by omega) (by omega) (by omega))) hp
  rw [z1, Option.bind_some]
  exact ⟨_, _, _, rfl, by rw [m8 Hz z2, if_neg g1, if_neg g2, a1, Option.bind_some, y1, Option.bind_some]⟩
