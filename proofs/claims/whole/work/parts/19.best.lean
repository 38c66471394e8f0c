/-! best, least, ring -/
def bf (g : Nat → Int32) : Nat → Int32 × Int32
  | 0 => (0, 0)
  | k + 1 => if k = 0 then (0, g 0) else if g k ≤ (bf g k).2 then bf g k else (nI k, g k)
theorem bf_1 (g : Nat → Int32) (k : Nat) : ∃ j, j ≤ k ∧ (bf g k).1 = nI j := by
  induction k with
  | zero => exact ⟨0, by omega, rfl⟩
  | succ k ih =>
    obtain ⟨j, hj, e⟩ := ih
    simp only [bf]
    split
    · exact ⟨0, by omega, rfl⟩
    · split
      · exact ⟨j, by omega, e⟩
      · exact ⟨k, by omega, rfl⟩
theorem nI_none {j : Nat} (h : j < 1000) : nI j ≠ -1000000 := by
  intro z
  have : (nI j).toInt = (-1000000 : Int32).toInt := by rw [z]
  rw [nI_toInt (by omega), show (-1000000 : Int32).toInt = -1000000 by decide] at this
  omega
noncomputable def gr (R : Nat → Nat) (a v q : Nat) : Int32 := nI (PD (R 0) (R 1) (CR (TG R a q v)) q) - nI (PD (R 0) (R 1) (CR R) q)
theorem ac6 (H : Hp) : ac H 48 6 0 56 6 0 6 = some (fillH H 56 0 6 (fun t => H 48 (0 + t))) := by
  rw [← hcpy_fill]
  unfold ac
  rw [if_pos (by decide)]
  rfl
theorem best7 {H : Hp} {R : Nat → Nat} (h : FU H R) (h0 : 0 < R 0) {a v : Nat} (ha : a < 10) (h1 : 1 ≤ v) (h2 : v ≤ 99) (h3 : R 3 < 20) (x3 : Int32) : ∃ Hz, f_X3_bestTarget (nI a) (nI v) x3 H = some ((if x3 = 0 then (bf (gr R a v) (R 0)).1 else (bf (gr R a v) (R 0)).2), Hz) ∧ FU Hz R := by
  have hr := h.1.1
  have hn := h.1.2.2.2.2.2.2.2 a ha
  obtain ⟨Ha, Hb, a1, b1, hF, b2, b3, b4, b5, -⟩ := both h h0
  have ok := okR h.1 h0
  obtain ⟨⟨y1, y2, Hz⟩, e1, e2, e3, e4⟩ := up0 (fun m k (z : Int32 × Int32 × Hp) => f_X3_bestTarget_l56 (nI v) (nI (R (70 + a))) m z.1 z.2.1 (nI k) z.2.2) (R 0) (by omega) (fun k z => (z.1, z.2.1) = bf (gr R a v) k ∧ FU z.2.2 R ∧ BO z.2.2 (R 0) (R 1) (R 2) (κR R) (tb R) L0 ∧ ∀ p, p < R 0 → z.2.2 56 p = nI (PD (R 0) (R 1) (CR R) p)) (fun z => (z.1, z.2.1) = bf (gr R a v) (R 0) ∧ FU z.2.2 R ∧ True) (0, 0, fillH Hb 56 0 6 (fun t => Hb 48 (0 + t)))
    ⟨rfl, hF.fr (H2 := fillH Hb 56 0 6 (fun t => Hb 48 (0 + t))) (fun c k hc => fill_c (show c ≠ 56 by omega)), b2.fr (H2 := fillH Hb 56 0 6 (fun t => Hb 48 (0 + t))) (fun c k hc => fill_c (show c ≠ 56 by omega)), fun p hp => by dsimp only; rw [fill_in (by omega) (by omega), Nat.zero_add, Nat.sub_zero, (b3 p hp).2]⟩
    (fun m z hz => ⟨z, by
      simp only [f_X3_bestTarget_l56]
      rw [hz.2.1.2.2.2.2.2.1, if_pos (nI_le (Nat.le_refl _) (by omega))], hz.1, hz.2.1, trivial⟩)
    (fun m k z hk hz => by
      obtain ⟨z1, z2, z3, z4⟩ := hz
      have tl := tb_le h.1 (Or.inr h3) ha hk h2
      obtain ⟨H5, p1, p2⟩ := add7 ok z3 hn hk rfl (nI v) (nI_add _ _) tl
      have ok2 : Ok (R 0) (R 2) (ts (tb R) (R (70 + a)) k (tb R (R (70 + a)) k + v)) := ⟨hr, ts_B (tb_B h.1) hk tl, ok.2.2⟩
      obtain ⟨H6, s1, s2, s3, s4, s5⟩ := settle7 ok2 h.1.2.1 p2
      obtain ⟨H7, t1, t2⟩ := add7 (v := tb R (R (70 + a)) k) ok2 s2 hn hk rfl (-nI v) (by rw [ts_at, ← Int32.sub_eq_add_neg, pk_sub (by omega), Nat.add_sub_cancel]) (by omega)
      rw [ts_ts, ts_self] at t2
      have fr : ∀ c j, c < 38 ∨ 48 < c → H7 c j = z.2.2 c j := fun c j hc => by rw [fr_X2_add t1 c j (by omega), fr_X2_settle s1 c j (by omega), fr_X2_add p1 c j (by omega)]
      have eg : nI (PD (R 0) (R 1) (CB (κR R) (R 2) (ts (tb R) (R (70 + a)) k (tb R (R (70 + a)) k + v)) L0) k) - nI (PD (R 0) (R 1) (CR R) k) = gr R a v k := by
        unfold gr
        rw [PD_congr (tg_PD h.1 (Or.inr h3) ha hk) hk]
      refine Or.inr ⟨((bf (gr R a v) (k + 1)).1, (bf (gr R a v) (k + 1)).2, H7), ?_, rfl, z2.fr (fun c j hc => fr c j (by omega)), t2, fun p hp => by dsimp only; rw [fr 56 p (by omega), z4 p hp]⟩
      simp only [f_X3_bestTarget_l56]
      rw [z2.2.2.2.2.2.1, if_neg (nI_ge hk (by omega)), p1, Option.bind_some, s1, Option.bind_some, t1, Option.bind_some, ag_n (by omega) (by omega), Option.bind_some, ag_n (by omega) (by omega), Option.bind_some, fr 56 k (by omega), z4 k hk, fr_X2_add t1 48 k (by omega), (s3 k hk).2, eg, nI_1]
      have q1 : z.1 = (bf (gr R a v) k).1 := congrArg Prod.fst z1
      have q2 : z.2.1 = (bf (gr R a v) k).2 := congrArg Prod.snd z1
      rw [q1, q2]
      have ek : (nI k = 0) = (k = 0) := nI_eq' (b := 0) (by omega) (by omega)
      simp only [ek, bf]
      by_cases k0 : k = 0
      · subst k0; simp only [if_true]; rfl
      · simp only [if_neg k0]
        by_cases gg : gr R a v k ≤ (bf (gr R a v) k).2
        · simp only [if_pos gg]
        · simp only [if_neg gg])
  refine ⟨Hz, ?_, e3⟩
  unfold f_X3_bestTarget
  rw [ag_n ha (by omega), Option.bind_some, h.2.2.2.2.2.2.2.2.1 a ha, a1, Option.bind_some, b1, Option.bind_some, ac6, Option.bind_some, show f_X3_bestTarget_l56 (nI v) (nI (R (70 + a))) fuel 0 0 0 (fillH Hb 56 0 6 (fun t => Hb 48 (0 + t))) = some (y1, y2, Hz) from e1, Option.bind_some]
  have q1 : y1 = (bf (gr R a v) (R 0)).1 := congrArg Prod.fst e2
  have q2 : y2 = (bf (gr R a v) (R 0)).2 := congrArg Prod.snd e2
  rw [← q1, ← q2]
theorem best8 {H : Hp} {R : Nat → Nat} (hR : Rw R) (hH : Hr H 64 R) (h0 : 0 < R 0) {a v : Nat} (ha : a < 10) (h1 : 1 ≤ v) (h2 : v ≤ 99) (h3 : R 3 < 20) : ∃ Hz, f_X8_best_l72 (nI a) (nI v) fuel (-1000000) 0 0 H = some ((bf (gr R a v) (R 0)).1, (bf (gr R a v) (R 0)).2, Hz) := by
  have hr := hR.1
  obtain ⟨⟨y1, y2, Hz⟩, e1, e2⟩ := up0 (fun m k (z : Int32 × Int32 × Hp) => f_X8_best_l72 (nI a) (nI v) m z.1 z.2.1 (nI k) z.2.2) (R 0) (by omega) (fun k z => (z.1, z.2.1) = (if k = 0 then (-1000000, 0) else bf (gr R a v) k) ∧ Hr z.2.2 64 R) (fun z => (z.1, z.2.1) = bf (gr R a v) (R 0)) (-1000000, 0, H)
    ⟨rfl, hH⟩
    (fun m z hz => ⟨z, by
      simp only [f_X8_best_l72]
      rw [show ag z.2.2 64 80 0 = ag z.2.2 64 80 (nI 0) from rfl, ag_n (by omega) (by omega), Option.bind_some, hz.2 0 (by omega), if_pos (nI_le (Nat.le_refl _) (by omega))], by rw [hz.1, if_neg (by omega)]⟩)
    (fun m k z hk hz => by
      obtain ⟨z1, z2⟩ := hz
      obtain ⟨H8, c1, c2, c3, c4, c5⟩ := reckon8 (r := 64) (by omega) (by omega) hR h0 z2
      have z2' : Hr H8 64 R := z2.fr (fun j _ => c2 64 j (by omega) (by omega))
      obtain ⟨H10, d1, d2⟩ := gift8 (a := a) (p := k) (v := v) hR z2' (Or.inr h3) ha hk h2
      have d4 := (d2.2.2.1 k (by rw [TG_o (by omega) (by omega)]; exact hk)).2
      rw [TG_o (k := 0) (by omega) (by omega), TG_o (k := 1) (by omega) (by omega)] at d4
      refine Or.inr ⟨((bf (gr R a v) (k + 1)).1, (bf (gr R a v) (k + 1)).2, H10), ?_, by rw [if_neg (by omega)], z2'.fr (fun j _ => d2.1 64 j (by omega) (by omega))⟩
      simp only [f_X8_best_l72]
      rw [show ag z.2.2 64 80 0 = ag z.2.2 64 80 (nI 0) from rfl, ag_n (by omega) (by omega), Option.bind_some, z2 0 (by omega), if_neg (nI_ge hk (by omega)), c1, Option.bind_some, ag_n (by omega) (by omega), Option.bind_some, (c4 k hk).2, d1, Option.bind_some, ag_n (by omega) (by omega), d4]
      simp only [Option.bind_some]
      rw [show nI (PD (R 0) (R 1) (CR (TG R a k v)) k) - nI (PD (R 0) (R 1) (CR R) k) = gr R a v k from rfl, nI_1]
      by_cases k0 : k = 0
      · subst k0
        have q1 : z.1 = -1000000 := congrArg Prod.fst z1
        rw [q1, if_pos rfl, Option.bind_some]
        rfl
      · rw [if_neg k0] at z1
        have q1 : z.1 = (bf (gr R a v) k).1 := congrArg Prod.fst z1
        have q2 : z.2.1 = (bf (gr R a v) k).2 := congrArg Prod.snd z1
        obtain ⟨j, hj, ej⟩ := bf_1 (gr R a v) k
        rw [q1, q2, if_neg (by rw [ej]; exact nI_none (by omega))]
        simp only [bf, if_neg k0]
        by_cases gg : gr R a v k ≤ (bf (gr R a v) k).2
        · simp only [if_pos gg, Option.bind_some]
        · simp only [if_neg gg, Option.bind_some])
  have q1 : y1 = (bf (gr R a v) (R 0)).1 := congrArg Prod.fst e2
  have q2 : y2 = (bf (gr R a v) (R 0)).2 := congrArg Prod.snd e2
  exact ⟨Hz, by rw [← q1, ← q2]; exact e1⟩
theorem q_best {H : Hp} {R : Nat → Nat} (h : FU H R) (x1 x2 x3 : Int32) : ∃ (r : Int32) (H1 H2 : Hp), f_X7_best x1 x2 x3 H = some (r, H1) ∧ f_X8_best x1 x2 x3 H1 = some (r, H2) := by
  have hr := h.1.1
  have hg := h.1.2.2.2.2.1
  have m8 : ∀ H1, FU H1 R → f_X8_best x1 x2 x3 H1 = (if R 0 = 0 then some (-1000002, hset H1 60 0 0) else if R 0 = 0 ∨ x1 < 0 ∨ 9 < x1 then some (-1000001, hset H1 60 0 0) else if x2 < 1 ∨ 99 < x2 then some (-1000001, hset H1 60 0 0) else if x3 < 0 ∨ 1 < x3 then some (-1000001, hset H1 60 0 0) else if nI (R 3) = 20 then some (-1000003, hset H1 60 0 0) else (f_X8_best_l72 x1 x2 fuel (-1000000) 0 0 (hset H1 60 0 0)).bind fun l19 => some ((if x3 = 0 then l19.1 else l19.2.1), l19.2.2)) := by
    intro H1 h1
    simp only [f_X8_best, pf_e, Option.bind_some, in_1_99, in_0_1, within_eq]
    rw [isT8 (h1.t.2.1 0 (by omega)) (by omega), isG8 (h1.t.2.1 0 (by omega)) (by omega), show ag (hset H1 60 0 0) 64 80 3 = ag (hset H1 60 0 0) 64 80 (nI 3) from rfl, ag_n (by omega) (by omega), h1.t.2.1 3 (by omega)]
    simp only [Option.bind_some, bz]
  have e20 : (nI (R 3) < 20) = (R 3 < 20) := nI_lt' (b := 20) (by omega) (by omega)
  have e20' : (nI (R 3) = 20) = (R 3 = 20) := nI_eq' (b := 20) (by omega) (by omega)
  simp only [e20'] at m8
  simp only [f_X7_best, isG7, within_eq, st7 h.2.2, Option.bind_some, bz, h.2.2.2.2.2.2.1, e20]
  by_cases g0 : R 0 = 0
  · simp only [if_pos g0]
    exact ⟨_, _, _, rfl, by rw [m8 H h, if_pos g0]⟩
  by_cases g1 : x1 < 0 ∨ 9 < x1
  · simp only [if_neg g0, if_pos g1]
    exact ⟨_, _, _, rfl, by rw [m8 H h, if_neg g0, if_pos (Or.inr g1)]⟩
  by_cases g2 : x2 < 1 ∨ 99 < x2
  · simp only [if_neg g0, if_neg g1, if_pos g2]
    exact ⟨_, _, _, rfl, by rw [m8 H h, if_neg g0, if_neg (nor2 g0 g1), if_pos g2]⟩
  by_cases g3 : x3 < 0 ∨ 1 < x3
  · simp only [if_neg g0, if_neg g1, if_neg g2, if_pos g3]
    exact ⟨_, _, _, rfl, by rw [m8 H h, if_neg g0, if_neg (nor2 g0 g1), if_neg g2, if_pos g3]⟩
  simp only [if_neg g0, if_neg g1, if_neg g2, if_neg g3]
  by_cases g4 : R 3 < 20
  · rw [if_pos g4]
    obtain ⟨a, ha, rfl⟩ := giI g1
    obtain ⟨v, hv1, hv, rfl⟩ := i_rng x2 1 99 (by omega) (by omega) g2
    obtain ⟨Hz, z1, z2⟩ := best7 h (by omega) ha hv1 hv g4 x3
    obtain ⟨Hy, y1⟩ := best8 (a := a) (v := v) h.1 z2.t.2.1 (by omega) ha hv1 hv g4
    rw [z1, Option.bind_some]
    exact ⟨_, _, _, rfl, by rw [m8 Hz z2, if_neg g0, if_neg (nor2 g0 g1), if_neg g2, if_neg g3, if_neg (by omega), y1, Option.bind_some]⟩
  · rw [if_neg g4]
    exact ⟨_, _, _, rfl, by rw [m8 H h, if_neg g0, if_neg (nor2 g0 g1), if_neg g2, if_neg g3, if_pos (by omega)]⟩
/-- the first in 1 to 99 that has it -/
def Fst (b : Nat → Prop) (r : Int32) : Prop := (∃ k, 1 ≤ k ∧ k ≤ 99 ∧ r = nI k ∧ b k ∧ ∀ j, 1 ≤ j → j < k → ¬ b j) ∨ (r = -1000000 ∧ ∀ j, 1 ≤ j → j ≤ 99 → ¬ b j)
theorem Fst_u {b : Nat → Prop} {r s : Int32} (h1 : Fst b r) (h2 : Fst b s) : r = s := by
  rcases h1 with ⟨k, a1, a2, a3, a4, a5⟩ | ⟨a1, a2⟩
  · rcases h2 with ⟨j, c1, c2, c3, c4, c5⟩ | ⟨c1, c2⟩
    · have : k = j := by
        rcases Nat.lt_trichotomy k j with g | g | g
        · exact absurd a4 (c5 k a1 g)
        · exact g
        · exact absurd c4 (a5 j c1 g)
      rw [a3, c3, this]
    · exact absurd a4 (c2 k a1 a2)
  · rcases h2 with ⟨j, c1, c2, c3, c4, c5⟩ | ⟨c1, c2⟩
    · exact absurd c4 (a2 j c1 c2)
    · rw [a1, c1]
theorem least7 {H : Hp} {R : Nat → Nat} (h : FU H R) {a p : Nat} (ha : a < 10) (hp : p < R 0) (h3 : R 3 < 20) (x3 : Int32) : ∃ r Hz, f_X3_leastCoins (nI a) (nI p) x3 H = some (r, Hz) ∧ Fst (fun k => ¬ nI (CR (TG R a p k) p) < x3) r ∧ FU Hz R := by
  have hr := h.1.1
  have hn := h.1.2.2.2.2.2.2.2 a ha
  obtain ⟨Ha, a1, a2, a3⟩ := load7 h.1 (by omega) h.2.2
  have ok := okR h.1 (show 0 < R 0 by omega)
  have hFa : FU Ha R := h.fr (fun c k hc => fr_X2_load a1 c k (by omega))
  obtain ⟨w, e1, e2⟩ := upx (fun m k (z : Hp) => f_X3_leastCoins_l25 (nI p) x3 (nI (R (70 + a))) m (nI k) z) 100 (fun k z => 1 ≤ k ∧ FU z R ∧ BO z (R 0) (R 1) (R 2) (κR R) (ts (tb R) (R (70 + a)) p (tb R (R (70 + a)) p + (k - 1))) L0 ∧ ∀ j, 1 ≤ j → j < k → nI (CR (TG R a p j) p) < x3) (fun w => (∃ Hz, w = .inl Hz ∧ FU Hz R ∧ ∀ j, 1 ≤ j → j < 100 → nI (CR (TG R a p j) p) < x3) ∨ ∃ k Hz, w = .inr (nI k, Hz) ∧ FU Hz R ∧ 1 ≤ k ∧ k ≤ 99 ∧ ¬ nI (CR (TG R a p k) p) < x3 ∧ ∀ j, 1 ≤ j → j < k → nI (CR (TG R a p j) p) < x3)
    (fun m z hz => ⟨.inl z, by simp only [f_X3_leastCoins_l25]; rw [if_pos (by decide)], Or.inl ⟨z, rfl, hz.2.1, hz.2.2.2⟩⟩)
    (fun m k z hk hz => by
      obtain ⟨z1, z2, z3, z4⟩ := hz
      have tl := tb_le (v := k) h.1 (Or.inr h3) ha hp (by omega)
      have ok1 : Ok (R 0) (R 2) (ts (tb R) (R (70 + a)) p (tb R (R (70 + a)) p + (k - 1))) := ⟨hr, ts_B (tb_B h.1) hp (by omega), ok.2.2⟩
      obtain ⟨H5, p1, p2⟩ := add7 (v := tb R (R (70 + a)) p + k) ok1 z3 hn hp rfl 1 (by rw [ts_at, nI_1]; congr 1; omega) tl
      rw [ts_ts] at p2
      have hc := claim7 ⟨hr, ts_B (tb_B h.1) hp tl, ok.2.2⟩ p2 hp
      have ec : CL (κR R) (R 2) (mk L0 (ts (tb R) (R (70 + a)) p (tb R (R (70 + a)) p + k))) p = CR (TG R a p k) p := (tg_PD h.1 (Or.inr h3) ha hp p hp).symm
      rw [ec] at hc
      have hF5 : FU H5 R := z2.fr (fun c j hc => fr_X2_add p1 c j (by omega))
      simp only [f_X3_leastCoins_l25]
      rw [if_neg (show ¬ (99 : Int32) < nI k from nI_nlt (b := k) (a := 99) (by omega) (by omega)), p1, Option.bind_some, hc, Option.bind_some, nI_1]
      by_cases g : nI (CR (TG R a p k) p) < x3
      · rw [if_pos g]
        refine Or.inr ⟨H5, rfl, by omega, hF5, ?_, fun j j1 j2 => ?_⟩
        · rw [Nat.add_sub_cancel]; exact p2
        · by_cases hjk : j = k
          · rw [hjk]; exact g
          · exact z4 j j1 (by omega)
      · rw [if_neg g]
        exact Or.inl ⟨_, rfl, Or.inr ⟨k, H5, rfl, hF5, z1, by omega, g, z4⟩⟩) 99 fuel 1 Ha (by omega) (by unfold fuel; omega) ⟨by omega, hFa, by rw [show 1 - 1 = 0 from rfl, Nat.add_zero, ts_self]; exact a2, fun j j1 j2 => by omega⟩
  unfold f_X3_leastCoins
  rw [ag_n ha (by omega), Option.bind_some, h.2.2.2.2.2.2.2.2.1 a ha, a1, Option.bind_some, show f_X3_leastCoins_l25 (nI p) x3 (nI (R (70 + a))) fuel 1 Ha = some w from e1, Option.bind_some]
  rcases e2 with ⟨Hz, rfl, hz1, hz2⟩ | ⟨k, Hz, rfl, hz1, k1, k2, k3, k4⟩
  · exact ⟨_, Hz, rfl, Or.inr ⟨rfl, fun j j1 j2 z => z (hz2 j j1 (by omega))⟩, hz1⟩
  · exact ⟨_, Hz, rfl, Or.inl ⟨k, k1, k2, rfl, k3, fun j j1 j2 z => z (k4 j j1 j2)⟩, hz1⟩
theorem least8 {H : Hp} {R : Nat → Nat} (hR : Rw R) (hH : Hr H 64 R) {a p : Nat} (ha : a < 10) (hp : p < R 0) (h3 : R 3 < 20) (x3 : Int32) : ∃ r Hz, (f_X8_least_l46 (nI a) (nI p) x3 fuel 1 H).bind (fun l9 => Sum.elim (fun t10 => some ((-1000000 : Int32), t10)) (fun r => some r) l9) = some (r, Hz) ∧ Fst (fun k => ¬ nI (CR (TG R a p k) p) < x3) r := by
  have hr := hR.1
  obtain ⟨w, e1, e2⟩ := upx (fun m k (z : Hp) => f_X8_least_l46 (nI a) (nI p) x3 m (nI k) z) 100 (fun k z => 1 ≤ k ∧ Hr z 64 R ∧ ∀ j, 1 ≤ j → j < k → nI (CR (TG R a p j) p) < x3) (fun w => (∃ Hz, w = .inl Hz ∧ ∀ j, 1 ≤ j → j < 100 → nI (CR (TG R a p j) p) < x3) ∨ ∃ k Hz, w = .inr (nI k, Hz) ∧ 1 ≤ k ∧ k ≤ 99 ∧ ¬ nI (CR (TG R a p k) p) < x3 ∧ ∀ j, 1 ≤ j → j < k → nI (CR (TG R a p j) p) < x3)
    (fun m z hz => ⟨.inl z, by simp only [f_X8_least_l46]; rw [if_pos (by decide)], Or.inl ⟨z, rfl, hz.2.2⟩⟩)
    (fun m k z hk hz => by
      obtain ⟨z1, z2, z4⟩ := hz
      obtain ⟨H5, d1, d2⟩ := gift8 (a := a) (p := p) (v := k) hR z2 (Or.inr h3) ha hp (by omega)
      have d4 := (d2.2.2.1 p (by rw [TG_o (by omega) (by omega)]; exact hp)).1
      simp only [f_X8_least_l46]
      rw [if_neg (show ¬ (100 : Int32) ≤ nI k from nI_ge (b := 100) hk (by omega)), d1, Option.bind_some, ag_n (by omega) (by omega), Option.bind_some, d4, nI_1]
      by_cases g : nI (CR (TG R a p k) p) < x3
      · rw [if_pos g]
        refine Or.inr ⟨H5, rfl, by omega, z2.fr (fun j _ => d2.1 64 j (by omega) (by omega)), fun j j1 j2 => ?_⟩
        by_cases hjk : j = k
        · rw [hjk]; exact g
        · exact z4 j j1 (by omega)
      · rw [if_neg g]
        exact Or.inl ⟨_, rfl, Or.inr ⟨k, H5, rfl, z1, by omega, g, z4⟩⟩) 99 fuel 1 H (by omega) (by unfold fuel; omega) ⟨by omega, hH, fun j j1 j2 => by omega⟩
  rw [show f_X8_least_l46 (nI a) (nI p) x3 fuel 1 H = some w from e1, Option.bind_some]
  rcases e2 with ⟨Hz, rfl, hz2⟩ | ⟨k, Hz, rfl, k1, k2, k3, k4⟩
  · exact ⟨_, Hz, rfl, Or.inr ⟨rfl, fun j j1 j2 z => z (hz2 j j1 (by omega))⟩⟩
  · exact ⟨_, Hz, rfl, Or.inl ⟨k, k1, k2, rfl, k3, fun j j1 j2 z => z (k4 j j1 j2)⟩⟩
theorem q_least {H : Hp} {R : Nat → Nat} (h : FU H R) (x1 x2 x3 : Int32) : ∃ (r : Int32) (H1 H2 : Hp), f_X7_least x1 x2 x3 H = some (r, H1) ∧ f_X8_least x1 x2 x3 H1 = some (r, H2) := by
  have hr := h.1.1
  have hg := h.1.2.2.2.2.1
  have m8 : ∀ H1, FU H1 R → f_X8_least x1 x2 x3 H1 = (if R 0 = 0 ∨ (x1 < 0 ∨ 9 < x1) ∨ (x2 < 0 ∨ nI (R 0) ≤ x2) then some (-1000001, hset H1 60 0 0) else if x3 < 1 ∨ 9999 < x3 then some (-1000001, hset H1 60 0 0) else if nI (R 3) = 20 then some (-1000003, hset H1 60 0 0) else (f_X8_least_l46 x1 x2 x3 fuel 1 (hset H1 60 0 0)).bind (fun l9 => Sum.elim (fun t10 => some ((-1000000 : Int32), t10)) (fun r => some r) l9)) := by
    intro H1 h1
    simp only [f_X8_least, pf_e, Option.bind_some, in_1_9999, within_eq]
    rw [isGv8 (h1.t.2.1 0 (by omega)) (by omega), show ag (hset H1 60 0 0) 64 80 3 = ag (hset H1 60 0 0) 64 80 (nI 3) from rfl, ag_n (by omega) (by omega), h1.t.2.1 3 (by omega)]
    simp only [Option.bind_some, bz]
  have e20 : (nI (R 3) < 20) = (R 3 < 20) := nI_lt' (b := 20) (by omega) (by omega)
  have e20' : (nI (R 3) = 20) = (R 3 = 20) := nI_eq' (b := 20) (by omega) (by omega)
  simp only [e20'] at m8
  simp only [f_X7_least, isG7, within_eq, isP7 h.2.2.2.2.2.1, Option.bind_some, bz, h.2.2.2.2.2.2.1, e20]
  by_cases g1 : x1 < 0 ∨ 9 < x1
  · simp only [if_pos g1]
    exact ⟨_, _, _, rfl, by rw [m8 H h, if_pos (Or.inr (Or.inl g1))]⟩
  by_cases g2 : x2 < 0 ∨ nI (R 0) ≤ x2
  · simp only [if_neg g1, if_pos g2]
    exact ⟨_, _, _, rfl, by rw [m8 H h, if_pos (Or.inr (Or.inr g2))]⟩
  obtain ⟨p, hp, rfl⟩ := gpI (by omega) g2
  have c0 := nor3 (show ¬ R 0 = 0 by omega) g1 g2
  by_cases g3 : x3 < 1 ∨ 9999 < x3
  · simp only [if_neg g1, if_neg g2, if_pos g3]
    exact ⟨_, _, _, rfl, by rw [m8 H h, if_neg c0, if_pos g3]⟩
  simp only [if_neg g1, if_neg g2, if_neg g3]
  by_cases g4 : R 3 < 20
  · rw [if_pos g4]
    obtain ⟨a, ha, rfl⟩ := giI g1
    obtain ⟨r, Hz, z1, z2, z3⟩ := least7 h ha hp g4 x3
    obtain ⟨r2, Hy, y1, y2⟩ := least8 h.1 z3.t.2.1 ha hp g4 x3
    rw [z1, Option.bind_some]
    exact ⟨_, _, _, rfl, by rw [m8 Hz z3, if_neg c0, if_neg g3, if_neg (by omega), y1, Fst_u z2 y2]⟩
  · rw [if_neg g4]
    exact ⟨_, _, _, rfl, by rw [m8 H h, if_neg c0, if_neg g3, if_pos (by omega)]⟩
