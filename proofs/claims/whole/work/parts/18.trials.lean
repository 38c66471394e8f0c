/-! trials: one gift more -/
def Pt (R : Nat → Nat) (a p v : Nat) : Nat → Nat := fun k => if k = 3 then R 3 + 1 else if k = 10 + 3 * R 3 then a else if k = 11 + 3 * R 3 then p else if k = 12 + 3 * R 3 then v else R k
theorem Pt_o {R : Nat → Nat} {a p v k : Nat} (h1 : k ≠ 3) (h2 : k < 10 + 3 * R 3 ∨ 13 + 3 * R 3 ≤ k) : Pt R a p v k = R k := by
  unfold Pt
  rw [if_neg h1, if_neg (by omega), if_neg (by omega), if_neg (by omega)]
theorem Pt_3 (R : Nat → Nat) (a p v : Nat) : Pt R a p v 3 = R 3 + 1 := by simp [Pt]
theorem Pt_g (R : Nat → Nat) (a p v : Nat) : Pt R a p v (10 + 3 * R 3) = a := by
  unfold Pt
  rw [if_neg (by omega), if_pos rfl]
theorem Pt_t (R : Nat → Nat) (a p v : Nat) : Pt R a p v (11 + 3 * R 3) = p := by
  unfold Pt
  rw [if_neg (by omega), if_neg (by omega), if_pos rfl]
theorem Pt_c (R : Nat → Nat) (a p v : Nat) : Pt R a p v (12 + 3 * R 3) = v := by
  unfold Pt
  rw [if_neg (by omega), if_neg (by omega), if_neg (by omega), if_pos rfl]
theorem Rw_Pt {R : Nat → Nat} (h : Rw R) {a p v : Nat} (h3 : R 3 < 20) (ha : a < 10) (hp : p < R 0) (h1 : 1 ≤ v) (h2 : v ≤ 99) : Rw (Pt R a p v) := by
  obtain ⟨r0, r1, r2, r3, r4, r5, r6, r7⟩ := h
  have e0 : Pt R a p v 0 = R 0 := Pt_o (by omega) (by omega)
  have e1 : Pt R a p v 1 = R 1 := Pt_o (by omega) (by omega)
  have e2 : Pt R a p v 2 = R 2 := Pt_o (by omega) (by omega)
  refine ⟨by rw [e0]; exact r0, by rw [e1]; exact r1, by rw [e2]; exact r2, by rw [e0, e2]; exact r3, by rw [Pt_3]; omega, fun q hq => ?_, fun j hj => ?_, fun b hb => ?_⟩
  · rw [e0] at hq
    rw [Pt_o (by omega) (by omega)]; exact r5 q hq
  · rw [Pt_3] at hj
    rw [e0]
    by_cases hj3 : j = R 3
    · rw [hj3, Pt_g, Pt_t, Pt_c]; exact ⟨ha, hp, h1, h2⟩
    · rw [Pt_o (by omega) (by omega), Pt_o (by omega) (by omega), Pt_o (by omega) (by omega)]; exact r6 j (by omega)
  · rw [Pt_o (by omega) (by omega)]; exact r7 b hb
theorem tb_Pt {R : Nat → Nat} (h : Rw R) {a p v : Nat} (h3 : R 3 < 20) (ha : a < 10) (x q : Nat) : tb (Pt R a p v) x q = tb R x q + if R (70 + a) = x ∧ p = q then v else 0 := by
  unfold tb tk
  rw [Pt_3, sm_s, Pt_g, Pt_t, Pt_c, Pt_o (k := 70 + a) (by omega) (by omega)]
  congr 1
  refine sm_congr (fun j hj => ?_)
  have := (h.2.2.2.2.2.2.1 j hj).1
  rw [Pt_o (k := 10 + 3 * j) (by omega) (by omega), Pt_o (k := 11 + 3 * j) (by omega) (by omega), Pt_o (k := 12 + 3 * j) (by omega) (by omega), Pt_o (k := 70 + R (10 + 3 * j)) (by omega) (by omega)]
def TG (R : Nat → Nat) (a p v : Nat) : Nat → Nat := if v = 0 then R else Pt R a p v
theorem Rw_TG {R : Nat → Nat} (h : Rw R) {a p v : Nat} (h3 : v = 0 ∨ R 3 < 20) (ha : a < 10) (hp : p < R 0) (h2 : v ≤ 99) : Rw (TG R a p v) := by
  unfold TG
  by_cases g : v = 0
  · rw [if_pos g]; exact h
  · rw [if_neg g]; exact Rw_Pt h (by omega) ha hp (by omega) h2
theorem TG_o {R : Nat → Nat} {a p v k : Nat} (h1 : k ≠ 3) (h2 : k < 10 + 3 * R 3 ∨ 13 + 3 * R 3 ≤ k) : TG R a p v k = R k := by
  unfold TG
  split
  · rfl
  · exact Pt_o h1 h2
theorem tb_TG {R : Nat → Nat} (h : Rw R) {a p v : Nat} (h3 : v = 0 ∨ R 3 < 20) (ha : a < 10) : tb (TG R a p v) = ts (tb R) (R (70 + a)) p (tb R (R (70 + a)) p + v) := by
  funext x q
  unfold TG ts
  by_cases g : v = 0
  · rw [if_pos g, g]
    split
    next hc => rw [hc.1, hc.2]; rfl
    next => rfl
  · rw [if_neg g, tb_Pt h (by omega) ha]
    by_cases hc : R (70 + a) = x ∧ p = q
    · rw [if_pos hc, if_pos ⟨hc.1.symm, hc.2.symm⟩, hc.1, hc.2]
    · rw [if_neg hc, if_neg (fun z => hc ⟨z.1.symm, z.2.symm⟩)]; rfl
theorem CR_like {R R2 : Nat → Nat} {s : Nat → Nat → Nat} {L : Nat → Bool} (h2 : R2 2 = R 2) (hk : ∀ q, q < 6 → R2 (4 + q) = R (4 + q)) (ht : tb R2 = mk L s) {q : Nat} (hq : q < 6) : CR R2 q = CB (κR R) (R 2) s L q := by
  unfold CR CB CL κR
  simp only [h2, ht, hk q hq]
theorem lf_congr {c d : Nat → Nat} {n l : Nat} (h : ∀ q, q < n → c q = d q) {p : Nat} (hp : p ≤ n) : lf c l p = lf d l p := by
  induction p with
  | zero => rfl
  | succ p ih =>
    simp only [lf]
    rw [h p (by omega), ih (by omega)]
theorem bs_congr {c d : Nat → Nat} {n P : Nat} (h : ∀ q, q < n → c q = d q) {p : Nat} (hp : p < n) : bs n P c p = bs n P d p := by
  unfold bs
  rw [h p hp, sm_congr h]
theorem PD_congr {c d : Nat → Nat} {n P : Nat} (h : ∀ q, q < n → c q = d q) {p : Nat} (hp : p < n) : PD n P c p = PD n P d p := by
  have e : lv n P c = lv n P d := by
    unfold lv
    rw [sm_congr (fun q hq => bs_congr (P := P) h hq)]
  unfold PD
  rw [sm_congr h, h p hp, bs_congr h hp, e, lf_congr h (by omega)]
theorem RE_congr {c d : Nat → Nat} {n P : Nat} (h : ∀ q, q < n → c q = d q) : RE n P c = RE n P d := by
  unfold RE
  rw [sm_congr h]
theorem then8 {H : Hp} {R : Nat → Nat} (h : Hr H 64 R) : ∃ H2, f_X8_layThen H = some H2 ∧ Hr H2 66 R ∧ ∀ c j, c ≠ 66 → H2 c j = H c j := by
  obtain ⟨H2, e1, e2, e3⟩ := up0 (fun m k z => f_X8_layThen_l2 m (nI k) z) 80 (by omega) (fun k z => (∀ c j, c ≠ 66 → z c j = H c j) ∧ ∀ i, i < k → z 66 i = nI (R i)) (fun z => (∀ c j, c ≠ 66 → z c j = H c j) ∧ ∀ i, i < 80 → z 66 i = nI (R i)) H
    ⟨fun _ _ _ => rfl, fun p hp => absurd hp (by omega)⟩
    (fun m z hz => ⟨z, by simp only [f_X8_layThen_l2]; rw [if_pos (by decide)], hz⟩)
    (fun m k z hk hz => Or.inr ⟨hset z 66 k (nI (R k)), by
      simp only [f_X8_layThen_l2]
      rw [if_neg (show ¬ (80 : Int32) ≤ nI k from nI_ge (b := 80) hk (by omega)), ag_n hk (by omega), Option.bind_some, hz.1 64 k (by omega), h k hk, as_n hk (by omega), Option.bind_some, nI_1],
      fun c j hc => by rw [hset_c hc, hz.1 c j hc],
      fun i hi => by
        rw [hset_if]
        by_cases hik : i = k
        · rw [if_pos ⟨rfl, hik⟩, hik]
        · rw [if_neg (by omega), hz.2 i (by omega)]⟩)
  exact ⟨H2, by unfold f_X8_layThen; rw [show f_X8_layThen_l2 fuel 0 H = some H2 from e1]; rfl, e3, e2⟩
theorem lay8 {H : Hp} {r k : Nat} (hk : k < 20) (x y z : Int32) : f_X8_lay r (nI k) x y z H = some (hset (hset (hset H r (10 + 3 * k) x) r (11 + 3 * k) y) r (12 + 3 * k) z) := by
  unfold f_X8_lay
  rw [z10, as_n (by omega) (by omega), Option.bind_some, nI_1, as_n (by omega) (by omega), Option.bind_some, show (2 : Int32) = nI 2 from rfl, nI_add, as_n (by omega) (by omega), Option.bind_some, show 10 + 3 * k + 1 = 11 + 3 * k by omega, show 10 + 3 * k + 2 = 12 + 3 * k by omega]
theorem put8 {H : Hp} {R : Nat → Nat} {r : Nat} (h : Hr H r R) (h3 : R 3 < 20) (a p v : Nat) : ∃ H2, f_X8_put r (nI a) (nI p) (nI v) H = some H2 ∧ Hr H2 r (Pt R a p v) ∧ ∀ c j, c ≠ r → H2 c j = H c j := by
  unfold f_X8_put
  rw [show ag H r 80 3 = ag H r 80 (nI 3) from rfl, ag_n (by omega) (by omega), Option.bind_some, h 3 (by omega), lay8 h3, Option.bind_some, show (3 : Int32) = nI 3 from rfl, ag_n (by omega) (by omega), Option.bind_some, as_n (by omega) (by omega), Option.bind_some]
  refine ⟨_, rfl, fun k hk => ?_, fun c j hc => by rw [hset_c hc, hset_c hc, hset_c hc, hset_c hc]⟩
  by_cases k3 : k = 3
  · rw [k3, hset_self, hset_k (by omega), hset_k (by omega), hset_k (by omega), h 3 (by omega), Pt_3, nI_1]
  rw [hset_k k3]
  by_cases c2 : k = 12 + 3 * R 3
  · rw [c2, hset_self, Pt_c]
  rw [hset_k c2]
  by_cases c1 : k = 11 + 3 * R 3
  · rw [c1, hset_self, Pt_t]
  rw [hset_k c1]
  by_cases c0 : k = 10 + 3 * R 3
  · rw [c0, hset_self, Pt_g]
  rw [hset_k c0, h k hk, Pt_o k3 (by omega)]
/-- what the model's trial leaves -/
def MT (H H2 : Hp) (R : Nat → Nat) : Prop := (∀ k j, (k < 66 ∨ k = 67 ∨ k = 68 ∨ 73 < k) → (k ≠ 60 ∨ j ≠ 24) → H2 k j = H k j) ∧ ML H2 (tb R) ∧ (∀ p, p < R 0 → H2 72 p = nI (CR R p) ∧ H2 73 p = nI (PD (R 0) (R 1) (CR R) p)) ∧ H2 60 24 = nI (RE (R 0) (R 1) (CR R))
theorem rk66 {H H1 : Hp} {R : Nat → Nat} (hR : Rw R) (h0 : 0 < R 0) (h : Hr H1 66 R) (f : ∀ c j, c ≠ 66 → H1 c j = H c j) : ∃ H2, f_X8_reckon 66 H1 = some H2 ∧ MT H H2 R ∧ Hr H2 66 R := by
  obtain ⟨Hc, c1, c2, c3, c4, c5⟩ := reckon8 (r := 66) (by omega) (by omega) hR h0 h
  exact ⟨Hc, c1, ⟨fun k j h1 h2 => by rw [c2 k j (by omega) h2, f k j (by omega)], c3, c4, c5⟩, h.fr (fun k _ => c2 66 k (by omega) (by omega))⟩
theorem gift8 {H : Hp} {R : Nat → Nat} (hR : Rw R) (h : Hr H 64 R) {a p v : Nat} (h3 : v = 0 ∨ R 3 < 20) (ha : a < 10) (hp : p < R 0) (h2 : v ≤ 99) : ∃ H2, f_X8_layGift (nI a) (nI p) (nI v) H = some H2 ∧ MT H H2 (TG R a p v) := by
  obtain ⟨Ha, a1, a2, a3⟩ := then8 h
  unfold f_X8_layGift
  rw [a1, Option.bind_some]
  have hT := Rw_TG hR h3 ha hp h2
  have e0 : TG R a p v 0 = R 0 := TG_o (by omega) (by omega)
  by_cases g : v = 0
  · rw [g, if_pos (by decide), Option.bind_some]
    have eT : TG R a p 0 = R := by unfold TG; rw [if_pos rfl]
    obtain ⟨Hb, b1, b2, -⟩ := rk66 hR (by omega) a2 a3
    exact ⟨Hb, by rw [b1]; rfl, by rw [eT]; exact b2⟩
  · obtain ⟨Hp', p1, p2, p3⟩ := put8 a2 (by omega) a p v
    have eT : TG R a p v = Pt R a p v := by unfold TG; rw [if_neg g]
    rw [eT] at hT e0
    obtain ⟨Hb, b1, b2, -⟩ := rk66 (H := H) hT (by omega) p2 (fun c j hc => by rw [p3 c j hc, a3 c j hc])
    rw [if_neg (nI_nle (by omega) (by omega)), p1, Option.bind_some, Option.bind_some, b1, eT]
    exact ⟨Hb, rfl, b2⟩
theorem ts_ts (s : Nat → Nat → Nat) (g q v w : Nat) : ts (ts s g q v) g q w = ts s g q w := by
  funext a p
  unfold ts
  split <;> rfl
theorem ts_at (s : Nat → Nat → Nat) (g q v : Nat) : ts s g q v g q = v := by simp [ts]
/-- the trial on both sides gives the same numbers -/
theorem tg_PD {R : Nat → Nat} (h : Rw R) {a p v : Nat} (h3 : v = 0 ∨ R 3 < 20) (ha : a < 10) (hp : p < R 0) : (∀ q, q < R 0 → CR (TG R a p v) q = CB (κR R) (R 2) (ts (tb R) (R (70 + a)) p (tb R (R (70 + a)) p + v)) L0 q) := by
  intro q hq
  have := h.1
  exact CR_like (TG_o (by omega) (by omega)) (fun k hk => TG_o (by omega) (by omega)) (by rw [mk0, tb_TG h h3 ha]) (by omega)
theorem tb_le {R : Nat → Nat} (h : Rw R) {a p v : Nat} (h3 : v = 0 ∨ R 3 < 20) (ha : a < 10) (hp : p < R 0) (h2 : v ≤ 99) : tb R (R (70 + a)) p + v ≤ 1980 := by
  have := (tb_B (Rw_TG h h3 ha hp h2) (R (70 + a)) p).1
  rw [tb_TG h h3 ha, ts_at] at this
  exact this
theorem q_paidIf {H : Hp} {R : Nat → Nat} (h : FU H R) (x1 x2 x3 x4 : Int32) : ∃ (r : Int32) (H1 H2 : Hp), f_X7_paidIf x1 x2 x3 x4 H = some (r, H1) ∧ f_X8_paidIf x1 x2 x3 x4 H1 = some (r, H2) := by
  have hr := h.1.1
  have hg := h.1.2.2.2.2.1
  have m8 : ∀ H1, FU H1 R → f_X8_paidIf x1 x2 x3 x4 H1 = (if R 0 = 0 ∨ (x1 < 0 ∨ 9 < x1) ∨ (x2 < 0 ∨ nI (R 0) ≤ x2) then some (-1000001, hset H1 60 0 0) else if x3 < 0 ∨ 99 < x3 then some (-1000001, hset H1 60 0 0) else if x4 < 0 ∨ nI (R 0) ≤ x4 then some (-1000001, hset H1 60 0 0) else if nI (R 3) = 20 then (if x3 ≤ 0 then (f_X8_layGift x1 x2 x3 (hset H1 60 0 0)).bind fun H6 => (ag H6 73 6 x4).bind fun v7 => some (v7, H6) else some (-1000003, hset H1 60 0 0)) else (f_X8_layGift x1 x2 x3 (hset H1 60 0 0)).bind fun H8 => (ag H8 73 6 x4).bind fun v9 => some (v9, H8)) := by
    intro H1 h1
    simp only [f_X8_paidIf, pf_e, Option.bind_some, in_0_99, within_eq]
    rw [isGv8 (h1.t.2.1 0 (by omega)) (by omega), isP8 (h1.t.2.1 0 (by omega)) (by omega), show ag (hset H1 60 0 0) 64 80 3 = ag (hset H1 60 0 0) 64 80 (nI 3) from rfl, ag_n (by omega) (by omega), h1.t.2.1 3 (by omega)]
    simp only [Option.bind_some, bz]
  simp only [f_X7_paidIf, isG7, within_eq, isP7 h.2.2.2.2.2.1, Option.bind_some, bz]
  by_cases g1 : x1 < 0 ∨ 9 < x1
  · simp only [if_pos g1]
    exact ⟨_, _, _, rfl, by rw [m8 H h, if_pos (Or.inr (Or.inl g1))]⟩
  by_cases g2 : x2 < 0 ∨ nI (R 0) ≤ x2
  · simp only [if_neg g1, if_pos g2]
    exact ⟨_, _, _, rfl, by rw [m8 H h, if_pos (Or.inr (Or.inr g2))]⟩
  obtain ⟨p, hp, rfl⟩ := gpI (by omega) g2
  have c0 := nor3 (show ¬ R 0 = 0 by omega) g1 g2
  by_cases g3 : x3 < 0 ∨ 99 < x3
  · simp only [if_neg g1, if_neg g2, if_pos g3]
    exact ⟨_, _, _, rfl, by rw [m8 H h, if_neg c0, if_pos g3]⟩
  by_cases g4 : x4 < 0 ∨ nI (R 0) ≤ x4
  · simp only [if_neg g1, if_neg g2, if_neg g3, if_pos g4]
    exact ⟨_, _, _, rfl, by rw [m8 H h, if_neg c0, if_neg g3, if_pos g4]⟩
  simp only [if_neg g1, if_neg g2, if_neg g3, if_neg g4]
  obtain ⟨a, ha, rfl⟩ := giI g1
  obtain ⟨v, -, hv, rfl⟩ := i_rng x3 0 99 (by omega) (by omega) g3
  obtain ⟨w, hw, rfl⟩ := gpI (by omega) g4
  have trial : (v = 0 ∨ R 3 < 20) → ∃ (r : Int32) (H1 H2 : Hp), f_X3_paidWith (nI a) (nI p) (nI v) (nI w) H = some (r, H1) ∧ f_X8_layGift (nI a) (nI p) (nI v) (hset H1 60 0 0) = some H2 ∧ ag H2 73 6 (nI w) = some r ∧ FU H1 R := by
    intro h3
    obtain ⟨Ha, a1, a2, a3⟩ := load7 h.1 (by omega) h.2.2
    have hn := h.1.2.2.2.2.2.2.2 a ha
    obtain ⟨Hb, b1, b2⟩ := add7 (okR h.1 (by omega)) a2 hn hp rfl (nI v) (nI_add _ _) (tb_le h.1 h3 ha hp hv)
    obtain ⟨Hc, c1, c2, c3, c4, c5⟩ := settle7 ⟨hr, ts_B (tb_B h.1) hp (tb_le h.1 h3 ha hp hv), (okR h.1 (by omega)).2.2⟩ h.1.2.1 b2
    have hF : FU Hc R := h.fr (fun c k hc => by rw [fr_X2_settle c1 c k (by omega), fr_X2_add b1 c k (by omega), fr_X2_load a1 c k (by omega)])
    obtain ⟨Hd, d1, d2⟩ := gift8 (a := a) (p := p) (v := v) h.1 hF.t.2.1 h3 ha hp hv
    refine ⟨nI (PD (R 0) (R 1) (CB (κR R) (R 2) (ts (tb R) (R (70 + a)) p (tb R (R (70 + a)) p + v)) L0) w), Hc, Hd, ?_, d1, ?_, hF⟩
    · unfold f_X3_paidWith
      rw [a1, Option.bind_some, ag_n ha (by omega), Option.bind_some, a3.2.2.2.2.2.2.1 a ha, b1, Option.bind_some, c1, Option.bind_some, ag_n (by omega) (by omega), (c3 w hw).2]; rfl
    · rw [ag_n (by omega) (by omega), (d2.2.2.1 w (by rw [TG_o (by omega) (by omega)]; exact hw)).2, TG_o (k := 0) (by omega) (by omega), TG_o (k := 1) (by omega) (by omega), PD_congr (tg_PD h.1 h3 ha hp) hw]
  rw [h.2.2.2.2.2.2.1]
  have e20 : (nI (R 3) < 20) = (R 3 < 20) := nI_lt' (b := 20) (by omega) (by omega)
  have e20' : (nI (R 3) = 20) = (R 3 = 20) := nI_eq' (b := 20) (by omega) (by omega)
  simp only [e20]
  simp only [e20'] at m8
  by_cases v0 : v = 0
  · obtain ⟨r, H1, H2, t1, t2, t3, t4⟩ := trial (Or.inl v0)
    rw [if_pos (by rw [v0]; decide), t1, Option.bind_some]
    refine ⟨r, H1, H2, rfl, ?_⟩
    rw [m8 H1 t4, if_neg c0, if_neg g3, if_neg g4, t2, Option.bind_some, t3, Option.bind_some, if_pos (show nI v ≤ 0 by rw [v0]; decide)]
    split <;> rfl
  · rw [if_neg (nI_nle (by omega) (by omega))]
    by_cases g20 : R 3 < 20
    · obtain ⟨r, H1, H2, t1, t2, t3, t4⟩ := trial (Or.inr g20)
      rw [if_pos g20, t1, Option.bind_some]
      refine ⟨r, H1, H2, rfl, ?_⟩
      rw [m8 H1 t4, if_neg c0, if_neg g3, if_neg g4, t2, Option.bind_some, t3, Option.bind_some, if_neg (show ¬ R 3 = 20 by omega)]
    · rw [if_neg g20]
      exact ⟨_, _, _, rfl, by rw [m8 H h, if_neg c0, if_neg g3, if_neg g4, if_pos (show R 3 = 20 by omega), if_neg (nI_nle (by omega) (by omega))]⟩
