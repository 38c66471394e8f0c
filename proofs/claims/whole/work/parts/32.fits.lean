/-! who: kinds and coins -/
theorem BO.kd {H : Hp} {n P e : Nat} {κ κ2 : Nat → Int32} {s : Nat → Nat → Nat} {L : Nat → Bool} (h : BO H n P e κ s L) {x : Nat} (h1 : ∀ p, p < n → p ≠ x → κ p = κ2 p) : BO (hset H 42 x (κ2 x)) n P e κ2 s L := by
  refine ⟨h.1.fr (fun c j q => hset_c (by omega)), fun a ha => by rw [hset_c (by omega)]; exact h.2.1 a ha, fun p hp => ?_⟩
  obtain ⟨q1, q2⟩ := h.2.2 p hp
  rw [hset_c (show 43 ≠ 42 by omega), hset_c (show 44 ≠ 42 by omega), hset_c (show 45 ≠ 42 by omega), hset_c (show 46 ≠ 42 by omega)]
  refine ⟨?_, q2⟩
  by_cases g : p = x
  · rw [g, hset_self]
  · rw [hset_k g, q1, h1 p hp g]
theorem ruk_w {R : Nat → Nat} (h : Rw R) {q v : Nat} (hq : q < 6) (h1 : 1 ≤ v) (h5 : v ≤ 5) : Rw (ru R (4 + q) v) := by
  obtain ⟨r0, r1, r2, r3, r4, r5, r6, r7⟩ := h
  refine ⟨by rw [ru_o (by omega)]; exact r0, by rw [ru_o (by omega)]; exact r1, by rw [ru_o (by omega)]; exact r2, by rw [ru_o (by omega), ru_o (by omega)]; exact r3, by rw [ru_o (by omega)]; exact r4, fun p hp => ?_, fun j hj => ?_, fun a ha => by rw [ru_o (by omega)]; exact r7 a ha⟩
  · rw [ru_o (by omega)] at hp
    by_cases gp : p = q
    · rw [gp, ru_s]; exact ⟨h1, h5⟩
    · rw [ru_o (by omega)]; exact r5 p hp
  · rw [ru_o (by omega)] at hj
    rw [ru_o (by omega), ru_o (by omega), ru_o (by omega), ru_o (by omega)]; exact r6 j hj
theorem ruk_t {R : Nat → Nat} (h : Rw R) {q v : Nat} (hq : q < 6) : tb (ru R (4 + q) v) = tb R := by
  funext x y
  unfold tb tk
  rw [ru_o (by omega)]
  exact sm_congr (fun j hj => by rw [ru_o (by omega), ru_o (by omega), ru_o (by omega), ru_o (by omega)])
noncomputable def kb (R : Nat → Nat) (E : Nat → Int32) (x k : Nat) : Bool := decide (1 ≤ k) && ft (R 0) (PD (R 0) (R 1) (CR (ru R (4 + x) k))) E
theorem kinds7 {H : Hp} {R : Nat → Nat} {E : Nat → Int32} (h : FU H R) {x : Nat} (hx : x < R 0) (hE : ∀ p, p < R 0 → H 57 p = E p) : ∃ Hz, f_X3_fittingKinds (nI x) H = some (nI (bsum 6 (kb R E x)), Hz) := by
  have hr := h.1.1
  obtain ⟨Ha, a1, a2, a3⟩ := load7 h.1 (by omega) h.2.2
  have ok := okR h.1 (show 0 < R 0 by omega)
  obtain ⟨⟨y, Hz⟩, e1, e2⟩ := upx (fun m k (z : Int32 × Hp) => f_X3_fittingKinds_l15 (nI x) m z.1 (nI k) z.2) 6 (fun k z => 1 ≤ k ∧ z.1 = nI (bsum k (kb R E x)) ∧ (∀ p, p < R 0 → z.2 57 p = E p) ∧ z.2 7 3 = nI (R 0) ∧ ∃ κ, (∀ p, p < R 0 → p ≠ x → κ p = κR R p) ∧ BO z.2 (R 0) (R 1) (R 2) κ (tb R) L0) (fun z => z.1 = nI (bsum 6 (kb R E x)))
    (fun m z hz => ⟨z, by simp only [f_X3_fittingKinds_l15]; rw [if_pos (by decide)], hz.2.1⟩)
    (fun m k z hk hz => by
      obtain ⟨z0, z1, z2, z3, κ, z4, z5⟩ := hz
      have b1 := z5.kd (x := x) (κ2 := κR (ru R (4 + x) k)) (fun p hp hpx => by rw [z4 p hp hpx]; unfold κR; rw [ru_o (by omega)])
      rw [show κR (ru R (4 + x) k) x = nI k by unfold κR; rw [ru_s]] at b1
      obtain ⟨H3, s1, s2, s3, s4, s5⟩ := settle7 ok h.1.2.1 b1
      have cr : ∀ q, q < R 0 → CB (κR (ru R (4 + x) k)) (R 2) (tb R) L0 q = CR (ru R (4 + x) k) q := fun q hq => by
        have := (CR_like (R := ru R (4 + x) k) (R2 := ru R (4 + x) k) (s := tb R) (L := L0) rfl (fun _ _ => rfl) (by rw [mk0, ruk_t h.1 (by omega)]) (show q < 6 by omega)).symm
        rw [ru_o (show 2 ≠ 4 + x by omega)] at this
        exact this
      have f3 : ∀ c j, c < 38 ∨ 48 < c → H3 c j = z.2 c j := fun c j hc => by rw [fr_X2_settle s1 c j (by omega), hset_c (by omega)]
      have ex := isx7 (H := H3) (E := E) hr (by rw [f3 7 3 (by omega), z3]) (fun p hp => (s3 p hp).2) (fun p hp => by rw [f3 57 p (by omega), z2 p hp])
      rw [ft_congr (fun p hp => PD_congr cr hp)] at ex
      have ek : kb R E x k = ft (R 0) (PD (R 0) (R 1) (CR (ru R (4 + x) k))) E := by unfold kb; simp [z0]
      have eo := bsum_or k (kb R E x)
      rw [ek] at eo
      refine Or.inr ⟨(nI (bsum (k + 1) (kb R E x)), H3), ?_, by omega, rfl, fun p hp => by dsimp only; rw [f3 57 p (by omega), z2 p hp], by dsimp only; rw [f3 7 3 (by omega), z3], κR (ru R (4 + x) k), fun p hp hpx => by unfold κR; rw [ru_o (by omega)], s2⟩
      simp only [f_X3_fittingKinds_l15]
      rw [if_neg (show ¬ (5 : Int32) < nI k from nI_nlt (b := k) (a := 5) (by omega) (by omega)), as_n (by omega) (by omega), Option.bind_some, s1, Option.bind_some, ex, Option.bind_some, z1, nI_1, ← eo]
      by_cases g : ft (R 0) (PD (R 0) (R 1) (CR (ru R (4 + x) k))) E = true
      · rw [if_pos g, if_pos g, if_neg (by decide), shl1 (by omega), orN]
      · rw [if_neg g, if_neg g, if_pos rfl, Nat.or_zero]) 5 fuel 1 (0, Ha) (by omega) (by unfold fuel; omega) ⟨by omega, by
        have : bsum 1 (kb R E x) = 0 := by rw [bsum_s]; unfold bsum; rw [sm_0]; simp [kb]
        rw [this]; rfl, fun p hp => by dsimp only; rw [fr_X2_load a1 57 p (by omega), hE p hp], a3.2.2.2.1, κR R, fun _ _ _ => rfl, a2⟩
  refine ⟨Hz, ?_⟩
  unfold f_X3_fittingKinds
  rw [a1, Option.bind_some, show f_X3_fittingKinds_l15 (nI x) fuel 0 1 Ha = some (y, Hz) from e1, Option.bind_some]
  dsimp only at e2 ⊢
  rw [e2]
theorem kinds8 {H : Hp} {R : Nat → Nat} {E : Nat → Int32} {f x : Nat} (hR : Rw R) (hH : Hr H 64 R) (hx : x < R 0) (hf : f + R 0 ≤ 320) (hE : ∀ p, p < R 0 → H 63 (f + p) = E p) : ∃ Hz, f_X8_kindsOf (nI x) (nI f) H = some (nI (bsum 6 (kb R E x)), Hz) := by
  have hr := hR.1
  obtain ⟨⟨y, Hz⟩, e1, e2⟩ := upx (fun m k (z : Int32 × Hp) => f_X8_kindsOf_l5 (nI x) (nI f) m z.1 (nI k) z.2) 6 (fun k z => 1 ≤ k ∧ z.1 = nI (bsum k (kb R E x)) ∧ (∀ p, p < R 0 → z.2 63 (f + p) = E p) ∧ Hr z.2 64 R) (fun z => z.1 = nI (bsum 6 (kb R E x)))
    (fun m z hz => ⟨z, by simp only [f_X8_kindsOf_l5]; rw [if_pos (by decide)], hz.2.1⟩)
    (fun m k z hk hz => by
      obtain ⟨z0, z1, z2, z3⟩ := hz
      obtain ⟨H1, a1, a2, a3⟩ := then8 z3
      obtain ⟨H3, b1, b2, b3⟩ := rk66 (H := z.2) (ruk_w hR (show x < 6 by omega) z0 (show k ≤ 5 by omega)) (by rw [ru_o (by omega)]; omega) (Hr_ru (i := 4 + x) (v := k) a2) (fun c j hc => by rw [hset_c hc, a3 c j hc])
      have q0 : ru R (4 + x) k 0 = R 0 := ru_o (by omega)
      have q1 : ru R (4 + x) k 1 = R 1 := ru_o (by omega)
      have ex := isx8 (H := H3) (E := E) (d := PD (R 0) (R 1) (CR (ru R (4 + x) k))) hr hf (by rw [b2.1 64 0 (by omega) (by omega), z3 0 (by omega)]) (fun p hp => by have := (b2.2.2.1 p (by rw [q0]; exact hp)).2; rw [q0, q1] at this; exact this) (fun p hp => by rw [b2.1 63 _ (by omega) (by omega), z2 p hp])
      have ek : kb R E x k = ft (R 0) (PD (R 0) (R 1) (CR (ru R (4 + x) k))) E := by unfold kb; simp [z0]
      have eo := bsum_or k (kb R E x)
      rw [ek] at eo
      refine Or.inr ⟨(nI (bsum (k + 1) (kb R E x)), H3), ?_, by omega, rfl, fun p hp => by dsimp only; rw [b2.1 63 _ (by omega) (by omega), z2 p hp], z3.fr (fun j _ => b2.1 64 j (by omega) (by omega))⟩
      simp only [f_X8_kindsOf_l5]
      rw [if_neg (show ¬ (5 : Int32) < nI k from nI_nlt (b := k) (a := 5) (by omega) (by omega)), a1, Option.bind_some, z4, as_n (by omega) (by omega), Option.bind_some, b1, Option.bind_some, ex, Option.bind_some, z1, nI_1, ← eo]
      by_cases g : ft (R 0) (PD (R 0) (R 1) (CR (ru R (4 + x) k))) E = true
      · rw [if_pos g, if_pos g, if_neg (by decide), shl1 (by omega), orN]
      · rw [if_neg g, if_neg g, if_pos rfl, show (0 : Int32) = nI 0 from rfl, orN]) 5 fuel 1 (0, H) (by omega) (by unfold fuel; omega) ⟨by omega, by
        have : bsum 1 (kb R E x) = 0 := by rw [bsum_s]; unfold bsum; rw [sm_0]; simp [kb]
        rw [this]; rfl, hE, hH⟩
  refine ⟨Hz, ?_⟩
  unfold f_X8_kindsOf
  rw [show f_X8_kindsOf_l5 (nI x) (nI f) fuel 0 1 H = some (y, Hz) from e1, Option.bind_some]
  dsimp only at e2 ⊢
  rw [e2]
def Cv (R : Nat → Nat) (g v : Nat) : Nat → Nat := Dr R g (R (10 + 3 * g)) (R (11 + 3 * g)) v
theorem Cv_ru (R : Nat → Nat) (g v : Nat) : Cv R g v = ru R (12 + 3 * g) v := by
  funext k
  unfold Cv Dr ru
  by_cases h0 : k = 10 + 3 * g
  · rw [if_pos h0, if_neg (by omega), h0]
  · by_cases h1 : k = 11 + 3 * g
    · rw [if_neg h0, if_pos h1, if_neg (by omega), h1]
    · rw [if_neg h0, if_neg h1]
theorem Cv_w {R : Nat → Nat} (h : Rw R) {g v : Nat} (hg : g < R 3) (h1 : 1 ≤ v) (h2 : v ≤ 99) : Rw (Cv R g v) := by
  obtain ⟨q1, q2, q3, q4⟩ := h.2.2.2.2.2.2.1 g hg
  exact Dr_w h hg q1 q2 h1 h2
theorem Cv_t {R : Nat → Nat} (h : Rw R) {g v : Nat} (hg : g < R 3) : tb (Cv R g v) = ts (tb R) (R (70 + R (10 + 3 * g))) (R (11 + 3 * g)) (tb R (R (70 + R (10 + 3 * g))) (R (11 + 3 * g)) - R (12 + 3 * g) + v) := by
  obtain ⟨q1, q2, q3, q4⟩ := h.2.2.2.2.2.2.1 g hg
  have := Dr_ts (p := R (11 + 3 * g)) (c := v) h hg q1
  rw [ts_at, ts_ts] at this
  exact this.symm
noncomputable def vb (R : Nat → Nat) (E : Nat → Int32) (g v : Nat) : Bool := ft (R 0) (PD (R 0) (R 1) (CR (Cv R g v))) E
theorem coins7 {H : Hp} {R : Nat → Nat} {E : Nat → Int32} (h : FU H R) {g : Nat} (hg : g < R 3) (hE : ∀ p, p < R 0 → H 57 p = E p) (w : Bool) : ∃ Hz, f_X3_fittingCoins (nI g) (if w then 1 else 0) H = some ((if w then lb (vb R E g) 1 99 else nI (cb (vb R E g) 1 99)), Hz) := by
  have hr := h.1.1
  have hg3 := h.1.2.2.2.2.1
  obtain ⟨q1, q2, q3, q4⟩ := h.1.2.2.2.2.2.2.1 g hg
  have q5 := h.1.2.2.2.2.2.2.2 _ q1
  obtain ⟨p1, p2, p3⟩ := h.2.2.2.2.2.2.2.2.2 g hg
  obtain ⟨Ha, a1, a2, a3⟩ := load7 h.1 (by omega) h.2.2
  have ok := okR h.1 (show 0 < R 0 by omega)
  have ge : R (12 + 3 * g) ≤ tb R (R (70 + R (10 + 3 * g))) (R (11 + 3 * g)) := by
    have := sm_ge (n := R 3) (fun i => if R (70 + R (10 + 3 * i)) = R (70 + R (10 + 3 * g)) ∧ R (11 + 3 * i) = R (11 + 3 * g) then R (12 + 3 * i) else 0) hg
    rw [if_pos ⟨rfl, rfl⟩] at this
    exact this
  have tl := (tb_B h.1 (R (70 + R (10 + 3 * g))) (R (11 + 3 * g))).1
  obtain ⟨Hb, b1, b2⟩ := add7 (v := tb R (R (70 + R (10 + 3 * g))) (R (11 + 3 * g)) - R (12 + 3 * g)) ok a2 q5 q2 rfl (-nI (R (12 + 3 * g))) (by rw [← Int32.sub_eq_add_neg, pk_sub ge]) (by omega)
  have fb : ∀ c j, c < 38 ∨ 48 < c → Hb c j = H c j := fun c j hc => by rw [fr_X2_add b1 c j (by omega), fr_X2_load a1 c j (by omega)]
  obtain ⟨v, e1, e2⟩ := upx (fun m k (z : Int32 × Hp) => f_X3_fittingCoins_l67 (if w then 1 else 0) (nI (R (70 + R (10 + 3 * g)))) (nI (R (11 + 3 * g))) m z.1 (nI k) z.2) 100 (fun k z => 1 ≤ k ∧ z.1 = nI (cb (vb R E g) 1 (k - 1)) ∧ (w = true → cb (vb R E g) 1 (k - 1) = 0) ∧ (∀ c j, c < 38 ∨ 48 < c → z.2 c j = H c j) ∧ BO z.2 (R 0) (R 1) (R 2) (κR R) (ts (tb R) (R (70 + R (10 + 3 * g))) (R (11 + 3 * g)) (tb R (R (70 + R (10 + 3 * g))) (R (11 + 3 * g)) - R (12 + 3 * g) + (k - 1))) L0) (fun v => (∃ Hz, v = .inl (nI (cb (vb R E g) 1 99), Hz) ∧ (w = true → cb (vb R E g) 1 99 = 0)) ∨ ∃ Hz, w = true ∧ v = .inr (lb (vb R E g) 1 99, Hz))
    (fun m z hz => ⟨.inl z, by simp only [f_X3_fittingCoins_l67]; rw [if_pos (by decide)], Or.inl ⟨z.2, by rw [show (99 : Nat) = 100 - 1 from rfl, ← hz.2.1], hz.2.2.1⟩⟩)
    (fun m k z hk hz => by
      obtain ⟨z0, z1, z2, z3, z4⟩ := hz
      have tk := (tb_B (Cv_w (v := k) h.1 hg z0 (by omega)) (R (70 + R (10 + 3 * g))) (R (11 + 3 * g))).1
      rw [Cv_t h.1 hg, ts_at] at tk
      have ok1 : Ok (R 0) (R 2) (ts (tb R) (R (70 + R (10 + 3 * g))) (R (11 + 3 * g)) (tb R (R (70 + R (10 + 3 * g))) (R (11 + 3 * g)) - R (12 + 3 * g) + (k - 1))) := ⟨hr, ts_B (tb_B h.1) q2 (by omega), ok.2.2⟩
      obtain ⟨H7, c1, c2⟩ := add7 (v := tb R (R (70 + R (10 + 3 * g))) (R (11 + 3 * g)) - R (12 + 3 * g) + k) ok1 z4 q5 q2 rfl 1 (by rw [ts_at, nI_1]; congr 1; omega) tk
      rw [ts_ts] at c2
      obtain ⟨H8, s1, s2, s3, s4, s5⟩ := settle7 ⟨hr, ts_B (tb_B h.1) q2 tk, ok.2.2⟩ h.1.2.1 c2
      have cr : ∀ q, q < R 0 → CB (κR R) (R 2) (ts (tb R) (R (70 + R (10 + 3 * g))) (R (11 + 3 * g)) (tb R (R (70 + R (10 + 3 * g))) (R (11 + 3 * g)) - R (12 + 3 * g) + k)) L0 q = CR (Cv R g k) q := fun q hq => (CR_like (Dr_o (by omega)) (fun j hj => Dr_o (by omega)) (by rw [mk0]; exact Cv_t h.1 hg) (by omega)).symm
      have f8 : ∀ c j, c < 38 ∨ 48 < c → H8 c j = H c j := fun c j hc => by rw [fr_X2_settle s1 c j (by omega), fr_X2_add c1 c j (by omega), z3 c j hc]
      have ex := isx7 (H := H8) (E := E) hr (by rw [f8 7 3 (by omega), h.2.2.2.2.2.1]) (fun p hp => (s3 p hp).2) (fun p hp => by rw [f8 57 p (by omega), hE p hp])
      rw [ft_congr (fun p hp => PD_congr cr hp)] at ex
      have ev : vb R E g k = ft (R 0) (PD (R 0) (R 1) (CR (Cv R g k))) E := rfl
      rw [← ev] at ex
      have cs := cb_s (vb R E g) 1 (k - 1)
      rw [show k - 1 + 1 = k by omega, show 1 + (k - 1) = k by omega] at cs
      simp only [f_X3_fittingCoins_l67]
      rw [if_neg (show ¬ (99 : Int32) < nI k from nI_nlt (b := k) (a := 99) (by omega) (by omega)), c1, Option.bind_some, s1, Option.bind_some, ex, Option.bind_some, nI_1]
      by_cases g' : vb R E g k = true
      · rw [if_pos g', if_neg (by decide)]
        cases w
        · rw [if_pos (show (if false = true then (1 : Int32) else 0) = 0 from rfl)]
          exact Or.inr ⟨(z.1 + 1, H8), rfl, by omega, by rw [Nat.add_sub_cancel, cs, if_pos g']; dsimp only; rw [z1, nI_1], fun q => absurd q (by decide), f8, by rw [Nat.add_sub_cancel]; exact s2⟩
        · rw [if_neg (show ¬ (if true = true then (1 : Int32) else 0) = 0 by decide)]
          refine Or.inl ⟨_, rfl, Or.inr ⟨H8, rfl, ?_⟩⟩
          rw [(lb_hit (vb R E g) 1 (k - 1) (z2 rfl) (by rw [show 1 + (k - 1) = k by omega]; exact g') 99 (by omega)).1, show 1 + (k - 1) = k by omega]
      · rw [if_neg g', if_pos rfl]
        exact Or.inr ⟨(z.1, H8), rfl, by omega, by rw [Nat.add_sub_cancel, cs, if_neg g']; exact z1, fun q => by rw [Nat.add_sub_cancel, cs, if_neg g']; exact z2 q, f8, by rw [Nat.add_sub_cancel]; exact s2⟩) 99 fuel 1 (0, Hb) (by omega) (by unfold fuel; omega) ⟨by omega, by rw [show 1 - 1 = 0 from rfl]; unfold cb; rw [sm_0]; rfl, fun _ => by rw [show 1 - 1 = 0 from rfl]; unfold cb; rw [sm_0], fb, by rw [show 1 - 1 = 0 from rfl, Nat.add_zero]; exact b2⟩
  unfold f_X3_fittingCoins
  rw [ag_n (by omega) (by omega), Option.bind_some, p1, ag_n q1 (by omega), Option.bind_some, h.2.2.2.2.2.2.2.2.1 _ q1, ag_n (by omega) (by omega), Option.bind_some, p2, a1, Option.bind_some, ag_n (by omega) (by omega), Option.bind_some, fr_X2_load a1 12 g (by omega), p3, b1, Option.bind_some, show f_X3_fittingCoins_l67 (if w then 1 else 0) (nI (R (70 + R (10 + 3 * g)))) (nI (R (11 + 3 * g))) fuel 0 1 Hb = some v from e1, Option.bind_some]
  rcases e2 with ⟨Hz, rfl, q⟩ | ⟨Hz, q, rfl⟩
  · refine ⟨Hz, ?_⟩
    simp only [Sum.elim_inl]
    cases w
    · rw [if_pos (show (if false = true then (1 : Int32) else 0) = 0 from rfl), if_neg (show ¬ false = true by decide)]
    · rw [lb_none _ _ _ (q rfl), if_neg (show ¬ (if true = true then (1 : Int32) else 0) = 0 by decide), if_pos (show true = true from rfl)]
  · refine ⟨Hz, ?_⟩
    simp only [Sum.elim_inr]
    rw [if_pos q]
theorem coins8 {H : Hp} {R : Nat → Nat} {E : Nat → Int32} {f g : Nat} (hR : Rw R) (hH : Hr H 64 R) (hg : g < R 3) (hf : f + R 0 ≤ 320) (hE : ∀ p, p < R 0 → H 63 (f + p) = E p) (x3 : Int32) : ∃ Hz, f_X8_coinsOf (nI g) (nI f) x3 H = some ((if x3 = 3 then nI (cb (vb R E g) 1 99) else lb (vb R E g) 1 99), Hz) := by
  have hr := hR.1
  have hg3 := hR.2.2.2.2.1
  obtain ⟨q1, q2, q3, q4⟩ := hR.2.2.2.2.2.2.1 g hg
  obtain ⟨⟨y1, y2, Hz⟩, e1, e2⟩ := upx (fun m k (z : Int32 × Int32 × Hp) => f_X8_coinsOf_l10 (nI g) (nI f) m z.1 z.2.1 (nI k) z.2.2) 100 (fun k z => 1 ≤ k ∧ z.1 = nI (cb (vb R E g) 1 (k - 1)) ∧ z.2.1 = lb (vb R E g) 1 (k - 1) ∧ Hr z.2.2 64 R ∧ ∀ p, p < R 0 → z.2.2 63 (f + p) = E p) (fun z => z.1 = nI (cb (vb R E g) 1 99) ∧ z.2.1 = lb (vb R E g) 1 99)
    (fun m z hz => ⟨z, by simp only [f_X8_coinsOf_l10]; rw [if_pos (by decide)], hz.2.1, hz.2.2.1⟩)
    (fun m k z hk hz => by
      obtain ⟨z0, z1, z2, z3, z5⟩ := hz
      obtain ⟨H1, a1, a2, a3⟩ := then8 z3
      have hw := Cv_w (v := k) hR hg z0 (by omega)
      have h66 : Hr (hset H1 66 (12 + 3 * g) (nI k)) 66 (Cv R g k) := by rw [Cv_ru]; exact Hr_ru a2
      have c0 : Cv R g k 0 = R 0 := Dr_o (by omega)
      have c1' : Cv R g k 1 = R 1 := Dr_o (by omega)
      obtain ⟨H3, b1, b2, b3⟩ := rk66 (H := z.2.2) hw (by rw [c0]; omega) h66 (fun c j hc => by rw [hset_c hc, a3 c j hc])
      have ex := isx8 (H := H3) (E := E) (d := PD (R 0) (R 1) (CR (Cv R g k))) hr hf (by rw [b2.1 64 0 (by omega) (by omega), z3 0 (by omega)]) (fun p hp => by have := (b2.2.2.1 p (by rw [c0]; exact hp)).2; rw [c0, c1'] at this; exact this) (fun p hp => by rw [b2.1 63 _ (by omega) (by omega), z5 p hp])
      rw [show ft (R 0) (PD (R 0) (R 1) (CR (Cv R g k))) E = vb R E g k from rfl] at ex
      have cs := cb_s (vb R E g) 1 (k - 1)
      have ls := lb_s (vb R E g) 1 (k - 1)
      have cl := cb_le (vb R E g) 1 (k - 1)
      rw [show k - 1 + 1 = k by omega, show 1 + (k - 1) = k by omega] at cs ls
      refine Or.inr ⟨(nI (cb (vb R E g) 1 k), lb (vb R E g) 1 k, H3), ?_, by omega, rfl, rfl, z3.fr (fun j _ => b2.1 64 j (by omega) (by omega)), fun p hp => by dsimp only; rw [b2.1 63 _ (by omega) (by omega), z5 p hp]⟩
      simp only [f_X8_coinsOf_l10]
      rw [if_neg (show ¬ (100 : Int32) ≤ nI k from nI_ge (b := 100) hk (by omega)), a1, Option.bind_some, z10, show (2 : Int32) = nI 2 from rfl, nI_add, show 10 + 3 * g + 2 = 12 + 3 * g by omega, as_n (by omega) (by omega), Option.bind_some, b1, Option.bind_some, ex, Option.bind_some, z1, z2, nI_1, nI_1, cs, ls]
      have e0 : (nI (cb (vb R E g) 1 (k - 1)) = 0) = (cb (vb R E g) 1 (k - 1) = 0) := nI_eq' (b := 0) (by omega) (by omega)
      by_cases g' : vb R E g k = true
      · simp only [if_pos g', e0, if_neg (show ¬ (1 : Int32) = 0 by decide)]
      · simp only [if_neg g', if_true, Nat.add_zero]) 99 fuel 1 (0, -1000000, H) (by omega) (by unfold fuel; omega) ⟨by omega, by rw [show 1 - 1 = 0 from rfl]; unfold cb; rw [sm_0]; rfl, by rw [show 1 - 1 = 0 from rfl]; exact (lb_0 _ _).symm, hH, hE⟩
  refine ⟨Hz, ?_⟩
  unfold f_X8_coinsOf
  rw [show f_X8_coinsOf_l10 (nI g) (nI f) fuel 0 (-1000000) 1 H = some (y1, y2, Hz) from e1, Option.bind_some]
  dsimp only at e2 ⊢
  rw [e2.1, e2.2]
