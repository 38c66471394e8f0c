/-! fund: the model's law, and the pair -/
theorem l11_8 (H : Hp) : f_X8_fund_l11 fuel 0 H = some (fillH H 65 0 80 (fun k => nI (tR0 k))) := by
  refine fill_loop (fun m k a => f_X8_fund_l11 m (nI k) a) 65 0 80 (fun k => nI (tR0 k)) H (by omega) (fun m => ?_) (fun m k hk => ?_)
  · simp only [f_X8_fund_l11]
    rw [if_pos (by decide)]
  · simp only [f_X8_fund_l11]
    have e : (if nI k < 70 then 0 else nI k - 70 : Int32) = nI (tR0 k) := by
      have z : (nI k < 70) = (k < 70) := nI_lt' (b := 70) (by omega) (by omega)
      simp only [z]
      unfold tR0
      by_cases g : k < 70
      · rw [if_pos g, show k - 70 = 0 by omega]; rfl
      · rw [if_neg g]; exact pk_sub (b := 70) (by omega)
    rw [if_neg (show ¬ (80 : Int32) ≤ nI k from nI_ge (b := 80) hk (by omega)), e, as_n (by omega) (by omega), Option.bind_some, nI_1, ← fill_s (k := k) rfl, Nat.zero_add]
theorem begin8 {H0 : Hp} {n : Nat} {B : Nat → Nat} (t : Tm H0 n B) : ∃ H2, f_X8_begin H0 = some H2 ∧ Fb H0 H2 ∧ H2 60 16 = 0 ∧ H2 60 13 = nI 0 ∧ Tkn H2 n B 0 := by
  have t2 : Tm (hset (hset H0 60 12 0) 60 16 0) n B := t.fr (by rw [hset_k (by omega), hset_k (by omega)]) (fun k => by rw [hset_c (by omega), hset_c (by omega)])
  obtain ⟨H2, e1, e2, e3⟩ := tok8 (q := 0) t2 (by rw [hset_k (by omega), hset_self]; rfl) (Nat.zero_le _)
  have fr := fr_X8_nextToken e1
  unfold f_X8_begin
  simp only [pf_e, Option.bind_some]
  rw [e1]
  refine ⟨H2, rfl, fun c k c1 c2 => ?_, ?_, e2, e3⟩
  · rw [fr c k (by omega), hset_if, if_neg (by omega), hset_if, if_neg (by omega)]
  · rw [fr 60 16 (by omega), hset_self]
theorem as_1 (H : Hp) (x : Int32) : as H 65 80 1 x = some (hset H 65 1 x) := by
  rw [show as H 65 80 1 x = as H 65 80 (nI 1) x from rfl, as_n (by omega) (by omega)]
theorem as_2 (H : Hp) (x : Int32) : as H 65 80 2 x = some (hset H 65 2 x) := by
  rw [show as H 65 80 2 x = as H 65 80 (nI 2) x from rfl, as_n (by omega) (by omega)]
theorem isLetter8 {H0 H : Hp} {n q : Nat} {B R : Nat → Nat} (h : Ms H0 H n B q R) : f_X8_isLetter 109 H = some (if q < n ∧ B q = 109 then 1 else 0) := by
  have := (tk_lt (c := 109) (by omega) h.2.2.2.2.1).1
  unfold f_X8_isLetter
  rw [if_pos h.2.1]
  exact congrArg some this
theorem law8 {H : Hp} {n : Nat} {B : Nat → Nat} (t : Tm (hset H 60 0 0) n B) (K : Hp → Option (Int32 × Hp)) : ∃ H2, fdA K H = K H2 ∧ ((∃ f p, tx_law n B = .error (f, p) ∧ Mf (hset H 60 0 0) H2 f p) ∨ ∃ q R, tx_law n B = .ok (q, R) ∧ Ms (hset H 60 0 0) H2 n B q R ∧ R 0 = 0 ∧ R 3 = 0) := by
  obtain ⟨Hb, b1, b2, b3, b4, b5⟩ := begin8 t
  have h8 : Ms (hset H 60 0 0) (fillH Hb 65 0 80 (fun k => nI (tR0 k))) n B 0 tR0 := by
    refine ⟨fun c k c1 c2 => ?_, ?_, ?_, Nat.zero_le _, b5.fr (fun k => fill_c (by omega)), fun k hk => ?_⟩
    · rw [fill_c c1, b2 c k c1 c2]
    · rw [fill_c (by omega), b3]
    · rw [fill_c (by omega), b4]
    · rw [fill_in (by omega) (by omega)]; rfl
  unfold fdA tx_law
  rw [pf_e, Option.bind_some, b1, Option.bind_some, l11_8, Option.bind_some, isLetter8 h8, Option.bind_some]
  generalize fillH Hb 65 0 80 (fun k => nI (tR0 k)) = Hx at h8 ⊢
  by_cases g : 0 < n ∧ B 0 = 109
  · have s1 : tx_sgn n B 109 0 = .ok 1 := if_pos g
    have tk := (tk_lt (c := 109) (by omega) h8.2.2.2.2.1).2 g
    obtain ⟨H1, e1, h1⟩ := must1 t h8 tk g.1
    rw [if_pos g, e1, Option.bind_some, s1]
    rcases nm8 0 99 t h1 (by omega) (by omega) with ⟨f, p, v, H2, s2, e2, z⟩ | ⟨v, b, H2, s2, e2, h2, v9⟩
    · rw [show f_X8_number 0 99 H1 = f_X8_number (nI 0) (nI 99) H1 from rfl, e2, Option.bind_some, as_1, Option.bind_some, sgF (z.f _ _), Option.bind_some, nmF (z.f _ _), Option.bind_some, as_2, Option.bind_some, sgF ((z.f _ _).f _ _), Option.bind_some]
      exact ⟨_, rfl, Or.inl ⟨f, p, by simp only [Except.bind, s2], (z.f _ _).f _ _⟩⟩
    rw [show f_X8_number 0 99 H1 = f_X8_number (nI 0) (nI 99) H1 from rfl, e2, Option.bind_some, as_1, Option.bind_some]
    dsimp only
    rw [show 10 * nI v = nI (10 * v) by rw [show (10 : Int32) = nI 10 from rfl, pk_mul]]
    rcases sg8 44 t (h2.f 1 (10 * v)) (Or.inl rfl) with ⟨f, p, H4, s4, e4, z⟩ | ⟨c, H4, s4, e4, h4⟩
    · rw [show (44 : Int32) = nI 44 from rfl, e4, Option.bind_some, nmF z, Option.bind_some, as_2, Option.bind_some, sgF (z.f _ _), Option.bind_some]
      exact ⟨_, rfl, Or.inl ⟨f, p, by simp only [Except.bind, s2, s4], z.f _ _⟩⟩
    rw [show (44 : Int32) = nI 44 from rfl, e4, Option.bind_some]
    rcases nm8 1 99 t h4 (by omega) (by omega) with ⟨f, p, w, H5, s5, e5, z⟩ | ⟨w, d, H5, s5, e5, h5, w9⟩
    · rw [show f_X8_number 1 99 H4 = f_X8_number (nI 1) (nI 99) H4 from rfl, e5, Option.bind_some, as_2, Option.bind_some, sgF (z.f _ _), Option.bind_some]
      exact ⟨_, rfl, Or.inl ⟨f, p, by simp only [Except.bind, s2, s4, s5], z.f _ _⟩⟩
    rw [show f_X8_number 1 99 H4 = f_X8_number (nI 1) (nI 99) H4 from rfl, e5, Option.bind_some, as_2, Option.bind_some]
    dsimp only
    rcases sg8 59 t (h5.f 2 w) (Or.inr rfl) with ⟨f, p, H7, s7, e7, z⟩ | ⟨c2, H7, s7, e7, h7⟩
    · rw [show (59 : Int32) = nI 59 from rfl, e7, Option.bind_some]
      exact ⟨_, rfl, Or.inl ⟨f, p, by simp only [Except.bind, s2, s4, s5, s7], z⟩⟩
    rw [show (59 : Int32) = nI 59 from rfl, e7, Option.bind_some]
    obtain ⟨-, -, r0, r3⟩ := law_Rw (v := v) (w := w) v9 w9
    exact ⟨_, rfl, Or.inr ⟨c2, _, by simp only [Except.bind, s2, s4, s5, s7], h7, r0, r3⟩⟩
  · have s1 : tx_sgn n B 109 0 = .error (1, 0) := if_neg g
    obtain ⟨H1, e1, z⟩ := must0 h8
    rw [if_neg g, e1, Option.bind_some, s1, nmF z, Option.bind_some, as_1, Option.bind_some, sgF (z.f _ _), Option.bind_some, nmF (z.f _ _), Option.bind_some, as_2, Option.bind_some, sgF ((z.f _ _).f _ _), Option.bind_some]
    exact ⟨_, rfl, Or.inl ⟨1, 0, rfl, (z.f _ _).f _ _⟩⟩
theorem fund8 {H : Hp} {n : Nat} {B : Nat → Nat} (t : Tm (hset H 60 0 0) n B) : Er (hset H 60 0 0) (f_X8_fund H) (tx_all n B) := by
  rw [fd_eq]
  obtain ⟨H2, e1, hc⟩ := law8 t fdB
  rw [e1]
  rcases hc with ⟨f, p, s, z⟩ | ⟨q, R, s, h, h0, h3⟩
  · obtain ⟨H3, e3, z3⟩ := fdB_F z
    exact Or.inl ⟨f, p, H3, by unfold tx_all; rw [s]; rfl, e3, z3⟩
  · have := fdB_O t h h0 h3
    unfold tx_all
    rw [s]
    exact this
theorem Rq.rp {H : Hp} {R : Nat → Nat} (h : Rq H R) (h0 : 0 < R 0) : Rp H 13 R := ⟨by rw [if_neg (by omega)]; exact h.1, h.2⟩
theorem q_fund {H : Hp} {R : Nat → Nat} (hT : Jtape H) (hS : Jst H) (h : FU H R) (hA : AC H R) : ∃ (r : Int32) (H1 H2 : Hp), f_X7_fund H = some (r, H1) ∧ f_X8_fund H1 = some (r, H2) ∧ Jtape H2 ∧ Jst H2 ∧ Jfa H2 := by
  obtain ⟨n, n1, n2, n3, n4⟩ := hT
  have hb : ∀ i, i < n → H 6 i = nI ((H 6 i).toNatClampNeg) ∧ (H 6 i).toNatClampNeg ≤ 255 := fun i hi => by
    obtain ⟨-, b, b1, b2⟩ := n4 i hi
    rw [b2, nI_clamp (by omega)]
    exact ⟨rfl, b1⟩
  have tp : TP H n (fun i => (H 6 i).toNatClampNeg) := ⟨n1, n2, n3, fun i hi => ⟨(hb i hi).1, by rw [← (n4 i hi).1]; exact (hb i hi).1, (hb i hi).2⟩⟩
  have tmx : ∀ H1 : Hp, H1 60 11 = H 60 11 → (∀ k, H1 68 k = H 68 k) → Tm (hset H1 60 0 0) n (fun i => (H 6 i).toNatClampNeg) := fun H1 g1 g2 => ⟨n1, by rw [hset_k (by omega), g1, n3], fun i hi => ⟨by rw [hset_c (by omega), g2, ← (n4 i hi).1]; exact (hb i hi).1, (hb i hi).2⟩⟩
  rcases into7 tp with ⟨f, p, Hc, s, e, z⟩ | ⟨Rn, Hc, s, e, hq, w1, w2⟩
  · have fr := fr_X6_readInto e
    have e7 : f_X7_fund H = some (-1000100 - nI p, hset (hset Hc 5 1 0) 0 9 (nI f)) := by
      unfold f_X7_fund
      rw [e, Option.bind_some, pf_e, Option.bind_some, if_pos rfl, pf_e, Option.bind_some, hset_c (show 5 ≠ 0 by omega), hset_k (show 5 ≠ 1 by omega), hset_k (show 4 ≠ 1 by omega)]
      dsimp only
      rw [z.1, z.2.1]
    have fo : ∀ c k, c ≠ 5 → (c < 13 ∨ 18 < c) → (c ≠ 0 ∨ k ≠ 9) → hset (hset Hc 5 1 0) 0 9 (nI f) c k = H c k := fun c k c1 c2 c3 => by
      rw [hset_if, if_neg (by omega), hset_if, if_neg (by omega)]
      exact fr c k (by refine ⟨?_, ?_, ?_, ?_, ?_, ?_, ?_, ?_, ?_, ?_, ?_, ?_, ?_, ?_⟩ <;> omega)
    rcases fund8 (tmx (hset (hset Hc 5 1 0) 0 9 (nI f)) (fo _ _ (by omega) (by omega) (by omega)) (fun k => fo _ _ (by omega) (by omega) (by omega))) with ⟨f2, p2, H2, s2, e2, z2⟩ | ⟨R2, H2, s2, -⟩
    · rw [s] at s2
      injection s2 with s2
      injection s2 with sf sp
      subst sf sp
      obtain ⟨y1, y2, y3⟩ := z2
      have fz : ∀ c k, c ≠ 65 → (c ≠ 60 ∨ (0 < k ∧ k < 11) ∨ 18 < k) → H2 c k = hset (hset Hc 5 1 0) 0 9 (nI f) c k := fun c k c1 c2 => by
        rw [y3 c k c1 c2, hset_if, if_neg (by omega)]
      refine ⟨_, _, H2, e7, e2, ⟨0, by omega, ?_, y2, fun i hi => absurd hi (by omega)⟩, ⟨?_, ?_⟩, fr_fu ⟨R, h, hA⟩ (fun c k hd => ?_)⟩
      · rw [fz _ _ (by omega) (by omega), hset_c (by omega), hset_self]; rfl
      · rw [fz _ _ (by omega) (by omega), hset_self, y1]
      · rw [fz _ _ (by omega) (by omega), fz 60 1 (by omega) (by omega), fo _ _ (by omega) (by omega) (by omega), fo 60 1 (by omega) (by omega) (by omega)]
        exact hS.2
      · unfold D_fu at hd
        rw [fz c k (by omega) (by omega), fo c k (by omega) (by omega) (by omega)]
    · rw [s] at s2
      cases s2
  · have fr := fr_X6_readInto e
    have rp : Rp (hset Hc 5 1 0) 13 Rn := (hq.rp w2).fr (fun c k h1 h2 => hset_c (by omega))
    obtain ⟨Hl, l1, l2, l3⟩ := like7 (b := 7) (o := 13) (by omega) w1 rp
    have e7 : f_X7_fund H = some (nI (Rn 0), hset Hl 32 6 0) := by
      unfold f_X7_fund f_X0_forgetAll
      rw [e, Option.bind_some, pf_e, Option.bind_some, if_neg ne10, l1, Option.bind_some, pf_e, Option.bind_some, Option.bind_some, hset_c (show 7 ≠ 32 by omega), l2.2.2.2.1]
    have fo : ∀ c k, c ≠ 5 → (c < 7 ∨ 18 < c) → (c ≠ 32 ∨ k ≠ 6) → hset Hl 32 6 0 c k = H c k := fun c k c1 c2 c3 => by
      rw [hset_if, if_neg (by omega), l3 c k (by omega), hset_if, if_neg (by omega)]
      exact fr c k (by refine ⟨?_, ?_, ?_, ?_, ?_, ?_, ?_, ?_, ?_, ?_, ?_, ?_, ?_, ?_⟩ <;> omega)
    rcases fund8 (tmx (hset Hl 32 6 0) (fo _ _ (by omega) (by omega) (by omega)) (fun k => fo _ _ (by omega) (by omega) (by omega))) with ⟨f2, p2, H2, s2, -⟩ | ⟨R2, H2, s2, e2, y1, y2, y3, y4⟩
    · rw [s] at s2
      cases s2
    · rw [s] at s2
      injection s2 with s2
      subst s2
      have fz : ∀ c k, c ≠ 64 → c ≠ 65 → c ≠ 60 → H2 c k = hset Hl 32 6 0 c k := fun c k c1 c2 c3 => fr_X8_fund e2 c k (by refine ⟨?_, ?_, ?_, ?_, ?_, ?_, ?_, ?_, ?_, ?_, ?_, ?_⟩ <;> omega)
      have f601 : H2 60 1 = hset Hl 32 6 0 60 1 := fr_X8_fund e2 60 1 (by refine ⟨?_, ?_, ?_, ?_, ?_, ?_, ?_, ?_, ?_, ?_, ?_, ?_⟩ <;> omega)
      obtain ⟨a0, m0, Q0, x1, x2, x3, x4, x5, x6, x7⟩ := hA
      refine ⟨_, _, H2, e7, e2, ⟨0, by omega, ?_, y3, fun i hi => absurd hi (by omega)⟩, ⟨?_, ?_⟩, Rn, ⟨w1, y1, l2.fr (fun c k h1 h2 => ?_)⟩, 0, m0, fun _ => Rn, by omega, x2, ?_, y2, ?_, rfl, fun i hi => absurd hi (by omega)⟩
      · rw [fz _ _ (by omega) (by omega) (by omega), hset_c (by omega), l3 _ _ (by omega), hset_self]; rfl
      · rw [fz _ _ (by omega) (by omega) (by omega), y4, fo _ _ (by omega) (by omega) (by omega), hset_k (by omega), fo 60 18 (by omega) (by omega) (by omega)]
        exact hS.1
      · rw [fz _ _ (by omega) (by omega) (by omega), f601, fo _ _ (by omega) (by omega) (by omega), fo 60 1 (by omega) (by omega) (by omega)]
        exact hS.2
      · rw [fz c k (by omega) (by omega) (by omega), hset_c (by omega)]
      · rw [fz _ _ (by omega) (by omega) (by omega), hset_self]; rfl
      · rw [fz _ _ (by omega) (by omega) (by omega), fo _ _ (by omega) (by omega) (by omega), x5]
