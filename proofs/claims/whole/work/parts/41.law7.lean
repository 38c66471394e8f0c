/-! fund: the text as a plain reading, and the component's -/
def tx_sgn (n : Nat) (B : Nat → Nat) (c q : Nat) : Except (Nat × Nat) Nat := if q < n ∧ B q = c then .ok (q + 1) else .error (1, q)
def tx_num (n : Nat) (B : Nat → Nat) (lo hi q : Nat) : Except (Nat × Nat) (Nat × Nat) := if 1 ≤ run n B 3 q ∧ run n B 3 q ≤ 2 then (if lo ≤ nval n B q ∧ nval n B q ≤ hi then .ok (nval n B q, q + run n B 3 q) else .error (2, q)) else .error (1, q)
theorem run_n (n : Nat) (B : Nat → Nat) : ∀ k q, q ≤ n → q + run n B k q ≤ n := by
  intro k
  induction k with
  | zero => intro q h; exact h
  | succ k ih =>
    intro q h
    simp only [run]
    by_cases g : fig n B q = true
    · rw [if_pos g]
      have := ih (q + 1) (fig_v g).1
      omega
    · rw [if_neg g]; exact h
theorem nval_le {n q : Nat} {B : Nat → Nat} (h : 1 ≤ run n B 3 q) : nval n B q ≤ 99 := by
  have f0 : fig n B q = true := by
    by_cases g : fig n B q = true
    · exact g
    · simp [run, g] at h
  obtain ⟨a1, a2, a3⟩ := fig_v f0
  unfold nval
  by_cases f1 : fig n B (q + 1) = true
  · obtain ⟨b1, b2, b3⟩ := fig_v f1
    rw [if_pos f1]; omega
  · rw [if_neg f1]; omega
def Rq (H : Hp) (R : Nat → Nat) : Prop := H 13 0 = 1 ∧ H 13 1 = nI (R 1) ∧ H 13 2 = nI (R 2) ∧ H 13 3 = nI (R 0) ∧ H 13 4 = nI (R 3) ∧ (∀ p, p < R 0 → H 14 p = nI (R (4 + p))) ∧ (∀ a, a < 10 → H 15 a = nI (R (70 + a))) ∧ ∀ j, j < R 3 → H 16 j = nI (R (10 + 3 * j)) ∧ H 17 j = nI (R (11 + 3 * j)) ∧ H 18 j = nI (R (12 + 3 * j))
theorem Rq.fr {H H2 : Hp} {R : Nat → Nat} (h : Rq H R) (f : ∀ c k, 13 ≤ c → c ≤ 18 → H2 c k = H c k) : Rq H2 R := by
  obtain ⟨h1, h2, h3, h4, h5, h6, h7, h8⟩ := h
  refine ⟨?_, ?_, ?_, ?_, ?_, fun p hp => ?_, fun a ha => ?_, fun j hj => ?_⟩
  · rw [f _ _ (by omega) (by omega), h1]
  · rw [f _ _ (by omega) (by omega), h2]
  · rw [f _ _ (by omega) (by omega), h3]
  · rw [f _ _ (by omega) (by omega), h4]
  · rw [f _ _ (by omega) (by omega), h5]
  · rw [f _ _ (by omega) (by omega), h6 p hp]
  · rw [f _ _ (by omega) (by omega), h7 a ha]
  · rw [f _ _ (by omega) (by omega), f _ _ (by omega) (by omega), f _ _ (by omega) (by omega)]
    exact h8 j hj
theorem CA.fr {H H2 : Hp} {n q : Nat} {B : Nat → Nat} (h : CA H n B q) (f : ∀ c k, c = 5 ∨ c = 6 ∨ c = 60 ∨ c = 68 → H2 c k = H c k) : CA H2 n B q := by
  obtain ⟨⟨h1, h3, h4, h5⟩, h6, h7⟩ := h
  exact ⟨⟨h1, by rw [f _ _ (by omega), h3], by rw [f _ _ (by omega), h4], fun i hi => by rw [f _ _ (by omega), f _ _ (by omega)]; exact h5 i hi⟩, by rw [f _ _ (by omega), h6], h7⟩
def Cq (H : Hp) (n : Nat) (B : Nat → Nat) (q : Nat) (R : Nat → Nat) : Prop := CA H n B q ∧ Rq H R
def Cf (H : Hp) (f p : Nat) : Prop := H 5 4 = nI f ∧ H 5 5 = nI p ∧ 1 ≤ f ∧ f ≤ 3 ∧ p ≤ 130
theorem fails7 {H : Hp} {n q f : Nat} {B : Nat → Nat} (h : CA H n B q) (h1 : 1 ≤ f) (h2 : f ≤ 3) : ∃ H2, f_X6_fails (nI f) H = some (0, H2) ∧ Cf H2 f q := by
  have e := h.2.1
  have e2 := h.2.2
  have e3 := h.1.1
  unfold f_X6_fails
  simp only [pf_e, Option.bind_some]
  exact ⟨_, rfl, by rw [hset_k (by omega), hset_self], by rw [hset_self, hset_k (by omega), e], h1, h2, by omega⟩
theorem sg7 {H : Hp} {n q : Nat} {B R : Nat → Nat} (c : Nat) (h : Cq H n B q R) (hc : c ≤ 255) : (∃ f p H2, tx_sgn n B c q = .error (f, p) ∧ f_X6_readSign (nI c) H = some (0, H2) ∧ Cf H2 f p) ∨ ∃ q2 H2, tx_sgn n B c q = .ok q2 ∧ f_X6_readSign (nI c) H = some (1, H2) ∧ Cq H2 n B q2 R := by
  rw [sign7 h.1 hc]
  unfold tx_sgn
  by_cases g : q < n ∧ B q = c
  · exact Or.inr ⟨q + 1, hset H 5 2 (nI (q + 1)), if_pos g, by rw [if_pos g], CA_at h.1 g.1, h.2.fr (fun c k h1 h2 => hset_c (by omega))⟩
  · have e2 := h.1.2.2
    have e3 := h.1.1.1
    exact Or.inl ⟨1, q, hset (hset H 5 4 1) 5 5 (nI q), if_neg g, by rw [if_neg g], by rw [hset_k (by omega), hset_self]; rfl, hset_self, by omega, by omega, by omega⟩
theorem nm7 {H : Hp} {n q : Nat} {B R : Nat → Nat} (lo hi : Nat) (h : Cq H n B q R) (hlo : lo ≤ 99) (hhi : hi ≤ 99) : (∃ f p H2, tx_num n B lo hi q = .error (f, p) ∧ f_X6_readNumber (nI lo) (nI hi) H = some (0, H2) ∧ Cf H2 f p) ∨ ∃ v q2 H2, tx_num n B lo hi q = .ok (v, q2) ∧ f_X6_readNumber (nI lo) (nI hi) H = some (1, H2) ∧ Cq H2 n B q2 R ∧ H2 5 3 = nI v ∧ lo ≤ v ∧ v ≤ hi := by
  obtain ⟨v, e1, e2⟩ := numl7 h.1
  have hr := run_le n B 3 q
  have hq := run_n n B 3 q h.1.2.2
  have z0 : (nI (run n B 3 q) = 0) = (run n B 3 q = 0) := nI_eq' (b := 0) (by omega) (by omega)
  have z2 : (nI (run n B 3 q) ≤ 2) = (run n B 3 q ≤ 2) := nI_le' (b := 2) (by omega) (by omega)
  obtain ⟨Hf, f1, f2⟩ := fails7 (f := 1) h.1 (by omega) (by omega)
  obtain ⟨Hg, g1, g2⟩ := fails7 (f := 2) h.1 (by omega) (by omega)
  replace f1 : f_X6_fails 1 H = some (0, Hf) := f1
  replace g1 : f_X6_fails 2 H = some (0, Hg) := g1
  have zz : zr 0 = some 0 := by decide
  unfold f_X6_readNumber tx_num
  rw [h.1.2.1, e1, Option.bind_some]
  simp only [z0, z2, f1, g1, Option.bind_some, zz, within_eq, bz]
  by_cases c0 : run n B 3 q = 0
  · rw [if_pos c0, if_neg (by omega)]
    exact Or.inl ⟨1, q, Hf, rfl, rfl, f2⟩
  by_cases c2 : run n B 3 q ≤ 2
  · rw [if_neg c0, if_pos c2, if_pos ⟨by omega, c2⟩]
    have ev := e2 (by omega) c2
    have hv := nval_le (n := n) (B := B) (q := q) (by omega)
    have w1 : (nI (nval n B q) < nI lo) = (nval n B q < lo) := nI_lt' (by omega) (by omega)
    have w2 : (nI hi < nI (nval n B q)) = (hi < nval n B q) := nI_lt' (by omega) (by omega)
    rw [ev]
    simp only [w1, w2]
    by_cases c3 : lo ≤ nval n B q ∧ nval n B q ≤ hi
    · rw [if_pos c3, if_neg (by omega)]
      simp only [pf_e, Option.bind_some]
      rw [hset_k (show 2 ≠ 3 by omega), h.1.2.1, nI_add]
      refine Or.inr ⟨nval n B q, q + run n B 3 q, _, rfl, rfl, ⟨?_, h.2.fr (fun c k h1 h2 => by rw [hset_c (by omega), hset_c (by omega)])⟩, by rw [hset_k (by omega), hset_self], c3.1, c3.2⟩
      obtain ⟨⟨t1, t2, t3, t4⟩, -, -⟩ := h.1
      exact ⟨⟨t1, by rw [hset_k (by omega), hset_k (by omega), t2], by rw [hset_c (by omega), hset_c (by omega), t3], fun i hi => by rw [hset_c (by omega), hset_c (by omega), hset_c (by omega), hset_c (by omega)]; exact t4 i hi⟩, hset_self, hq⟩
    · rw [if_neg c3, if_pos (by omega)]
      exact Or.inl ⟨2, q, Hg, rfl, rfl, g2⟩
  · rw [if_neg c0, if_neg c2, if_neg (by omega)]
    exact Or.inl ⟨1, q, Hf, rfl, rfl, f2⟩
/-! the law -/
def tR0 : Nat → Nat := fun k => k - 70
def tx_law (n : Nat) (B : Nat → Nat) : Except (Nat × Nat) (Nat × (Nat → Nat)) := (tx_sgn n B 109 0).bind fun a => (tx_num n B 0 99 a).bind fun v => (tx_sgn n B 44 v.2).bind fun b => (tx_num n B 1 99 b).bind fun w => (tx_sgn n B 59 w.2).bind fun d => .ok (d, ru (ru tR0 1 (10 * v.1)) 2 w.1)
theorem Rq_1 {H : Hp} {R : Nat → Nat} {v : Nat} (h : Rq H R) : Rq (hset H 13 1 (nI v)) (ru R 1 v) := by
  obtain ⟨h1, h2, h3, h4, h5, h6, h7, h8⟩ := h
  refine ⟨?_, ?_, ?_, ?_, ?_, fun p hp => ?_, fun a ha => ?_, fun j hj => ?_⟩
  · rw [hset_k (by omega), h1]
  · rw [hset_self, ru_s]
  · rw [hset_k (by omega), h3, ru_o (by omega)]
  · rw [hset_k (by omega), h4, ru_o (by omega)]
  · rw [hset_k (by omega), h5, ru_o (by omega)]
  · rw [ru_o (by omega)] at hp
    rw [hset_c (by omega), h6 p hp, ru_o (by omega)]
  · rw [hset_c (by omega), h7 a ha, ru_o (by omega)]
  · rw [ru_o (by omega)] at hj
    rw [hset_c (by omega), hset_c (by omega), hset_c (by omega), ru_o (by omega), ru_o (by omega), ru_o (by omega)]
    exact h8 j hj
theorem Rq_2 {H : Hp} {R : Nat → Nat} {v : Nat} (h : Rq H R) : Rq (hset H 13 2 (nI v)) (ru R 2 v) := by
  obtain ⟨h1, h2, h3, h4, h5, h6, h7, h8⟩ := h
  refine ⟨?_, ?_, ?_, ?_, ?_, fun p hp => ?_, fun a ha => ?_, fun j hj => ?_⟩
  · rw [hset_k (by omega), h1]
  · rw [hset_k (by omega), h2, ru_o (by omega)]
  · rw [hset_self, ru_s]
  · rw [hset_k (by omega), h4, ru_o (by omega)]
  · rw [hset_k (by omega), h5, ru_o (by omega)]
  · rw [ru_o (by omega)] at hp
    rw [hset_c (by omega), h6 p hp, ru_o (by omega)]
  · rw [hset_c (by omega), h7 a ha, ru_o (by omega)]
  · rw [ru_o (by omega)] at hj
    rw [hset_c (by omega), hset_c (by omega), hset_c (by omega), ru_o (by omega), ru_o (by omega), ru_o (by omega)]
    exact h8 j hj
theorem law_Rw {v w : Nat} (hv : v ≤ 99) (hw : w ≤ 99) : Rw (ru (ru tR0 1 (10 * v)) 2 w) ∧ ru (ru tR0 1 (10 * v)) 2 w 2 = w ∧ ru (ru tR0 1 (10 * v)) 2 w 0 = 0 ∧ ru (ru tR0 1 (10 * v)) 2 w 3 = 0 := by
  have e0 : ru (ru tR0 1 (10 * v)) 2 w 0 = 0 := by rw [ru_o (by omega), ru_o (by omega)]; rfl
  have e3 : ru (ru tR0 1 (10 * v)) 2 w 3 = 0 := by rw [ru_o (by omega), ru_o (by omega)]; rfl
  refine ⟨⟨by rw [e0]; omega, by rw [ru_o (by omega), ru_s]; omega, by rw [ru_s]; omega, fun h => by rw [e0] at h; omega, by rw [e3]; omega, fun p hp => by rw [e0] at hp; omega, fun j hj => by rw [e3] at hj; omega, fun a ha => ?_⟩, ru_s _ _ _, e0, e3⟩
  rw [ru_o (by omega), ru_o (by omega)]
  show 70 + a - 70 < 10
  omega
theorem zr_0 : zr 0 = some 0 := by decide
theorem zr_1 : zr 1 = some 1 := by decide
theorem ne10 : ¬ (1 : Int32) = 0 := by decide
theorem law7 {H : Hp} {n : Nat} {B : Nat → Nat} (h : Cq H n B 0 tR0) : (∃ f p H2, tx_law n B = .error (f, p) ∧ f_X6_readLaw H = some (0, H2) ∧ Cf H2 f p) ∨ ∃ q R H2, tx_law n B = .ok (q, R) ∧ f_X6_readLaw H = some (1, H2) ∧ Cq H2 n B q R ∧ Rw R ∧ 1 ≤ R 2 ∧ R 0 = 0 ∧ R 3 = 0 := by
  unfold f_X6_readLaw tx_law
  rcases sg7 109 h (by omega) with ⟨f, p, H1, s1, e1, z⟩ | ⟨a, H1, s1, e1, h1⟩
  · refine Or.inl ⟨f, p, H1, by rw [s1]; rfl, ?_, z⟩
    rw [show (109 : Int32) = nI 109 from rfl, e1, Option.bind_some, if_pos rfl]
  rw [show (109 : Int32) = nI 109 from rfl, e1, Option.bind_some, if_neg ne10, s1]
  dsimp only
  rcases nm7 0 99 h1 (by omega) (by omega) with ⟨f, p, H2, s2, e2, z⟩ | ⟨v, b, H2, s2, e2, h2, v2, v3, v4⟩
  · refine Or.inl ⟨f, p, H2, by simp only [Except.bind, s2], ?_, z⟩
    rw [show f_X6_readNumber 0 99 H1 = f_X6_readNumber (nI 0) (nI 99) H1 from rfl, e2, Option.bind_some, if_pos rfl]
  rw [show f_X6_readNumber 0 99 H1 = f_X6_readNumber (nI 0) (nI 99) H1 from rfl, e2, Option.bind_some, if_neg ne10]
  simp only [pf_e, Option.bind_some, v2]
  rw [show nI v * 10 = nI (10 * v) by rw [show (10 : Int32) = nI 10 from rfl, pk_mul, Nat.mul_comm]]
  have h3 : Cq (hset H2 13 1 (nI (10 * v))) n B b (ru tR0 1 (10 * v)) := ⟨h2.1.fr (fun c k hc => hset_c (by omega)), Rq_1 h2.2⟩
  rcases sg7 44 h3 (by omega) with ⟨f, p, H4, s4, e4, z⟩ | ⟨c, H4, s4, e4, h4⟩
  · refine Or.inl ⟨f, p, H4, by simp only [Except.bind, s2, s4], ?_, z⟩
    rw [show (44 : Int32) = nI 44 from rfl, e4, Option.bind_some, if_pos rfl]
  rw [show (44 : Int32) = nI 44 from rfl, e4, Option.bind_some, if_neg ne10]
  dsimp only
  rcases nm7 1 99 h4 (by omega) (by omega) with ⟨f, p, H5, s5, e5, z⟩ | ⟨w, d, H5, s5, e5, h5, w2, w3, w4⟩
  · refine Or.inl ⟨f, p, H5, by simp only [Except.bind, s2, s4, s5], ?_, z⟩
    rw [show f_X6_readNumber 1 99 H4 = f_X6_readNumber (nI 1) (nI 99) H4 from rfl, e5, Option.bind_some, if_pos rfl]
  rw [show f_X6_readNumber 1 99 H4 = f_X6_readNumber (nI 1) (nI 99) H4 from rfl, e5, Option.bind_some, if_neg ne10]
  dsimp only
  rw [w2]
  have h6 : Cq (hset H5 13 2 (nI w)) n B d (ru (ru tR0 1 (10 * v)) 2 w) := ⟨h5.1.fr (fun c k hc => hset_c (by omega)), Rq_2 h5.2⟩
  rcases sg7 59 h6 (by omega) with ⟨f, p, H7, s7, e7, z⟩ | ⟨c2, H7, s7, e7, h7⟩
  · refine Or.inl ⟨f, p, H7, by simp only [Except.bind, s2, s4, s5, s7], ?_, z⟩
    rw [show (59 : Int32) = nI 59 from rfl, e7, Option.bind_some, zr_0]; rfl
  refine Or.inr ⟨c2, _, H7, by simp only [Except.bind, s2, s4, s5, s7], ?_, h7, ?_⟩
  · rw [show (59 : Int32) = nI 59 from rfl, e7, Option.bind_some, zr_1]; rfl
  · obtain ⟨r1, r2, r3, r4⟩ := law_Rw (v := v) (w := w) v4 w4
    exact ⟨r1, by rw [r2]; exact w3, r3, r4⟩
