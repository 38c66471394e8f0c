/-! fund: the component's projects and gifts -/
def kd (c : Nat) : Nat := if c = 99 then 5 else if c = 102 then 4 else if c = 104 then 3 else if c = 111 then 1 else if c = 115 then 2 else 0
theorem kd_le (c : Nat) : kd c ≤ 5 := by
  unfold kd
  repeat' split
  all_goals omega
theorem kt7 {H : Hp} {n q : Nat} {B : Nat → Nat} (h : CA H n B q) : ∃ x, f_X6_byteHere H = some x ∧ f_X6_kindTold x = some (nI (if q < n then kd (B q) else 0)) := by
  refine ⟨_, byte7 h, ?_⟩
  by_cases g : q < n
  · have hb := (h.1.2.2.2 q g).2.2
    rw [if_pos g, if_pos g]
    unfold f_X6_kindTold kd
    have e1 : (nI (B q) = 99) = (B q = 99) := nI_eq' (b := 99) (by omega) (by omega)
    have e2 : (nI (B q) = 102) = (B q = 102) := nI_eq' (b := 102) (by omega) (by omega)
    have e3 : (nI (B q) = 104) = (B q = 104) := nI_eq' (b := 104) (by omega) (by omega)
    have e4 : (nI (B q) = 111) = (B q = 111) := nI_eq' (b := 111) (by omega) (by omega)
    have e5 : (nI (B q) = 115) = (B q = 115) := nI_eq' (b := 115) (by omega) (by omega)
    simp only [e1, e2, e3, e4, e5]
    by_cases g1 : B q = 99
    · simp only [if_pos g1]; rfl
    by_cases g2 : B q = 102
    · simp only [if_neg g1, if_pos g2]; rfl
    by_cases g3 : B q = 104
    · simp only [if_neg g1, if_neg g2, if_pos g3]; rfl
    by_cases g4 : B q = 111
    · simp only [if_neg g1, if_neg g2, if_neg g3, if_pos g4]; rfl
    by_cases g5 : B q = 115
    · simp only [if_neg g1, if_neg g2, if_neg g3, if_neg g4, if_pos g5]; rfl
    simp only [if_neg g1, if_neg g2, if_neg g3, if_neg g4, if_neg g5]; rfl
  · rw [if_neg g, if_neg g]; decide
def tx_prj (n : Nat) (B : Nat → Nat) : Nat → Nat → (Nat → Nat) → Except (Nat × Nat) (Nat × (Nat → Nat))
  | 0, q, R => .ok (q, R)
  | m + 1, q, R => if q < n ∧ kd (B q) ≠ 0 then (if R 0 = 6 then .error (3, q) else (tx_sgn n B 59 (q + 1)).bind fun a => tx_prj n B m a (ru (ru R (4 + R 0) (kd (B q))) 0 (R 0 + 1))) else if R 0 = 0 then .error (1, q) else .ok (q, R)
theorem Rq_k {H : Hp} {R : Nat → Nat} {v : Nat} (hv : R 0 < 6) (h : Rq H R) : Rq (hset (hset H 14 (R 0) (nI v)) 13 3 (nI (R 0 + 1))) (ru (ru R (4 + R 0) v) 0 (R 0 + 1)) := by
  obtain ⟨h1, h2, h3, h4, h5, h6, h7, h8⟩ := h
  refine ⟨?_, ?_, ?_, ?_, ?_, fun p hp => ?_, fun a ha => ?_, fun j hj => ?_⟩
  · rw [hset_k (by omega), hset_c (by omega), h1]
  · rw [hset_k (by omega), hset_c (by omega), h2, ru_o (by omega), ru_o (by omega)]
  · rw [hset_k (by omega), hset_c (by omega), h3, ru_o (by omega), ru_o (by omega)]
  · rw [hset_self, ru_s]
  · rw [hset_k (by omega), hset_c (by omega), h5, ru_o (by omega), ru_o (by omega)]
  · rw [ru_s] at hp
    rw [hset_c (by omega), ru_o (by omega)]
    by_cases g : p = R 0
    · rw [g, hset_self, ru_s]
    · rw [hset_k g, ru_o (by omega), h6 p (by omega)]
  · rw [hset_c (by omega), hset_c (by omega), h7 a ha, ru_o (by omega), ru_o (by omega)]
  · rw [ru_o (by omega), ru_o (by omega)] at hj
    rw [hset_c (by omega), hset_c (by omega), hset_c (by omega), hset_c (by omega), hset_c (by omega), hset_c (by omega), ru_o (by omega), ru_o (by omega), ru_o (by omega), ru_o (by omega), ru_o (by omega), ru_o (by omega)]
    exact h8 j hj
theorem Rw_k {R : Nat → Nat} {v : Nat} (h : Rw R) (h2 : 1 ≤ R 2) (h3 : R 3 = 0) (h0 : R 0 < 6) (v1 : 1 ≤ v) (v2 : v ≤ 5) : Rw (ru (ru R (4 + R 0) v) 0 (R 0 + 1)) ∧ ru (ru R (4 + R 0) v) 0 (R 0 + 1) 2 = R 2 ∧ ru (ru R (4 + R 0) v) 0 (R 0 + 1) 3 = 0 := by
  obtain ⟨r0, r1, r2, r3, r4, r5, r6, r7⟩ := h
  have e3 : ru (ru R (4 + R 0) v) 0 (R 0 + 1) 3 = 0 := by rw [ru_o (by omega), ru_o (by omega), h3]
  have e2 : ru (ru R (4 + R 0) v) 0 (R 0 + 1) 2 = R 2 := by rw [ru_o (by omega), ru_o (by omega)]
  refine ⟨⟨by rw [ru_s]; omega, by rw [ru_o (by omega), ru_o (by omega)]; exact r1, by rw [e2]; exact r2, fun _ => by rw [e2]; exact h2, by rw [e3]; omega, fun p hp => ?_, fun j hj => by rw [e3] at hj; omega, fun a ha => by rw [ru_o (by omega), ru_o (by omega)]; exact r7 a ha⟩, e2, e3⟩
  rw [ru_s] at hp
  rw [ru_o (by omega)]
  by_cases g : p = R 0
  · rw [g, ru_s]; exact ⟨v1, v2⟩
  · rw [ru_o (by omega)]; exact r5 p (by omega)
theorem prj7 {n : Nat} {B : Nat → Nat} : ∀ (m d q : Nat) (R : Nat → Nat) (H : Hp), R 0 + d = 6 → d < m → Cq H n B q R → Rw R → 1 ≤ R 2 → R 3 = 0 → (∃ f p H2, tx_prj n B (d + 1) q R = .error (f, p) ∧ f_X6_readProjects_l2 m (nI (R 0)) H = some (.inr (0, H2)) ∧ Cf H2 f p) ∨ ∃ q2 R2 H2, tx_prj n B (d + 1) q R = .ok (q2, R2) ∧ f_X6_readProjects_l2 m (nI (R 0)) H = some (.inr (1, H2)) ∧ Cq H2 n B q2 R2 ∧ Rw R2 ∧ 0 < R2 0 ∧ R2 3 = 0 := by
  intro m
  induction m with
  | zero => intro d q R H _ h; omega
  | succ m ih =>
    intro d q R H hd hm h hR h2 h3
    obtain ⟨x, x1, x2⟩ := kt7 h.1
    simp only [f_X6_readProjects_l2, tx_prj]
    have k5 := kd_le (B q)
    have c6 : ¬ (6 : Int32) < nI (R 0) := nI_nlt (b := R 0) (a := 6) (by omega) (by omega)
    have z6 : (nI (R 0) < 6) = (R 0 < 6) := nI_lt' (b := 6) (by omega) (by omega)
    have z0 : ((0 : Int32) < nI (R 0)) = (0 < R 0) := nI_lt' (a := 0) (by omega) (by omega)
    rw [if_neg c6, x1, Option.bind_some, x2, Option.bind_some, h.2.2.2.2.1]
    simp only [z6, z0]
    obtain ⟨Hf, f1, f2⟩ := fails7 (f := 1) h.1 (by omega) (by omega)
    obtain ⟨Hg, g1, g2⟩ := fails7 (f := 3) h.1 (by omega) (by omega)
    replace f1 : f_X6_fails 1 H = some (0, Hf) := f1
    replace g1 : f_X6_fails 3 H = some (0, Hg) := g1
    by_cases g : q < n ∧ kd (B q) ≠ 0
    · have zk : ¬ nI (kd (B q)) = 0 := nI_ne0 (by omega) (by omega)
      rw [if_pos g.1, if_neg zk, if_pos g]
      by_cases g6 : R 0 = 6
      · rw [if_neg (show ¬ R 0 < 6 by omega), if_pos g6, g1, Option.bind_some, zr_0]
        exact Or.inl ⟨3, q, Hg, rfl, rfl, g2⟩
      · rw [if_pos (show R 0 < 6 by omega), if_neg g6]
        simp only [pf_e, Option.bind_some]
        rw [h.1.2.1, nI_1]
        have hq : Cq (hset H 5 2 (nI (q + 1))) n B (q + 1) R := ⟨CA_at h.1 g.1, h.2.fr (fun c k h1 h2 => hset_c (by omega))⟩
        rcases sg7 59 hq (by omega) with ⟨f, p, H1, s1, e1, z⟩ | ⟨a, H1, s1, e1, h1⟩
        · refine Or.inl ⟨f, p, H1, by rw [s1]; rfl, ?_, z⟩
          rw [show (59 : Int32) = nI 59 from rfl, e1, Option.bind_some, if_pos rfl]
        rw [show (59 : Int32) = nI 59 from rfl, e1, Option.bind_some, if_neg ne10, s1]
        dsimp only
        rw [h1.2.2.2.2.1, as_n (show R 0 < 6 by omega) (by omega), Option.bind_some, hset_c (show 13 ≠ 14 by omega), h1.2.2.2.2.1, nI_1]
        obtain ⟨w1, w2, w3⟩ := Rw_k (v := kd (B q)) hR h2 h3 (by omega) (by omega) k5
        have h8 : Cq (hset (hset H1 14 (R 0) (nI (kd (B q)))) 13 3 (nI (R 0 + 1))) n B a (ru (ru R (4 + R 0) (kd (B q))) 0 (R 0 + 1)) := ⟨h1.1.fr (fun c k hc => by rw [hset_c (by omega), hset_c (by omega)]), Rq_k (by omega) h1.2⟩
        obtain ⟨d, rfl⟩ : ∃ e, d = e + 1 := ⟨d - 1, by omega⟩
        have key := ih d a (ru (ru R (4 + R 0) (kd (B q))) 0 (R 0 + 1)) _ (by rw [ru_s]; omega) (by omega) h8 w1 (by rw [w2]; exact h2) w3
        rw [ru_s] at key
        exact key
    · rw [if_neg g]
      have zk : nI (if q < n then kd (B q) else 0) = 0 := by
        by_cases g1 : q < n
        · rw [if_pos g1, show kd (B q) = 0 by omega]; rfl
        · rw [if_neg g1]; rfl
      rw [if_pos zk]
      by_cases g0 : R 0 = 0
      · rw [if_neg (show ¬ 0 < R 0 by omega), if_pos g0, f1, Option.bind_some, if_pos rfl, Option.bind_some, zr_0]
        exact Or.inl ⟨1, q, Hf, rfl, rfl, f2⟩
      · rw [if_pos (show 0 < R 0 by omega), if_neg g0, Option.bind_some, zr_1]
        exact Or.inr ⟨q, R, H, rfl, rfl, h, hR, by omega, h3⟩
/-! a gift -/
def tx_gift (n : Nat) (B : Nat → Nat) (q : Nat) (R : Nat → Nat) : Except (Nat × Nat) (Nat × (Nat → Nat)) := (tx_sgn n B 103 q).bind fun a => (tx_num n B 0 9 a).bind fun u => (tx_sgn n B 44 u.2).bind fun b => (tx_num n B 0 (R 0 - 1) b).bind fun v => (tx_sgn n B 44 v.2).bind fun d => (tx_num n B 1 99 d).bind fun w => (tx_sgn n B 59 w.2).bind fun e => .ok (e, Pt R u.1 v.1 w.1)
theorem put13 {H : Hp} {g : Nat} (hg : g < 20) (h4 : H 13 4 = nI g) (x y z : Int32) : f_X4_putGift 13 (nI g) x y z H = some (hset (hset (hset (hset H 16 g x) 17 g y) 18 g z) 13 4 (nI (g + 1))) := by
  unfold f_X4_putGift
  obtain ⟨fq, hfq⟩ : ∃ q, fuel = q + 1 := ⟨4999, rfl⟩
  have e : f_X4_putGift_l6 13 (nI g) fuel (H 13 4) H = some H := by
    rw [hfq, h4]
    simp only [f_X4_putGift_l6]
    rw [if_pos (nI_le (Nat.le_refl _) (by omega))]
  rw [e, Option.bind_some, as_n hg (by omega), Option.bind_some, as_n hg (by omega), Option.bind_some, as_n hg (by omega), Option.bind_some]
  simp only [pf_e, Option.bind_some]
  rw [hset_c (show 13 ≠ 13 + 5 by omega), hset_c (show 13 ≠ 13 + 4 by omega), hset_c (show 13 ≠ 13 + 3 by omega), h4, nI_1]
theorem Rq_Pt {H : Hp} {R : Nat → Nat} {a p v : Nat} (h0 : R 0 ≤ 6) (h : Rq H R) (h3 : R 3 < 20) : Rq (hset (hset (hset (hset H 16 (R 3) (nI a)) 17 (R 3) (nI p)) 18 (R 3) (nI v)) 13 4 (nI (R 3 + 1))) (Pt R a p v) := by
  obtain ⟨h1, h2, h3', h4, h5, h6, h7, h8⟩ := h
  have e0 : Pt R a p v 0 = R 0 := Pt_o (by omega) (by omega)
  refine ⟨?_, ?_, ?_, ?_, ?_, fun q hq => ?_, fun b hb => ?_, fun j hj => ?_⟩
  · rw [hset_k (by omega), hset_c (by omega), hset_c (by omega), hset_c (by omega), h1]
  · rw [hset_k (by omega), hset_c (by omega), hset_c (by omega), hset_c (by omega), h2, Pt_o (by omega) (by omega)]
  · rw [hset_k (by omega), hset_c (by omega), hset_c (by omega), hset_c (by omega), h3', Pt_o (by omega) (by omega)]
  · rw [hset_k (by omega), hset_c (by omega), hset_c (by omega), hset_c (by omega), h4, e0]
  · rw [hset_self, Pt_3]
  · rw [e0] at hq
    rw [hset_c (by omega), hset_c (by omega), hset_c (by omega), hset_c (by omega), h6 q hq, Pt_o (by omega) (by omega)]
  · rw [hset_c (by omega), hset_c (by omega), hset_c (by omega), hset_c (by omega), h7 b hb, Pt_o (by omega) (by omega)]
  · rw [Pt_3] at hj
    rw [hset_c (show 16 ≠ 13 by omega), hset_c (show 17 ≠ 13 by omega), hset_c (show 18 ≠ 13 by omega), hset_c (show 16 ≠ 18 by omega), hset_c (show 17 ≠ 18 by omega), hset_c (show 16 ≠ 17 by omega)]
    by_cases g : j = R 3
    · rw [g, hset_self, hset_self, hset_self, Pt_g, Pt_t, Pt_c]; exact ⟨rfl, rfl, rfl⟩
    · rw [hset_k g, hset_k g, hset_k g, hset_c (by omega), hset_c (by omega), hset_c (by omega), Pt_o (by omega) (by omega), Pt_o (by omega) (by omega), Pt_o (by omega) (by omega)]
      exact h8 j (by omega)
theorem gift7 {H : Hp} {n q : Nat} {B R : Nat → Nat} (h : Cq H n B q R) (hR : Rw R) (h0 : 0 < R 0) (h20 : R 3 < 20 ∨ B q ≠ 103) : (∃ f p H2, tx_gift n B q R = .error (f, p) ∧ f_X6_readGift H = some (0, H2) ∧ Cf H2 f p) ∨ ∃ q2 R2 H2, tx_gift n B q R = .ok (q2, R2) ∧ f_X6_readGift H = some (1, H2) ∧ Cq H2 n B q2 R2 ∧ Rw R2 ∧ 0 < R2 0 ∧ R2 3 = R 3 + 1 ∧ R 3 < 20 := by
  have hr6 := hR.1
  unfold f_X6_readGift tx_gift
  rcases sg7 103 h (by omega) with ⟨f, p, H1, s1, e1, z⟩ | ⟨a, H1, s1, e1, h1⟩
  · refine Or.inl ⟨f, p, H1, by rw [s1]; rfl, ?_, z⟩
    rw [show (103 : Int32) = nI 103 from rfl, e1, Option.bind_some, if_pos rfl]
  have g3 : R 3 < 20 := by
    rcases h20 with z | z
    · exact z
    · unfold tx_sgn at s1
      rw [if_neg (fun y => z y.2)] at s1
      cases s1
  rw [show (103 : Int32) = nI 103 from rfl, e1, Option.bind_some, if_neg ne10, s1]
  dsimp only
  rcases nm7 0 9 h1 (by omega) (by omega) with ⟨f, p, H2, s2, e2, z⟩ | ⟨u, b, H2, s2, e2, h2, u2, u3, u4⟩
  · refine Or.inl ⟨f, p, H2, by simp only [Except.bind, s2], ?_, z⟩
    rw [show f_X6_readNumber 0 9 H1 = f_X6_readNumber (nI 0) (nI 9) H1 from rfl, e2, Option.bind_some, if_pos rfl]
  rw [show f_X6_readNumber 0 9 H1 = f_X6_readNumber (nI 0) (nI 9) H1 from rfl, e2, Option.bind_some, if_neg ne10]
  dsimp only
  rw [u2]
  rcases sg7 44 h2 (by omega) with ⟨f, p, H3, s3, e3, z⟩ | ⟨c, H3, s3, e3, h3⟩
  · refine Or.inl ⟨f, p, H3, by simp only [Except.bind, s2, s3], ?_, z⟩
    rw [show (44 : Int32) = nI 44 from rfl, e3, Option.bind_some, if_pos rfl]
  rw [show (44 : Int32) = nI 44 from rfl, e3, Option.bind_some, if_neg ne10]
  dsimp only
  rw [h3.2.2.2.2.1, show nI (R 0) - 1 = nI (R 0 - 1) from pk_sub (b := 1) (by omega)]
  rcases nm7 0 (R 0 - 1) h3 (by omega) (by omega) with ⟨f, p, H4, s4, e4, z⟩ | ⟨v, d, H4, s4, e4, h4, v2, v3, v4⟩
  · refine Or.inl ⟨f, p, H4, by simp only [Except.bind, s2, s3, s4], ?_, z⟩
    rw [show f_X6_readNumber 0 (nI (R 0 - 1)) H3 = f_X6_readNumber (nI 0) (nI (R 0 - 1)) H3 from rfl, e4, Option.bind_some, if_pos rfl]
  rw [show f_X6_readNumber 0 (nI (R 0 - 1)) H3 = f_X6_readNumber (nI 0) (nI (R 0 - 1)) H3 from rfl, e4, Option.bind_some, if_neg ne10]
  dsimp only
  rw [v2]
  rcases sg7 44 h4 (by omega) with ⟨f, p, H5, s5, e5, z⟩ | ⟨c2, H5, s5, e5, h5⟩
  · refine Or.inl ⟨f, p, H5, by simp only [Except.bind, s2, s3, s4, s5], ?_, z⟩
    rw [e5, Option.bind_some, if_pos rfl]
  rw [e5, Option.bind_some, if_neg ne10]
  dsimp only
  rcases nm7 1 99 h5 (by omega) (by omega) with ⟨f, p, H6, s6, e6, z⟩ | ⟨w, d2, H6, s6, e6, h6, w2, w3, w4⟩
  · refine Or.inl ⟨f, p, H6, by simp only [Except.bind, s2, s3, s4, s5, s6], ?_, z⟩
    rw [show f_X6_readNumber 1 99 H5 = f_X6_readNumber (nI 1) (nI 99) H5 from rfl, e6, Option.bind_some, if_pos rfl]
  rw [show f_X6_readNumber 1 99 H5 = f_X6_readNumber (nI 1) (nI 99) H5 from rfl, e6, Option.bind_some, if_neg ne10]
  dsimp only
  rw [w2]
  rcases sg7 59 h6 (by omega) with ⟨f, p, H7, s7, e7, z⟩ | ⟨c3, H7, s7, e7, h7⟩
  · refine Or.inl ⟨f, p, H7, by simp only [Except.bind, s2, s3, s4, s5, s6, s7], ?_, z⟩
    rw [show (59 : Int32) = nI 59 from rfl, e7, Option.bind_some, if_pos rfl]
  rw [show (59 : Int32) = nI 59 from rfl, e7, Option.bind_some, if_neg ne10]
  dsimp only
  rw [h7.2.2.2.2.2.1, put13 g3 h7.2.2.2.2.2.1, Option.bind_some]
  refine Or.inr ⟨c3, Pt R u v w, _, by simp only [Except.bind, s2, s3, s4, s5, s6, s7], rfl, ⟨h7.1.fr (fun c k hc => by rw [hset_c (by omega), hset_c (by omega), hset_c (by omega), hset_c (by omega)]), Rq_Pt hr6 h7.2 g3⟩, Rw_Pt hR g3 (by omega) (by omega) w3 w4, ?_, Pt_3 _ _ _ _, g3⟩
  rw [Pt_o (by omega) (by omega)]; exact h0
def tx_gf (n : Nat) (B : Nat → Nat) : Nat → Nat → (Nat → Nat) → Except (Nat × Nat) (Nat → Nat)
  | 0, _, R => .ok R
  | m + 1, q, R => if q < n then (if B q = 103 ∧ R 3 = 20 then .error (3, q) else (tx_gift n B q R).bind fun a => tx_gf n B m a.1 a.2) else .ok R
theorem gifts7 {n : Nat} {B : Nat → Nat} : ∀ (m d q : Nat) (R : Nat → Nat) (H : Hp), R 3 + d = 20 → d < m → Cq H n B q R → Rw R → 0 < R 0 → (∃ f p H2, tx_gf n B (d + 1) q R = .error (f, p) ∧ f_X6_readGifts_l2 m (nI (R 3)) H = some (.inr (0, H2)) ∧ Cf H2 f p) ∨ ∃ R2 H2, tx_gf n B (d + 1) q R = .ok R2 ∧ f_X6_readGifts_l2 m (nI (R 3)) H = some (.inl H2) ∧ Rq H2 R2 ∧ Rw R2 ∧ 0 < R2 0 := by
  intro m
  induction m with
  | zero => intro d q R H _ h; omega
  | succ m ih =>
    intro d q R H hd hm h hR h0
    obtain ⟨⟨t1, t2, t3, t4⟩, t5, t6⟩ := id h.1
    simp only [f_X6_readGifts_l2, tx_gf]
    rw [if_neg (show ¬ (130 : Int32) ≤ nI (R 3) from nI_ge (b := 130) (by omega) (by omega)), t2, t5, byte7 h.1, h.2.2.2.2.2.1]
    have z20 : (nI (R 3) < 20) = (R 3 < 20) := nI_lt' (b := 20) (by omega) (by omega)
    simp only [nI_le' (show n < 2 ^ 31 by omega) (show q < 2 ^ 31 by omega), z20]
    by_cases g : q < n
    · have hb := (t4 q g).2.2
      have z103 : (nI (B q) = 103) = (B q = 103) := nI_eq' (b := 103) (by omega) (by omega)
      rw [if_neg (show ¬ n ≤ q by omega), if_pos g, if_pos g, Option.bind_some]
      simp only [z103]
      have fin : R 3 < 20 ∨ B q ≠ 103 → (∃ f p H2, ((tx_gift n B q R).bind fun a => tx_gf n B d a.1 a.2) = .error (f, p) ∧ ((f_X6_readGift H).bind fun q2 => if q2.1 = 0 then some (.inr (0, q2.2)) else f_X6_readGifts_l2 m (nI (R 3) + 1) q2.2) = some (.inr (0, H2)) ∧ Cf H2 f p) ∨ ∃ R2 H2, ((tx_gift n B q R).bind fun a => tx_gf n B d a.1 a.2) = .ok R2 ∧ ((f_X6_readGift H).bind fun q2 => if q2.1 = 0 then some (.inr (0, q2.2)) else f_X6_readGifts_l2 m (nI (R 3) + 1) q2.2) = some (.inl H2) ∧ Rq H2 R2 ∧ Rw R2 ∧ 0 < R2 0 := by
        intro h20
        rcases gift7 h hR h0 h20 with ⟨f, p, H1, s1, e1, z⟩ | ⟨a, R2, H1, s1, e1, h1, r1, r2, r3, r4⟩
        · refine Or.inl ⟨f, p, H1, by rw [s1]; rfl, ?_, z⟩
          rw [e1, Option.bind_some, if_pos rfl]
        · rw [s1, e1, Option.bind_some, if_neg ne10]
          obtain ⟨d, rfl⟩ : ∃ e, d = e + 1 := ⟨d - 1, by omega⟩
          have key := ih d a R2 H1 (by omega) (by omega) h1 r1 r2
          rw [r3] at key
          rw [nI_1]
          exact key
      by_cases g3 : B q = 103
      · rw [if_pos g3]
        by_cases g20 : R 3 < 20
        · rw [if_pos g20, if_neg (by omega)]
          exact fin (Or.inl g20)
        · rw [if_neg g20, if_pos ⟨g3, by omega⟩]
          obtain ⟨Hg, g1, g2⟩ := fails7 (f := 3) h.1 (by omega) (by omega)
          replace g1 : f_X6_fails 3 H = some (0, Hg) := g1
          rw [g1, Option.bind_some, zr_0]
          exact Or.inl ⟨3, q, Hg, rfl, rfl, g2⟩
      · rw [if_neg g3, if_neg (fun z => g3 z.1)]
        exact fin (Or.inr g3)
    · rw [if_pos (show n ≤ q by omega), if_neg g]
      exact Or.inr ⟨R, H, rfl, rfl, h.2, hR, h0⟩
/-! all of it -/
def tx_all (n : Nat) (B : Nat → Nat) : Except (Nat × Nat) (Nat → Nat) := (tx_law n B).bind fun a => (tx_prj n B 7 a.1 a.2).bind fun b => tx_gf n B 21 b.1 b.2
theorem anew_l27 (H : Hp) : f_X4_beginAnew_l27 13 fuel 0 H = some (fillH H 15 0 10 (fun k => nI k)) := by
  refine fill_loop (fun m k a => f_X4_beginAnew_l27 13 m (nI k) a) 15 0 10 (fun k => nI k) H (by omega) (fun m => ?_) (fun m k hk => ?_)
  · simp only [f_X4_beginAnew_l27]
    rw [if_pos (by decide)]
  · simp only [f_X4_beginAnew_l27]
    rw [if_neg (show ¬ (10 : Int32) ≤ nI k from nI_ge (b := 10) hk (by omega)), as_n (by omega) (by omega), Option.bind_some, nI_1, ← fill_s (k := k) rfl, Nat.zero_add]
theorem into7 {H : Hp} {n : Nat} {B : Nat → Nat} (h : TP H n B) : (∃ f p H2, tx_all n B = .error (f, p) ∧ f_X6_readInto H = some (0, H2) ∧ Cf H2 f p) ∨ ∃ R H2, tx_all n B = .ok R ∧ f_X6_readInto H = some (1, H2) ∧ Rq H2 R ∧ Rw R ∧ 0 < R 0 := by
  obtain ⟨t1, t2, t3, t4⟩ := h
  unfold f_X6_readInto f_X4_beginAnew tx_all
  simp only [pf_e, Option.bind_some]
  rw [anew_l27, Option.bind_some, Option.bind_some]
  have hC : Cq (fillH (hset (hset (hset (hset (hset (hset H 5 2 0) 13 0 1) 13 1 0) 13 2 0) 13 3 0) 13 4 0) 15 0 10 (fun k => nI k)) n B 0 tR0 := by
    refine ⟨⟨⟨t1, ?_, ?_, fun i hi => ?_⟩, ?_, Nat.zero_le _⟩, ?_, ?_, ?_, ?_, ?_, fun p hp => absurd hp (Nat.not_lt_zero p), fun a ha => ?_, fun j hj => absurd hj (Nat.not_lt_zero j)⟩
    · rw [fill_c (by omega), hset_c (by omega), hset_c (by omega), hset_c (by omega), hset_c (by omega), hset_c (by omega), hset_k (by omega), t2]
    · rw [fill_c (by omega), hset_c (by omega), hset_c (by omega), hset_c (by omega), hset_c (by omega), hset_c (by omega), hset_c (by omega), t3]
    · rw [fill_c (show 6 ≠ 15 by omega), fill_c (show 68 ≠ 15 by omega), hset_c (show 6 ≠ 13 by omega), hset_c (show 6 ≠ 13 by omega), hset_c (show 6 ≠ 13 by omega), hset_c (show 6 ≠ 13 by omega), hset_c (show 6 ≠ 13 by omega), hset_c (show 6 ≠ 5 by omega), hset_c (show 68 ≠ 13 by omega), hset_c (show 68 ≠ 13 by omega), hset_c (show 68 ≠ 13 by omega), hset_c (show 68 ≠ 13 by omega), hset_c (show 68 ≠ 13 by omega), hset_c (show 68 ≠ 5 by omega)]
      exact t4 i hi
    · rw [fill_c (by omega), hset_c (by omega), hset_c (by omega), hset_c (by omega), hset_c (by omega), hset_c (by omega), hset_self]; rfl
    · rw [fill_c (by omega), hset_k (by omega), hset_k (by omega), hset_k (by omega), hset_k (by omega), hset_self]
    · rw [fill_c (by omega), hset_k (by omega), hset_k (by omega), hset_k (by omega), hset_self]; rfl
    · rw [fill_c (by omega), hset_k (by omega), hset_k (by omega), hset_self]; rfl
    · rw [fill_c (by omega), hset_k (by omega), hset_self]; rfl
    · rw [fill_c (by omega), hset_self]; rfl
    · rw [fill_in (by omega) (by omega)]
      show nI (a - 0) = nI (70 + a - 70)
      congr 1
      omega
  rcases law7 hC with ⟨f, p, H1, s1, e1, z⟩ | ⟨q1, R1, H1, s1, e1, h1, r1, r2, r3, r4⟩
  · refine Or.inl ⟨f, p, H1, by rw [s1]; rfl, ?_, z⟩
    rw [e1, Option.bind_some, if_pos rfl, Option.bind_some, zr_0]; rfl
  rw [e1, Option.bind_some, if_neg ne10, s1]
  dsimp only
  unfold f_X6_readProjects
  have hp := prj7 fuel 6 q1 R1 H1 (by omega) (by unfold fuel; omega) h1 r1 r2 r4
  rw [r3] at hp
  rcases hp with ⟨f, p, H2, s2, e2, z⟩ | ⟨q2, R2, H2, s2, e2, h2, w1, w2, w3⟩
  · refine Or.inl ⟨f, p, H2, by simp only [Except.bind, s2], ?_, z⟩
    rw [show f_X6_readProjects_l2 fuel 0 H1 = f_X6_readProjects_l2 fuel (nI 0) H1 from rfl, e2, Option.bind_some, Sum.elim_inr, Option.bind_some, if_pos rfl, Option.bind_some, zr_0]; rfl
  rw [show f_X6_readProjects_l2 fuel 0 H1 = f_X6_readProjects_l2 fuel (nI 0) H1 from rfl, e2, Option.bind_some, Sum.elim_inr, Option.bind_some, if_neg ne10]
  unfold f_X6_readGifts
  have hg := gifts7 fuel 20 q2 R2 H2 (by omega) (by unfold fuel; omega) h2 w1 w2
  rw [w3] at hg
  rcases hg with ⟨f, p, H3, s3, e3, z⟩ | ⟨R3, H3, s3, e3, h3, v1, v2⟩
  · refine Or.inl ⟨f, p, H3, by simp only [Except.bind, s2, s3], ?_, z⟩
    rw [show f_X6_readGifts_l2 fuel 0 H2 = f_X6_readGifts_l2 fuel (nI 0) H2 from rfl, e3, Option.bind_some, Sum.elim_inr, Option.bind_some, if_pos rfl, Option.bind_some, zr_0]; rfl
  refine Or.inr ⟨R3, H3, by simp only [Except.bind, s2, s3], ?_, h3, v1, v2⟩
  rw [show f_X6_readGifts_l2 fuel 0 H2 = f_X6_readGifts_l2 fuel (nI 0) H2 from rfl, e3, Option.bind_some, Sum.elim_inl, Option.bind_some, if_neg ne10, Option.bind_some, zr_1]; rfl
