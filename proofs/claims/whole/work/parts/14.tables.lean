/-! a fund as a row of naturals; the board and the model's tables laid out -/
def Rw (R : Nat → Nat) : Prop := R 0 ≤ 6 ∧ R 1 ≤ 999 ∧ R 2 ≤ 99 ∧ (0 < R 0 → 1 ≤ R 2) ∧ R 3 ≤ 20 ∧ (∀ p, p < R 0 → 1 ≤ R (4 + p) ∧ R (4 + p) ≤ 5) ∧ (∀ j, j < R 3 → R (10 + 3 * j) < 10 ∧ R (11 + 3 * j) < R 0 ∧ 1 ≤ R (12 + 3 * j) ∧ R (12 + 3 * j) ≤ 99) ∧ ∀ a, a < 10 → R (70 + a) < 10
def Hr (H : Hp) (r : Nat) (R : Nat → Nat) : Prop := ∀ k, k < 80 → H r k = nI (R k)
def Rp (H : Hp) (b : Nat) (R : Nat → Nat) : Prop := H b 0 = (if R 0 = 0 then 0 else 1) ∧ H b 1 = nI (R 1) ∧ H b 2 = nI (R 2) ∧ H b 3 = nI (R 0) ∧ H b 4 = nI (R 3) ∧ (∀ p, p < R 0 → H (b + 1) p = nI (R (4 + p))) ∧ (∀ a, a < 10 → H (b + 2) a = nI (R (70 + a))) ∧ ∀ j, j < R 3 → H (b + 3) j = nI (R (10 + 3 * j)) ∧ H (b + 4) j = nI (R (11 + 3 * j)) ∧ H (b + 5) j = nI (R (12 + 3 * j))
theorem Hr.fr {H H2 : Hp} {r : Nat} {R : Nat → Nat} (h : Hr H r R) (f : ∀ k, k < 80 → H2 r k = H r k) : Hr H2 r R := fun k hk => by rw [f k hk, h k hk]
theorem Rp.fr {H H2 : Hp} {b : Nat} {R : Nat → Nat} (h : Rp H b R) (f : ∀ c k, b ≤ c → c ≤ b + 5 → H2 c k = H c k) : Rp H2 b R := by
  obtain ⟨h1, h2, h3, h4, h5, h6, h7, h8⟩ := h
  refine ⟨?_, ?_, ?_, ?_, ?_, fun p hp => ?_, fun a ha => ?_, fun j hj => ?_⟩
  · rw [f _ _ (by omega) (by omega), h1]
  · rw [f _ _ (by omega) (by omega), h2]
  · rw [f _ _ (by omega) (by omega), h3]
  · rw [f _ _ (by omega) (by omega), h4]
  · rw [f _ _ (by omega) (by omega), h5]
  · rw [f _ _ (by omega) (by omega), h6 p hp]
  · rw [f _ _ (by omega) (by omega), h7 a ha]
  · rw [f _ _ (by omega) (by omega), f _ _ (by omega) (by omega), f _ _ (by omega) (by omega)]
    exact h8 j hj
noncomputable def tk (R : Nat → Nat) (k x p : Nat) : Nat := sm k (fun j => if R (70 + R (10 + 3 * j)) = x ∧ R (11 + 3 * j) = p then R (12 + 3 * j) else 0)
noncomputable def tb (R : Nat → Nat) (x p : Nat) : Nat := tk R (R 3) x p
theorem tk_le {R : Nat → Nat} (h : Rw R) {k : Nat} (hk : k ≤ R 3) (x p : Nat) : tk R k x p ≤ 1980 := by
  obtain ⟨-, -, -, -, h5, -, h7, -⟩ := h
  have := sm_le (n := k) (B := 99) (f := fun j => if R (70 + R (10 + 3 * j)) = x ∧ R (11 + 3 * j) = p then R (12 + 3 * j) else 0) (fun j hj => by
    have := (h7 j (by omega)).2.2.2
    split <;> omega)
  unfold tk
  omega
theorem tb_B {R : Nat → Nat} (h : Rw R) : Bt (R 0) (tb R) := by
  intro x p
  refine ⟨tk_le h (Nat.le_refl _) x p, fun hp => ?_⟩
  obtain ⟨-, -, -, -, h5, -, h7, -⟩ := h
  exact sm_z (fun j hj => if_neg (fun z => by have := (h7 j hj).2.1; omega))
theorem x6 (a p : Nat) : nI a * 6 + nI p = nI (6 * a + p) := by rw [show (6 : Int32) = nI 6 from rfl, pk_mul, nI_add, Nat.mul_comm]
theorem y6 (a p : Nat) : 6 * nI a + nI p = nI (6 * a + p) := by rw [show (6 : Int32) = nI 6 from rfl, pk_mul, nI_add]
theorem y10 (a p : Nat) : 10 * nI a + nI p = nI (10 * a + p) := by rw [show (10 : Int32) = nI 10 from rfl, pk_mul, nI_add]
theorem z70 (a : Nat) : 70 + nI a = nI (70 + a) := by rw [show (70 : Int32) = nI 70 from rfl, nI_add]
theorem z4 (a : Nat) : 4 + nI a = nI (4 + a) := by rw [show (4 : Int32) = nI 4 from rfl, nI_add]
theorem z10 (k : Nat) : 10 + 3 * nI k = nI (10 + 3 * k) := by rw [show (3 : Int32) = nI 3 from rfl, pk_mul, show (10 : Int32) = nI 10 from rfl, nI_add]
theorem of_0 {H : Hp} {r k : Nat} (hk : k < 20) : f_X8_of r (nI k) 0 H = some (H r (10 + 3 * k)) := by
  unfold f_X8_of
  rw [z10, show (0 : Int32) = nI 0 from rfl, nI_add, ag_n (by omega) (by omega)]; rfl
theorem of_1 {H : Hp} {r k : Nat} (hk : k < 20) : f_X8_of r (nI k) 1 H = some (H r (11 + 3 * k)) := by
  unfold f_X8_of
  rw [z10, nI_1, ag_n (by omega) (by omega), show 10 + 3 * k + 1 = 11 + 3 * k by omega]; rfl
theorem of_2 {H : Hp} {r k : Nat} (hk : k < 20) : f_X8_of r (nI k) 2 H = some (H r (12 + 3 * k)) := by
  unfold f_X8_of
  rw [z10, show (2 : Int32) = nI 2 from rfl, nI_add, ag_n (by omega) (by omega), show 10 + 3 * k + 2 = 12 + 3 * k by omega]; rfl
theorem lay_l26 (H : Hp) : ∃ H2, f_X2_lay_l26 fuel 0 H = some H2 ∧ (∀ c j, c ≠ 39 → c ≠ 40 → H2 c j = H c j) ∧ ∀ i, i < 60 → H2 39 i = 0 ∧ H2 40 i = 0 :=
  up0 (fun m k a => f_X2_lay_l26 m (nI k) a) 60 (by omega) (fun k a => (∀ c j, c ≠ 39 → c ≠ 40 → a c j = H c j) ∧ ∀ i, i < k → a 39 i = 0 ∧ a 40 i = 0) (fun a => (∀ c j, c ≠ 39 → c ≠ 40 → a c j = H c j) ∧ ∀ i, i < 60 → a 39 i = 0 ∧ a 40 i = 0) H
    ⟨fun _ _ _ _ => rfl, fun i hi => absurd hi (by omega)⟩
    (fun m a ha => ⟨a, by simp only [f_X2_lay_l26]; rw [if_pos (by decide)], ha⟩)
    (fun m k a hk ha => Or.inr ⟨hset (hset a 39 k 0) 40 k 0, by
      simp only [f_X2_lay_l26]
      rw [if_neg (show ¬ (60 : Int32) ≤ nI k from nI_ge (b := 60) hk (by omega)), as_n hk (by omega), Option.bind_some, as_n hk (by omega), Option.bind_some, nI_1],
      fun c j h1 h2 => by simp [hset_if, h1, h2, ha.1 c j h1 h2],
      fun i hi => by
        by_cases hik : i = k
        · simp [hset_if, hik]
        · have := ha.2 i (by omega)
          simp [hset_if, hik, this]⟩)
theorem lay_l54 {H : Hp} {R : Nat → Nat} (hR : Rw R) (hP : Rp H 7 R) (h0 : ∀ i, i < 60 → H 39 i = 0) : ∃ H2, f_X2_lay_l54 fuel 0 H = some H2 ∧ (∀ c j, c ≠ 39 → H2 c j = H c j) ∧ ∀ x p, x < 10 → p < 6 → H2 39 (6 * x + p) = nI (tb R x p) := by
  obtain ⟨r0, r1, r2, r3, r4, r5, r6, r7⟩ := hR
  obtain ⟨-, -, -, -, p4, -, p6, p7⟩ := hP
  exact up0 (fun m k a => f_X2_lay_l54 m (nI k) a) (R 3) (by omega) (fun k a => (∀ c j, c ≠ 39 → a c j = H c j) ∧ ∀ x p, x < 10 → p < 6 → a 39 (6 * x + p) = nI (tk R k x p)) (fun a => (∀ c j, c ≠ 39 → a c j = H c j) ∧ ∀ x p, x < 10 → p < 6 → a 39 (6 * x + p) = nI (tb R x p)) H
    ⟨fun _ _ _ => rfl, fun x p hx hp => by rw [h0 _ (by omega)]; unfold tk; rw [sm_0]; rfl⟩
    (fun m a ha => ⟨a, by
      simp only [f_X2_lay_l54]
      rw [ha.1 7 4 (by omega), p4, if_pos (nI_le (Nat.le_refl _) (by omega))], ha⟩)
    (fun m k a hk ha => by
      obtain ⟨q1, q2, q3⟩ := p7 k hk
      obtain ⟨s1, s2, s3, s4⟩ := r6 k hk
      have s5 := r7 _ s1
      refine Or.inr ⟨hset a 39 (6 * R (70 + R (10 + 3 * k)) + R (11 + 3 * k)) (nI (tk R k (R (70 + R (10 + 3 * k))) (R (11 + 3 * k)) + R (12 + 3 * k))), ?_, fun c j h1 => ?_, fun x p hx hp => ?_⟩
      · simp only [f_X2_lay_l54]
        rw [ha.1 7 4 (by omega), p4, if_neg (nI_ge hk (by omega)), ag_n (show k < 20 by omega) (by omega), Option.bind_some, ha.1 10 k (by omega), q1, ag_n s1 (by omega), Option.bind_some, ha.1 9 _ (by omega), p6 _ s1, ag_n (show k < 20 by omega) (by omega), Option.bind_some, ha.1 11 k (by omega), q2, x6, ag_n (show 6 * R (70 + R (10 + 3 * k)) + R (11 + 3 * k) < 60 by omega) (by omega), Option.bind_some, ag_n (show k < 20 by omega) (by omega), Option.bind_some, ha.1 12 k (by omega), q3, ha.2 _ _ s5 (by omega), nI_add, as_n (by omega) (by omega), Option.bind_some, nI_1]
      · rw [hset_if, if_neg (by omega), ha.1 c j h1]
      · rw [hset_if]
        unfold tk
        rw [sm_s]
        by_cases hxp : R (70 + R (10 + 3 * k)) = x ∧ R (11 + 3 * k) = p
        · rw [if_pos (by omega), if_pos hxp]
          obtain ⟨rfl, rfl⟩ := hxp
          rfl
        · rw [if_neg (by omega), if_neg hxp, ha.2 x p hx hp]
          rfl)
theorem lay_l105 {H : Hp} {t : Nat → Nat → Nat} (hB : ∀ a p, t a p ≤ 1980) (h0 : ∀ i, i < 60 → H 40 i = 0) (h1 : ∀ x p, x < 10 → p < 6 → H 39 (6 * x + p) = nI (t x p)) : ∃ H2, f_X2_lay_l105 fuel 0 H = some H2 ∧ (∀ c j, c ≠ 40 → H2 c j = H c j) ∧ ∀ x p, x < 10 → p < 6 → H2 40 (6 * x + p) = nI (rt (t x p)) := by
  have h2 : ∀ i, i < 60 → H 39 i = nI (t (i / 6) (i % 6)) := fun i hi => by
    have := h1 (i / 6) (i % 6) (by omega) (by omega)
    rwa [show 6 * (i / 6) + i % 6 = i by omega] at this
  have key := up0 (fun m k a => f_X2_lay_l105 m (nI k) a) 60 (by omega) (fun k a => (∀ c j, c ≠ 40 → a c j = H c j) ∧ (∀ i, i < k → a 40 i = nI (rt (t (i / 6) (i % 6)))) ∧ ∀ i, k ≤ i → i < 60 → a 40 i = 0) (fun a => (∀ c j, c ≠ 40 → a c j = H c j) ∧ ∀ i, i < 60 → a 40 i = nI (rt (t (i / 6) (i % 6)))) H
    ⟨fun _ _ _ => rfl, fun i hi => absurd hi (by omega), fun i _ hi => h0 i hi⟩
    (fun m a ha => ⟨a, by simp only [f_X2_lay_l105]; rw [if_pos (by decide)], ha.1, ha.2.1⟩)
    (fun m k a hk ha => by
      have e := h2 k hk
      have e2 := hB (k / 6) (k % 6)
      refine Or.inr ⟨hset a 40 k (nI (rt (t (k / 6) (k % 6)))), ?_, fun c j h1 => ?_, fun i hi => ?_, fun i hi hi2 => ?_⟩
      · simp only [f_X2_lay_l105]
        rw [if_neg (show ¬ (60 : Int32) ≤ nI k from nI_ge (b := 60) hk (by omega)), ag_n hk (by omega), Option.bind_some, ha.1 39 k (by omega), e]
        by_cases g : t (k / 6) (k % 6) = 0
        · have e3 : hset a 40 k (nI (rt (t (k / 6) (k % 6)))) = a := by
            funext c j
            rw [hset_if, g, rt_0]
            split
            next z => rw [z.1, z.2, ha.2.2 k (Nat.le_refl _) hk]; rfl
            next => rfl
          rw [e3, g, if_pos (by decide), Option.bind_some, nI_1]
        · rw [if_neg (nI_nle (by omega) (by omega)), Option.bind_some, root7 e2, Option.bind_some, as_n hk (by omega), Option.bind_some, Option.bind_some, nI_1]
      · rw [hset_if, if_neg (by omega), ha.1 c j h1]
      · rw [hset_if]
        by_cases hik : i = k
        · rw [if_pos ⟨rfl, hik⟩, hik]
        · rw [if_neg (by omega), ha.2.1 i (by omega)]
      · rw [hset_if, if_neg (by omega), ha.2.2 i (by omega) hi2])
  obtain ⟨H2, e1, e2, e3⟩ := key
  refine ⟨H2, e1, e2, fun x p hx hp => ?_⟩
  rw [e3 _ (by omega), show (6 * x + p) / 6 = x by omega, show (6 * x + p) % 6 = p by omega]
def BL (H : Hp) (n P e : Nat) (t : Nat → Nat → Nat) : Prop := H 38 10 = nI n ∧ H 38 11 = nI P ∧ H 38 12 = nI e ∧ ∀ x p, x < 10 → p < 6 → H 39 (6 * x + p) = nI (t x p) ∧ H 40 (6 * x + p) = nI (rt (t x p))
theorem lay7 {H : Hp} {R : Nat → Nat} (hR : Rw R) (hP : Rp H 7 R) : ∃ H2, f_X2_lay H = some H2 ∧ BL H2 (R 0) (R 1) (R 2) (tb R) ∧ Rp H2 7 R := by
  have hq : Rp (hset (hset (hset H 38 10 (nI (R 0))) 38 11 (nI (R 1))) 38 12 (nI (R 2))) 7 R := hP.fr (fun c k h1 h2 => by rw [hset_c (by omega), hset_c (by omega), hset_c (by omega)])
  obtain ⟨Ha, a1, a2, a3⟩ := lay_l26 (hset (hset (hset H 38 10 (nI (R 0))) 38 11 (nI (R 1))) 38 12 (nI (R 2)))
  have hqa : Rp Ha 7 R := hq.fr (fun c k h1 h2 => a2 c k (by omega) (by omega))
  obtain ⟨Hb, b1, b2, b3⟩ := lay_l54 hR hqa (fun i hi => (a3 i hi).1)
  have hqb : Rp Hb 7 R := hqa.fr (fun c k h1 h2 => b2 c k (by omega))
  obtain ⟨Hc, c1, c2, c3⟩ := lay_l105 (t := tb R) (fun a p => (tb_B hR a p).1) (fun i hi => by rw [b2 40 i (by omega), (a3 i hi).2]) b3
  refine ⟨Hc, ?_, ⟨?_, ?_, ?_, fun x p hx hp => ⟨?_, c3 x p hx hp⟩⟩, hqb.fr (fun c k h1 h2 => c2 c k (by omega))⟩
  · obtain ⟨q0, q1, q2, q3, q4, -⟩ := hP
    simp only [f_X2_lay, pf_e, Option.bind_some]
    rw [hset_c (show 7 ≠ 38 by omega), hset_c (show 7 ≠ 38 by omega), hset_c (show 7 ≠ 38 by omega), q3, q1, q2, a1, Option.bind_some, b1, Option.bind_some, c1]; rfl
  · rw [c2 _ _ (by omega), b2 _ _ (by omega), a2 _ _ (by omega) (by omega), hset_k (by omega), hset_k (by omega), hset_self]
  · rw [c2 _ _ (by omega), b2 _ _ (by omega), a2 _ _ (by omega) (by omega), hset_k (by omega), hset_self]
  · rw [c2 _ _ (by omega), b2 _ _ (by omega), a2 _ _ (by omega) (by omega), hset_self]
  · rw [c2 _ _ (by omega), b3 x p hx hp]
/-! the model's -/
theorem look_l2 (r : Nat) (H : Hp) : ∃ H2, f_X8_lookAt_l2 r fuel 0 H = some H2 ∧ (∀ c j, c ≠ 69 → H2 c j = H c j) ∧ ∀ i, i < 60 → H2 69 i = 0 :=
  up0 (fun m k a => f_X8_lookAt_l2 r m (nI k) a) 60 (by omega) (fun k a => (∀ c j, c ≠ 69 → a c j = H c j) ∧ ∀ i, i < k → a 69 i = 0) (fun a => (∀ c j, c ≠ 69 → a c j = H c j) ∧ ∀ i, i < 60 → a 69 i = 0) H
    ⟨fun _ _ _ => rfl, fun i hi => absurd hi (by omega)⟩
    (fun m a ha => ⟨a, by simp only [f_X8_lookAt_l2]; rw [if_pos (by decide)], ha⟩)
    (fun m k a hk ha => Or.inr ⟨hset a 69 k 0, by
      simp only [f_X8_lookAt_l2]
      rw [if_neg (show ¬ (60 : Int32) ≤ nI k from nI_ge (b := 60) hk (by omega)), as_n hk (by omega), Option.bind_some, nI_1],
      fun c j h1 => by rw [hset_if, if_neg (by omega), ha.1 c j h1],
      fun i hi => by
        by_cases hik : i = k
        · rw [hik, hset_self]
        · rw [hset_k hik, ha.2 i (by omega)]⟩)
theorem look_l23 {H : Hp} {R : Nat → Nat} {r : Nat} (hr : r < 69) (hR : Rw R) (hP : Hr H r R) (h0 : ∀ i, i < 60 → H 69 i = 0) : ∃ H2, f_X8_lookAt_l23 r fuel 0 H = some H2 ∧ (∀ c j, c ≠ 69 → H2 c j = H c j) ∧ ∀ x p, x < 10 → p < 6 → H2 69 (6 * x + p) = nI (tb R x p) := by
  obtain ⟨r0, r1, r2, r3, r4, r5, r6, r7⟩ := hR
  exact up0 (fun m k a => f_X8_lookAt_l23 r m (nI k) a) (R 3) (by omega) (fun k a => (∀ c j, c ≠ 69 → a c j = H c j) ∧ ∀ x p, x < 10 → p < 6 → a 69 (6 * x + p) = nI (tk R k x p)) (fun a => (∀ c j, c ≠ 69 → a c j = H c j) ∧ ∀ x p, x < 10 → p < 6 → a 69 (6 * x + p) = nI (tb R x p)) H
    ⟨fun _ _ _ => rfl, fun x p hx hp => by rw [h0 _ (by omega)]; unfold tk; rw [sm_0]; rfl⟩
    (fun m a ha => ⟨a, by
      simp only [f_X8_lookAt_l23]
      rw [show (3 : Int32) = nI 3 from rfl, ag_n (by omega) (by omega), Option.bind_some, ha.1 r 3 (by omega), hP 3 (by omega), if_pos (nI_le (Nat.le_refl _) (by omega))], ha⟩)
    (fun m k a hk ha => by
      obtain ⟨s1, s2, s3, s4⟩ := r6 k hk
      have s5 := r7 _ s1
      have e : ∀ i, i < 80 → a r i = nI (R i) := fun i hi => by rw [ha.1 r i (by omega), hP i hi]
      refine Or.inr ⟨hset a 69 (6 * R (70 + R (10 + 3 * k)) + R (11 + 3 * k)) (nI (tk R k (R (70 + R (10 + 3 * k))) (R (11 + 3 * k)) + R (12 + 3 * k))), ?_, fun c j h1 => ?_, fun x p hx hp => ?_⟩
      · simp only [f_X8_lookAt_l23]
        rw [show (3 : Int32) = nI 3 from rfl, ag_n (by omega) (by omega), Option.bind_some, e 3 (by omega), if_neg (nI_ge hk (by omega)), of_0 (by omega), Option.bind_some, e _ (by omega), z70, ag_n (by omega) (by omega), Option.bind_some, e _ (by omega), of_1 (by omega), Option.bind_some, e _ (by omega), y6, ag_n (show 6 * R (70 + R (10 + 3 * k)) + R (11 + 3 * k) < 60 by omega) (by omega), Option.bind_some, of_2 (by omega), Option.bind_some, e _ (by omega), ha.2 _ _ s5 (by omega), nI_add, as_n (by omega) (by omega), Option.bind_some, nI_1]
      · rw [hset_if, if_neg (by omega), ha.1 c j h1]
      · rw [hset_if]
        unfold tk
        rw [sm_s]
        by_cases hxp : R (70 + R (10 + 3 * k)) = x ∧ R (11 + 3 * k) = p
        · rw [if_pos (by omega), if_pos hxp]
          obtain ⟨rfl, rfl⟩ := hxp
          rfl
        · rw [if_neg (by omega), if_neg hxp, ha.2 x p hx hp]
          rfl)
theorem look_l73 {H : Hp} {t : Nat → Nat → Nat} (r : Nat) (hB : ∀ a p, t a p ≤ 1980) (h1 : ∀ x p, x < 10 → p < 6 → H 69 (6 * x + p) = nI (t x p)) : ∃ H2, f_X8_lookAt_l73 r fuel 0 H = some H2 ∧ (∀ c j, c ≠ 70 → H2 c j = H c j) ∧ ∀ x p, x < 10 → p < 6 → H2 70 (6 * x + p) = nI (rt (t x p)) := by
  have h2 : ∀ i, i < 60 → H 69 i = nI (t (i / 6) (i % 6)) := fun i hi => by
    have := h1 (i / 6) (i % 6) (by omega) (by omega)
    rwa [show 6 * (i / 6) + i % 6 = i by omega] at this
  have key := up0 (fun m k a => f_X8_lookAt_l73 r m (nI k) a) 60 (by omega) (fun k a => (∀ c j, c ≠ 70 → a c j = H c j) ∧ (∀ i, i < k → a 70 i = nI (rt (t (i / 6) (i % 6))))) (fun a => (∀ c j, c ≠ 70 → a c j = H c j) ∧ ∀ i, i < 60 → a 70 i = nI (rt (t (i / 6) (i % 6)))) H
    ⟨fun _ _ _ => rfl, fun i hi => absurd hi (by omega)⟩
    (fun m a ha => ⟨a, by simp only [f_X8_lookAt_l73]; rw [if_pos (by decide)], ha⟩)
    (fun m k a hk ha => by
      have e := h2 k hk
      have e2 := hB (k / 6) (k % 6)
      refine Or.inr ⟨hset a 70 k (nI (rt (t (k / 6) (k % 6)))), ?_, fun c j h1 => ?_, fun i hi => ?_⟩
      · simp only [f_X8_lookAt_l73]
        rw [if_neg (show ¬ (60 : Int32) ≤ nI k from nI_ge (b := 60) hk (by omega)), ag_n hk (by omega), Option.bind_some, ha.1 69 k (by omega), e]
        by_cases g : t (k / 6) (k % 6) = 0
        · rw [g, rt_0, if_pos (by decide), Option.bind_some, as_n hk (by omega), Option.bind_some, nI_1]; rfl
        · rw [if_neg (nI_ne0 (by omega) (by omega)), Option.bind_some, root8 e2, Option.bind_some, Option.bind_some, as_n hk (by omega), Option.bind_some, nI_1]
      · rw [hset_if, if_neg (by omega), ha.1 c j h1]
      · rw [hset_if]
        by_cases hik : i = k
        · rw [if_pos ⟨rfl, hik⟩, hik]
        · rw [if_neg (by omega), ha.2 i (by omega)])
  obtain ⟨H2, e1, e2, e3⟩ := key
  refine ⟨H2, e1, e2, fun x p hx hp => ?_⟩
  rw [e3 _ (by omega), show (6 * x + p) / 6 = x by omega, show (6 * x + p) % 6 = p by omega]
theorem look_l135 {H : Hp} {t : Nat → Nat → Nat} (r a b : Nat) (ha : a < 10) (hb : b < 10) (h1 : ∀ x p, x < 10 → p < 6 → H 70 (6 * x + p) = nI (rt (t x p))) : f_X8_lookAt_l135 r H (nI a) (nI b) fuel 0 0 = some (nI (sm 6 (fun p => rt (t a p) * rt (t b p)))) := by
  obtain ⟨v, e1, e2⟩ := up0 (fun m k z => f_X8_lookAt_l135 r H (nI a) (nI b) m z (nI k)) 6 (by omega) (fun k z => z = nI (sm k (fun p => rt (t a p) * rt (t b p)))) (fun z => z = nI (sm 6 (fun p => rt (t a p) * rt (t b p)))) 0 (by rw [sm_0]; rfl)
    (fun m z hz => ⟨z, by simp only [f_X8_lookAt_l135]; rw [if_pos (by decide)], hz⟩)
    (fun m k z hk hz => Or.inr ⟨nI (sm (k + 1) (fun p => rt (t a p) * rt (t b p))), by
      simp only [f_X8_lookAt_l135]
      rw [if_neg (show ¬ (6 : Int32) ≤ nI k from nI_ge (b := 6) hk (by omega)), y6, y6, ag_n (by omega) (by omega), Option.bind_some, ag_n (by omega) (by omega), Option.bind_some, h1 a k ha hk, h1 b k hb hk, pk_mul, hz, nI_add, nI_1, sm_s], rfl⟩)
  rw [← e2]; exact e1
theorem look_l123 {H : Hp} {n : Nat} {t : Nat → Nat → Nat} (hB : Bt n t) (r a : Nat) (ha : a < 10) (h1 : ∀ x p, x < 10 → p < 6 → H 70 (6 * x + p) = nI (rt (t x p))) : ∃ H2, f_X8_lookAt_l123 r (nI a) fuel 0 H = some H2 ∧ (∀ c j, (c ≠ 71 ∨ j < 10 * a ∨ 10 * a + 10 ≤ j) → H2 c j = H c j) ∧ ∀ b, b < 10 → H2 71 (10 * a + b) = nI (ov t a b) :=
  up0 (fun m k z => f_X8_lookAt_l123 r (nI a) m (nI k) z) 10 (by omega) (fun k z => (∀ c j, (c ≠ 71 ∨ j < 10 * a ∨ 10 * a + 10 ≤ j) → z c j = H c j) ∧ ∀ b, b < k → z 71 (10 * a + b) = nI (ov t a b)) (fun z => (∀ c j, (c ≠ 71 ∨ j < 10 * a ∨ 10 * a + 10 ≤ j) → z c j = H c j) ∧ ∀ b, b < 10 → z 71 (10 * a + b) = nI (ov t a b)) H
    ⟨fun _ _ _ => rfl, fun i hi => absurd hi (by omega)⟩
    (fun m z hz => ⟨z, by simp only [f_X8_lookAt_l123]; rw [if_pos (by decide)], hz⟩)
    (fun m k z hk hz => Or.inr ⟨hset z 71 (10 * a + k) (nI (ov t a k)), by
      simp only [f_X8_lookAt_l123]
      have hs := ov_le hB a k 6 (by omega)
      rw [if_neg (show ¬ (10 : Int32) ≤ nI k from nI_ge (b := 10) hk (by omega)), look_l135 (t := t) r a k ha hk (fun x p hx hp => by rw [hz.1 70 _ (by omega), h1 x p hx hp]), Option.bind_some, show (10000 : Int32) = nI 10000 from rfl, pk_div (Nat.lt_of_le_of_lt hs (by decide)) (by omega) (by omega), y10, as_n (by omega) (by omega), Option.bind_some, nI_1]
      rfl,
      fun c j hc => by rw [hset_if, if_neg (by omega), hz.1 c j hc],
      fun b hb => by
        rw [hset_if]
        by_cases hbk : b = k
        · rw [if_pos (by omega), hbk]
        · rw [if_neg (by omega), hz.2 b (by omega)]⟩)
theorem look_l115 {H : Hp} {n : Nat} {t : Nat → Nat → Nat} (hB : Bt n t) (r : Nat) (h1 : ∀ x p, x < 10 → p < 6 → H 70 (6 * x + p) = nI (rt (t x p))) : ∃ H2, f_X8_lookAt_l115 r fuel 0 H = some H2 ∧ (∀ c j, c ≠ 71 → H2 c j = H c j) ∧ ∀ a b, a < 10 → b < 10 → H2 71 (10 * a + b) = nI (ov t a b) :=
  up0 (fun m k z => f_X8_lookAt_l115 r m (nI k) z) 10 (by omega) (fun k z => (∀ c j, c ≠ 71 → z c j = H c j) ∧ ∀ a b, a < k → b < 10 → z 71 (10 * a + b) = nI (ov t a b)) (fun z => (∀ c j, c ≠ 71 → z c j = H c j) ∧ ∀ a b, a < 10 → b < 10 → z 71 (10 * a + b) = nI (ov t a b)) H
    ⟨fun _ _ _ => rfl, fun i j hi => absurd hi (by omega)⟩
    (fun m z hz => ⟨z, by simp only [f_X8_lookAt_l115]; rw [if_pos (by decide)], hz⟩)
    (fun m k z hk hz => by
      obtain ⟨z2, e1, e2, e3⟩ := look_l123 hB r k hk (H := z) (fun x p hx hp => by rw [hz.1 70 _ (by omega), h1 x p hx hp])
      refine Or.inr ⟨z2, ?_, fun c j hc => ?_, fun a b ha hb => ?_⟩
      · simp only [f_X8_lookAt_l115]
        rw [if_neg (show ¬ (10 : Int32) ≤ nI k from nI_ge (b := 10) hk (by omega)), e1, Option.bind_some, nI_1]
      · rw [e2 c j (Or.inl hc), hz.1 c j hc]
      · by_cases hak : a = k
        · rw [hak, e3 b hb]
        · rw [e2 _ _ (by omega), hz.2 a b (by omega) hb])
def ML (H : Hp) (t : Nat → Nat → Nat) : Prop := (∀ x p, x < 10 → p < 6 → H 69 (6 * x + p) = nI (t x p) ∧ H 70 (6 * x + p) = nI (rt (t x p))) ∧ ∀ a b, a < 10 → b < 10 → H 71 (10 * a + b) = nI (ov t a b)
theorem look8 {H : Hp} {R : Nat → Nat} {r : Nat} (hr : r < 69) (hR : Rw R) (hP : Hr H r R) : ∃ H2, f_X8_lookAt r H = some H2 ∧ (∀ c j, c ≠ 69 → c ≠ 70 → c ≠ 71 → H2 c j = H c j) ∧ ML H2 (tb R) := by
  obtain ⟨Ha, a1, a2, a3⟩ := look_l2 r H
  obtain ⟨Hb, b1, b2, b3⟩ := look_l23 hr hR (hP.fr (fun k _ => a2 r k (by omega))) a3
  obtain ⟨Hc, c1, c2, c3⟩ := look_l73 (t := tb R) r (fun a p => (tb_B hR a p).1) b3
  obtain ⟨Hd, d1, d2, d3⟩ := look_l115 (tb_B hR) r c3
  refine ⟨Hd, ?_, fun c j h1 h2 h3 => by rw [d2 c j h3, c2 c j h2, b2 c j h1, a2 c j h1], fun x p hx hp => ⟨?_, ?_⟩, d3⟩
  · unfold f_X8_lookAt
    rw [a1, Option.bind_some, b1, Option.bind_some, c1, Option.bind_some, d1]; rfl
  · rw [d2 _ _ (by omega), c2 _ _ (by omega), b3 x p hx hp]
  · rw [d2 _ _ (by omega), c3 x p hx hp]
