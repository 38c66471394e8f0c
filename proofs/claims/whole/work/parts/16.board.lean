/-! the component's board -/
theorem bl_i {H : Hp} {n P e : Nat} {t : Nat → Nat → Nat} (h : BL H n P e t) {x p : Nat} (hx : x < 10) (hp : p < 6) : H 39 (6 * x + p) = nI (t x p) := (h.2.2.2 x p hx hp).1
theorem bl_r {H : Hp} {n P e : Nat} {t : Nat → Nat → Nat} (h : BL H n P e t) {x p : Nat} (hx : x < 10) (hp : p < 6) : H 40 (6 * x + p) = nI (rt (t x p)) := (h.2.2.2 x p hx hp).2
theorem BL.fr {H H2 : Hp} {n P e : Nat} {t : Nat → Nat → Nat} (h : BL H n P e t) (f : ∀ c j, (c = 38 ∧ 10 ≤ j ∧ j ≤ 12) ∨ c = 39 ∨ c = 40 → H2 c j = H c j) : BL H2 n P e t := by
  obtain ⟨h1, h2, h3, h4⟩ := h
  refine ⟨?_, ?_, ?_, fun x p hx hp => ?_⟩
  · rw [f _ _ (by omega), h1]
  · rw [f _ _ (by omega), h2]
  · rw [f _ _ (by omega), h3]
  · rw [f _ _ (by omega), f _ _ (by omega)]
    exact h4 x p hx hp
theorem over7 {H : Hp} {n P e : Nat} {t : Nat → Nat → Nat} (hn : n ≤ 6) (hB : Bt n t) (hL : BL H n P e t) {a b : Nat} (ha : a < 10) (hb : b < 10) : f_X2_overlapOf (nI a) (nI b) H = some (nI (ov t a b)) := by
  unfold f_X2_overlapOf
  have hs := ov_le hB a b n hn
  rw [acc0 (f_X2_overlapOf_l5 H (nI a) (nI b)) n (by omega) (fun p => rt (t a p) * rt (t b p))
    (fun m z => by simp only [f_X2_overlapOf_l5]; rw [hL.1, if_pos (nI_le (Nat.le_refl _) (by omega))])
    (fun m k hk => by
      simp only [f_X2_overlapOf_l5]
      rw [hL.1, if_neg (nI_ge hk (by omega)), x6, x6, ag_n (by omega) (by omega), Option.bind_some, ag_n (by omega) (by omega), Option.bind_some, bl_r hL ha (by omega), bl_r hL hb (by omega), pk_mul, nI_add, nI_1, sm_s]), Option.bind_some, show (10000 : Int32) = nI 10000 from rfl, pk_div (Nat.lt_of_le_of_lt hs (by decide)) (by omega) (by omega), ov_n hB hn]
theorem term7 {H : Hp} {n P e : Nat} {t : Nat → Nat → Nat} (hB : Bt n t) (hL : BL H n P e t) (h1 : 1 ≤ e) (h2 : e ≤ 99) {a b p : Nat} (ha : a < 10) (hb : b < 10) (hp : p < 6) : f_X2_termOf (nI a) (nI b) (nI p) (nI (ov t a b)) H = some (nI (tm e t a b p)) := by
  unfold f_X2_termOf
  have ro := ov_le2 hB a b
  have rr := rr_le hB a b p
  rw [x6, x6, ag_n (by omega) (by omega), Option.bind_some, ag_n (by omega) (by omega), Option.bind_some, bl_r hL ha hp, bl_r hL hb hp, pk_mul]
  by_cases g : rt (t a p) * rt (t b p) = 0
  · rw [g, if_pos (by decide), tm_z g]; rfl
  · rw [if_neg (nI_ne0 (by omega) (Nat.lt_of_le_of_lt rr (by decide))), hL.2.2.1, nI_add, nI_l (by omega), nI_l (Nat.lt_of_le_of_lt rr (by decide)), nI_l (by omega), show (2 : Int64) = lN 2 from rfl, show (10000 : Int64) = lN 10000 from rfl, lN_mul, lN_mul, lN_mul]
    have hm : 2 * (rt (t a p) * rt (t b p)) * e ≤ (2 * (4449 * 4449)) * 99 := mul_lt' (by omega) h2
    rw [if_pos (by rw [show (0 : Int64) = lN 0 from rfl, pk_lLT (by omega) (by omega)]; omega), if_neg (by rw [show (0 : Int64) = lN 0 from rfl, pk_lEQ (by omega) (by omega)]; omega), pk_lDiv (Nat.lt_of_le_of_lt hm (by decide)) (by omega) (by omega), lN_i]
    rfl
theorem smz {t : Nat → Nat → Nat} {n : Nat} (hn : n ≤ 6) (hB : Bt n t) {a : Nat} (h : sm 6 (t a) = 0) (p : Nat) : t a p = 0 := by
  by_cases hp : p < 6
  · have := sm_ge (n := 6) (t a) hp
    omega
  · exact (hB a p).2 (by omega)
theorem gives7 {H : Hp} {n P e : Nat} {t : Nat → Nat → Nat} (hn : n ≤ 6) (hB : Bt n t) (hL : BL H n P e t) {a : Nat} (ha : a < 10) : f_X2_gives (nI a) H = some (if 0 < sm 6 (t a) then 1 else 0) := by
  unfold f_X2_gives
  obtain ⟨v, e1, e2⟩ := up0 (fun m k (_ : Unit) => f_X2_gives_l2 H (nI a) m (nI k)) n (by omega) (fun k _ => ∀ p, p < k → t a p = 0) (fun v => v = if 0 < sm 6 (t a) then .inr 1 else .inl ()) () (fun p hp => absurd hp (by omega))
    (fun m _ hz => ⟨.inl (), by simp only [f_X2_gives_l2]; rw [hL.1, if_pos (nI_le (Nat.le_refl _) (by omega))], by
      rw [if_neg]
      rw [sm_z (fun p hp => by
        by_cases h : p < n
        · exact hz p h
        · exact (hB a p).2 (by omega))]
      omega⟩)
    (fun m k _ hk hz => by
      simp only [f_X2_gives_l2, f_X2_sumFrom]
      rw [hL.1, if_neg (nI_ge hk (by omega)), x6, ag_n (by omega) (by omega), Option.bind_some, Option.bind_some, bl_i hL ha (by omega)]
      have hb := (hB a k).1
      by_cases g : t a k = 0
      · rw [g, if_pos (by decide), nI_1]
        exact Or.inr ⟨(), rfl, fun p hp => by
          by_cases hpk : p = k
          · rw [hpk, g]
          · exact hz p (by omega)⟩
      · rw [if_neg (nI_nle (by omega) (by omega))]
        have := sm_ge (n := 6) (t a) (show k < 6 by omega)
        exact Or.inl ⟨_, rfl, by rw [if_pos (by omega)]⟩)
  rw [show f_X2_gives_l2 H (nI a) fuel 0 = some v from e1, Option.bind_some, e2]
  by_cases g : 0 < sm 6 (t a)
  · rw [if_pos g, if_pos g]; rfl
  · rw [if_neg g, if_neg g]; rfl
theorem addm (x sg : Int32) (a b : Nat) : x + sg * nI a + sg * nI b = x + sg * nI (a + b) := by
  rw [← nI_add, Int32.mul_add, Int32.add_assoc]
theorem pair7 {H : Hp} {n P e : Nat} {t : Nat → Nat → Nat} (hn : n ≤ 6) (hB : Bt n t) (hL : BL H n P e t) (h1 : 1 ≤ e) (h2 : e ≤ 99) {a b : Nat} (ha : a < 10) (hb : b < 10) (sg : Int32) : ∃ H2, f_X2_weighPair (nI a) (nI b) sg H = some H2 ∧ (∀ c j, c ≠ 46 → H2 c j = H c j) ∧ ∀ p, p < n → H2 46 p = H 46 p + sg * nI (tm e t a b p) := by
  unfold f_X2_weighPair
  rw [over7 hn hB hL ha hb, Option.bind_some]
  have ro := ov_le2 hB a b
  by_cases g : ov t a b = 0
  · rw [g, if_pos (by decide)]
    exact ⟨H, rfl, fun _ _ _ => rfl, fun p hp => by rw [tm_ov hB g p (by omega), show nI 0 = 0 from rfl, Int32.mul_zero, Int32.add_zero]⟩
  · rw [if_neg (nI_ne0 (by omega) (by omega))]
    obtain ⟨H2, e1, e2, e3, e4⟩ := up0 (fun m k z => f_X2_weighPair_l17 (nI a) (nI b) sg (nI (ov t a b)) m (nI k) z) n (by omega) (fun k z => (∀ c j, c ≠ 46 → z c j = H c j) ∧ (∀ p, p < k → z 46 p = H 46 p + sg * nI (tm e t a b p)) ∧ ∀ p, k ≤ p → z 46 p = H 46 p) (fun z => (∀ c j, c ≠ 46 → z c j = H c j) ∧ (∀ p, p < n → z 46 p = H 46 p + sg * nI (tm e t a b p)) ∧ ∀ p, n ≤ p → z 46 p = H 46 p) H
      ⟨fun _ _ _ => rfl, fun p hp => absurd hp (by omega), fun _ _ => rfl⟩
      (fun m z hz => ⟨z, by simp only [f_X2_weighPair_l17]; rw [hz.1 38 10 (by omega), hL.1, if_pos (nI_le (Nat.le_refl _) (by omega))], hz⟩)
      (fun m k z hk hz => Or.inr ⟨hset z 46 k (H 46 k + sg * nI (tm e t a b k)), by
        have hLz : BL z n P e t := hL.fr (fun c j h => hz.1 c j (by omega))
        simp only [f_X2_weighPair_l17]
        rw [hLz.1, if_neg (nI_ge hk (by omega)), ag_n (by omega) (by omega), Option.bind_some, term7 hB hLz h1 h2 ha hb (by omega), Option.bind_some, hz.2.2 k (Nat.le_refl _), as_n (by omega) (by omega), Option.bind_some, nI_1],
        fun c j h => by rw [hset_c h, hz.1 c j h],
        fun p hp => by
          rw [hset_if]
          by_cases hpk : p = k
          · rw [if_pos ⟨rfl, hpk⟩, hpk]
          · rw [if_neg (by omega), hz.2.1 p (by omega)],
        fun p hp => by rw [hset_k (by omega), hz.2.2 p (by omega)]⟩)
    exact ⟨H2, by rw [show f_X2_weighPair_l17 (nI a) (nI b) sg (nI (ov t a b)) fuel 0 H = some H2 from e1]; rfl, e2, e3⟩
theorem weigh_l26 {H : Hp} {n P e : Nat} {t : Nat → Nat → Nat} (hn : n ≤ 6) (hB : Bt n t) (hL : BL H n P e t) {g : Nat} (hg : g < 10) (sg : Int32) : ∃ H2, f_X2_weigh_l26 (nI g) sg fuel 0 H = some H2 ∧ (∀ c j, c ≠ 43 → c ≠ 44 → c ≠ 45 → H2 c j = H c j) ∧ ∀ p, p < n → H2 43 p = H 43 p + sg * nI (t g p) ∧ H2 44 p = H 44 p + sg * nI (rt (t g p)) ∧ H2 45 p = H 45 p + sg * nI (if 0 < t g p then 1 else 0) := by
  obtain ⟨H2, e1, e2, e3, e4⟩ := up0 (fun m k z => f_X2_weigh_l26 (nI g) sg m (nI k) z) n (by omega) (fun k z => (∀ c j, c ≠ 43 → c ≠ 44 → c ≠ 45 → z c j = H c j) ∧ (∀ p, p < k → z 43 p = H 43 p + sg * nI (t g p) ∧ z 44 p = H 44 p + sg * nI (rt (t g p)) ∧ z 45 p = H 45 p + sg * nI (if 0 < t g p then 1 else 0)) ∧ ∀ p, k ≤ p → z 43 p = H 43 p ∧ z 44 p = H 44 p ∧ z 45 p = H 45 p) (fun z => (∀ c j, c ≠ 43 → c ≠ 44 → c ≠ 45 → z c j = H c j) ∧ (∀ p, p < n → z 43 p = H 43 p + sg * nI (t g p) ∧ z 44 p = H 44 p + sg * nI (rt (t g p)) ∧ z 45 p = H 45 p + sg * nI (if 0 < t g p then 1 else 0)) ∧ ∀ p, n ≤ p → z 43 p = H 43 p ∧ z 44 p = H 44 p ∧ z 45 p = H 45 p) H
    ⟨fun _ _ _ _ _ => rfl, fun p hp => absurd hp (by omega), fun _ _ => ⟨rfl, rfl, rfl⟩⟩
    (fun m z hz => ⟨z, by simp only [f_X2_weigh_l26]; rw [hz.1 38 10 (by omega) (by omega) (by omega), hL.1, if_pos (nI_le (Nat.le_refl _) (by omega))], hz⟩)
    (fun m k z hk hz => Or.inr ⟨hset (hset (hset z 43 k (H 43 k + sg * nI (t g k))) 44 k (H 44 k + sg * nI (rt (t g k)))) 45 k (H 45 k + sg * nI (if 0 < t g k then 1 else 0)), by
      have hLz : BL z n P e t := hL.fr (fun c j h => hz.1 c j (by omega) (by omega) (by omega))
      have hq := hz.2.2 k (Nat.le_refl _)
      have hb := (hB g k).1
      simp only [f_X2_weigh_l26]
      rw [hLz.1, if_neg (nI_ge hk (by omega)), ag_n (by omega) (by omega), Option.bind_some, x6, ag_n (by omega) (by omega), Option.bind_some, hq.1, bl_i hLz hg (by omega), as_n (by omega) (by omega), Option.bind_some, ag_n (by omega) (by omega), Option.bind_some, ag_n (by omega) (by omega), Option.bind_some, hset_c (show 44 ≠ 43 by omega), hset_c (show 40 ≠ 43 by omega), hq.2.1, bl_r hLz hg (by omega), as_n (by omega) (by omega), Option.bind_some, ag_n (by omega) (by omega), Option.bind_some, ag_n (by omega) (by omega), Option.bind_some, hset_c (show 45 ≠ 44 by omega), hset_c (show 45 ≠ 43 by omega), hset_c (show 39 ≠ 44 by omega), hset_c (show 39 ≠ 43 by omega), hq.2.2, bl_i hLz hg (by omega), as_n (by omega) (by omega), Option.bind_some, nI_1]
      by_cases g0 : 0 < t g k
      · rw [if_neg (nI_nle g0 (by omega)), if_pos g0, show nI 1 = 1 from rfl, Int32.mul_one]
      · rw [if_pos (show nI (t g k) ≤ 0 by rw [show t g k = 0 by omega]; decide), if_neg g0, show nI 0 = 0 from rfl, Int32.mul_zero],
      fun c j h1 h2 h3 => by rw [hset_c h3, hset_c h2, hset_c h1, hz.1 c j h1 h2 h3],
      fun p hp => by
        by_cases hpk : p = k
        · subst hpk
          simp [hset_if]
        · simp [hset_if, hpk]
          exact hz.2.1 p (by omega),
      fun p hp => by
        have : p ≠ k := by omega
        simp [hset_if, this]
        exact hz.2.2 p (by omega)⟩)
  exact ⟨H2, e1, e2, e3⟩
theorem weigh_l110 {H : Hp} {n P e : Nat} {t : Nat → Nat → Nat} (hn : n ≤ 6) (hB : Bt n t) (hL : BL H n P e t) (h1 : 1 ≤ e) (h2 : e ≤ 99) {g : Nat} (hg : g < 10) (sg : Int32) : ∃ H2, f_X2_weigh_l110 (nI g) sg fuel 0 H = some H2 ∧ (∀ c j, c ≠ 46 → H2 c j = H c j) ∧ ∀ p, p < n → H2 46 p = H 46 p + sg * nI (sm 10 (fun o => if H 41 o ≠ 0 ∧ o ≠ g then tm e t g o p else 0)) :=
  up0 (fun m k z => f_X2_weigh_l110 (nI g) sg m (nI k) z) 10 (by omega) (fun k z => (∀ c j, c ≠ 46 → z c j = H c j) ∧ ∀ p, p < n → z 46 p = H 46 p + sg * nI (sm k (fun o => if H 41 o ≠ 0 ∧ o ≠ g then tm e t g o p else 0))) (fun z => (∀ c j, c ≠ 46 → z c j = H c j) ∧ ∀ p, p < n → z 46 p = H 46 p + sg * nI (sm 10 (fun o => if H 41 o ≠ 0 ∧ o ≠ g then tm e t g o p else 0))) H
    ⟨fun _ _ _ => rfl, fun p hp => by rw [sm_0, show nI 0 = 0 from rfl, Int32.mul_zero, Int32.add_zero]⟩
    (fun m z hz => ⟨z, by simp only [f_X2_weigh_l110]; rw [if_pos (by decide)], hz⟩)
    (fun m k z hk hz => by
      simp only [f_X2_weigh_l110]
      rw [if_neg (show ¬ (10 : Int32) ≤ nI k from nI_ge (b := 10) hk (by omega)), ag_n hk (by omega), Option.bind_some, hz.1 41 k (by omega), nI_1]
      simp only [nI_eq' (show k < 2 ^ 31 by omega) (show g < 2 ^ 31 by omega)]
      by_cases g1 : H 41 k = 0
      · rw [if_pos g1, Option.bind_some]
        exact Or.inr ⟨z, rfl, hz.1, fun p hp => by rw [hz.2 p hp, sm_s k, if_neg (fun q => q.1 g1)]; rfl⟩
      · rw [if_neg g1]
        by_cases g2 : k = g
        · rw [if_pos g2, Option.bind_some]
          exact Or.inr ⟨z, rfl, hz.1, fun p hp => by rw [hz.2 p hp, sm_s k, if_neg (fun q => q.2 g2)]; rfl⟩
        · obtain ⟨z2, e1, e2, e3⟩ := pair7 hn hB (hL.fr (fun c j h => hz.1 c j (by omega))) h1 h2 hg hk sg
          rw [if_neg g2, e1, Option.bind_some, Option.bind_some]
          exact Or.inr ⟨z2, rfl, fun c j h => by rw [e2 c j h, hz.1 c j h], fun p hp => by rw [e3 p hp, hz.2 p hp, addm, sm_s k, if_pos ⟨g1, g2⟩]⟩)
def mk (L : Nat → Bool) (s : Nat → Nat → Nat) (a p : Nat) : Nat := if L a then 0 else s a p
def BO (H : Hp) (n P e : Nat) (κ : Nat → Int32) (s : Nat → Nat → Nat) (L : Nat → Bool) : Prop :=
  BL H n P e s ∧ (∀ a, a < 10 → H 41 a = if 0 < sm 6 (s a) ∧ L a = false then 1 else 0) ∧ ∀ p, p < n → H 42 p = κ p ∧ H 43 p = nI (CO (mk L s) p) ∧ H 44 p = nI (RS (mk L s) p) ∧ H 45 p = nI (HD (mk L s) p) ∧ H 46 p = nI (TM e (mk L s) p)
/-- the numbers are as they must be -/
def Ok (n e : Nat) (s : Nat → Nat → Nat) : Prop := n ≤ 6 ∧ Bt n s ∧ 1 ≤ e ∧ e ≤ 99
theorem mk_B {n : Nat} {s : Nat → Nat → Nat} (h : Bt n s) (L : Nat → Bool) : Bt n (mk L s) := by
  intro a p
  unfold mk
  have := h a p
  split
  · exact ⟨by omega, fun _ => rfl⟩
  · exact this
theorem BO.fr {H H2 : Hp} {n P e : Nat} {κ : Nat → Int32} {s : Nat → Nat → Nat} {L : Nat → Bool} (h : BO H n P e κ s L) (f : ∀ c j, (c = 38 ∧ 10 ≤ j ∧ j ≤ 12) ∨ (39 ≤ c ∧ c ≤ 46) → H2 c j = H c j) : BO H2 n P e κ s L := by
  refine ⟨h.1.fr (fun c j q => f c j (by omega)), fun a ha => ?_, fun p hp => ?_⟩
  · rw [f _ _ (by omega)]; exact h.2.1 a ha
  · rw [f 42 _ (by omega), f 43 _ (by omega), f 44 _ (by omega), f 45 _ (by omega), f 46 _ (by omega)]
    exact h.2.2 p hp
def Lp (L : Nat → Bool) (g : Nat) (v : Bool) : Nat → Bool := fun a => if a = g then v else L a
/-- what a pair of masks has to do with each other: g out, g in -/
theorem terms_in {n e : Nat} {s : Nat → Nat → Nat} (ok : Ok n e s) (L : Nat → Bool) {g : Nat} (hg : g < 10) (J : Nat → Prop) [DecidablePred J] (hJ : ∀ o, o < 10 → o ≠ g → (J o ↔ 0 < sm 6 (s o) ∧ L o = false)) (p : Nat) : TM e (mk (Lp L g false) s) p = TM e (mk (Lp L g true) s) p + sm 10 (fun o => if J o ∧ o ≠ g then tm e s g o p else 0) := by
  rw [TM_in (t := mk (Lp L g true) s) (t2 := mk (Lp L g false) s) hg (fun a ha => by funext q; simp [mk, Lp, ha]) (fun q => by simp [mk, Lp])]
  congr 1
  refine sm_congr (fun o ho => ?_)
  by_cases h1 : o = g
  · simp [h1]
  · rw [if_neg h1]
    by_cases h2 : J o
    · rw [if_pos ⟨h2, h1⟩]
      have h3 := ((hJ o ho h1).mp h2).2
      unfold tm ov
      simp [mk, Lp, h1, h3]
    · rw [if_neg (fun q => h2 q.1)]
      apply tm_z
      have : mk (Lp L g false) s o p = 0 := by
        by_cases h3 : L o = true
        · simp [mk, Lp, h1, h3]
        · simp only [Bool.not_eq_true] at h3
          have h4 : ¬ 0 < sm 6 (s o) := fun q => h2 ((hJ o ho h1).mpr ⟨q, h3⟩)
          have := smz ok.1 ok.2.1 (a := o) (by omega) p
          simp [mk, Lp, h1, h3, this]
      rw [this, rt_0, Nat.mul_zero]
theorem weigh7 {H : Hp} {n P e : Nat} {κ : Nat → Int32} {s : Nat → Nat → Nat} {L : Nat → Bool} (ok : Ok n e s) (hO : BO H n P e κ s L) {g : Nat} (hg : g < 10) (v : Bool) (hL : L g = v) : ∃ H2, f_X2_weigh (nI g) (if v then 1 else -1) H = some H2 ∧ BO H2 n P e κ s (Lp L g (!v)) := by
  unfold f_X2_weigh
  obtain ⟨hn, hB, he1, he2⟩ := ok
  rw [gives7 hn hB hO.1 hg, Option.bind_some]
  by_cases g0 : 0 < sm 6 (s g)
  · rw [if_pos g0, if_neg (by decide), as_n hg (by omega), Option.bind_some]
    have hL1 : BL (hset H 41 g (if (if v then 1 else -1) ≤ (0 : Int32) then 0 else 1)) n P e s := hO.1.fr (fun c j h => hset_c (by omega))
    obtain ⟨Ha, a1, a2, a3⟩ := weigh_l26 hn hB hL1 hg (if v then 1 else -1)
    obtain ⟨Hb, b1, b2, b3⟩ := weigh_l110 hn hB (hL1.fr (H2 := Ha) (fun c j h => a2 c j (by omega) (by omega) (by omega))) he1 he2 hg (if v then 1 else -1)
    refine ⟨Hb, by rw [a1, Option.bind_some, b1]; rfl, ?_, ?_, ?_⟩
    · exact hL1.fr (fun c j h => by rw [b2 c j (by omega), a2 c j (by omega) (by omega) (by omega)])
    · intro a ha
      rw [b2 _ _ (by omega), a2 _ _ (by omega) (by omega) (by omega), hset_if]
      by_cases hag : a = g
      · subst hag
        rw [if_pos ⟨rfl, rfl⟩]
        cases v
        · simp [Lp]
        · simp [Lp, g0]
      · rw [if_neg (by omega), hO.2.1 a ha]
        simp [Lp, hag]
    · intro p hp
      obtain ⟨o1, o2, o3, o4, o5⟩ := hO.2.2 p hp
      obtain ⟨q1, q2, q3⟩ := a3 p hp
      have eL : Lp L g v = L := by
        funext a
        unfold Lp
        by_cases h : a = g
        · rw [if_pos h, h, hL]
        · rw [if_neg h]
      have hT := terms_in ⟨hn, hB, he1, he2⟩ L hg (fun o => Ha 41 o ≠ 0) (fun o ho hog => by
        rw [a2 _ _ (by omega) (by omega) (by omega), hset_k hog, hO.2.1 o ho]
        by_cases hj : 0 < sm 6 (s o) ∧ L o = false
        · simp [hj]
        · rw [if_neg hj]; simp [hj]) p
      have hC := CO_in (t := mk (Lp L g true) s) (t2 := mk (Lp L g false) s) hg (fun a ha => by funext q; simp [mk, Lp, ha]) (fun q => by simp [mk, Lp]) p
      have hS := RS_in (t := mk (Lp L g true) s) (t2 := mk (Lp L g false) s) hg (fun a ha => by funext q; simp [mk, Lp, ha]) (fun q => by simp [mk, Lp]) p
      have hD := HD_in (t := mk (Lp L g true) s) (t2 := mk (Lp L g false) s) hg (fun a ha => by funext q; simp [mk, Lp, ha]) (fun q => by simp [mk, Lp]) p
      have e0 : mk (Lp L g false) s g p = s g p := by simp [mk, Lp]
      rw [e0] at hC hS hD
      have sub : ∀ a b : Nat, nI (a + b) + -1 * nI b = nI a := fun a b => by
        rw [← nI_add, Int32.neg_mul, Int32.one_mul, ← Int32.sub_eq_add_neg, Int32.add_sub_cancel]
      rw [b2 _ _ (by omega), b2 _ _ (by omega), b2 _ _ (by omega), b2 _ _ (by omega), b3 p hp, a2 42 _ (by omega) (by omega) (by omega), q1, q2, q3, a2 46 _ (by omega) (by omega) (by omega)]
      simp only [hset_c (show 42 ≠ 41 by omega), hset_c (show 43 ≠ 41 by omega), hset_c (show 44 ≠ 41 by omega), hset_c (show 45 ≠ 41 by omega), hset_c (show 46 ≠ 41 by omega)]
      rw [o1, o2, o3, o4, o5]
      cases v
      · rw [← eL]
        simp only [Bool.not_false]
        have eLL : Lp (Lp L g false) g true = Lp L g true := by funext a; unfold Lp; split <;> rfl
        rw [eLL, hC, hS, hD, hT]
        exact ⟨trivial, sub _ _, sub _ _, sub _ _, sub _ _⟩
      · rw [← eL]
        simp only [Bool.not_true]
        have eLL : Lp (Lp L g true) g false = Lp L g false := by funext a; unfold Lp; split <;> rfl
        rw [eLL, hC, hS, hD, hT]
        simp only [if_true, Int32.one_mul, nI_add]
        exact ⟨trivial, trivial, trivial, trivial, trivial⟩
  · rw [if_neg g0, if_pos rfl]
    have hz := smz hn hB (a := g) (by omega)
    have e1 : mk (Lp L g (!v)) s = mk L s := by
      funext a p
      unfold mk Lp
      by_cases hag : a = g
      · rw [hag, hz p]; simp
      · rw [if_neg hag]
    refine ⟨H, rfl, hO.1, fun a ha => ?_, fun p hp => ?_⟩
    · rw [hO.2.1 a ha]
      by_cases hag : a = g
      · subst hag
        rw [if_neg (fun q => g0 q.1), if_neg (fun q => g0 q.1)]
      · simp [Lp, hag]
    · rw [e1]
      exact hO.2.2 p hp
/-- a table with another sum in one place -/
def ts (s : Nat → Nat → Nat) (g q v : Nat) : Nat → Nat → Nat := fun a p => if a = g ∧ p = q then v else s a p
theorem set_s {H : Hp} {n P e : Nat} {κ : Nat → Int32} {s : Nat → Nat → Nat} {L : Nat → Bool} (hO : BO H n P e κ s L) {g q : Nat} (hg : g < 10) (hq : q < 6) (hL : L g = true) (v : Nat) : BO (hset (hset H 39 (6 * g + q) (nI v)) 40 (6 * g + q) (nI (rt v))) n P e κ (ts s g q v) L := by
  obtain ⟨⟨h1, h2, h3, h4⟩, h5, h6⟩ := hO
  have e1 : mk L (ts s g q v) = mk L s := by
    funext a p
    unfold mk ts
    by_cases ha : a = g
    · rw [ha, hL]; rfl
    · simp [ha]
  refine ⟨⟨?_, ?_, ?_, fun x p hx hp => ?_⟩, fun a ha => ?_, fun p hp => ?_⟩
  · rw [hset_c (by omega), hset_c (by omega), h1]
  · rw [hset_c (by omega), hset_c (by omega), h2]
  · rw [hset_c (by omega), hset_c (by omega), h3]
  · rw [hset_c (show 39 ≠ 40 by omega), hset_if, hset_if, hset_c (show 40 ≠ 39 by omega), (h4 x p hx hp).1, (h4 x p hx hp).2]
    unfold ts
    by_cases hc : x = g ∧ p = q
    · rw [if_pos (by omega), if_pos (by omega), if_pos (by omega)]; exact ⟨rfl, rfl⟩
    · rw [if_neg (by omega), if_neg (by omega), if_neg (by omega)]; exact ⟨rfl, rfl⟩
  · rw [hset_c (by omega), hset_c (by omega), h5 a ha]
    by_cases hag : a = g
    · subst hag
      rw [hL]; simp
    · have : ts s g q v a = s a := by funext p; unfold ts; rw [if_neg (fun z => hag z.1)]
      simp only [this]
  · rw [e1, hset_c (by omega), hset_c (by omega), hset_c (by omega), hset_c (by omega), hset_c (by omega), hset_c (by omega), hset_c (by omega), hset_c (by omega), hset_c (by omega), hset_c (by omega)]
    exact h6 p hp
theorem ts_B {n : Nat} {s : Nat → Nat → Nat} (h : Bt n s) {g q v : Nat} (hq : q < n) (hv : v ≤ 1980) : Bt n (ts s g q v) := by
  intro a p
  unfold ts
  by_cases hc : a = g ∧ p = q
  · rw [if_pos hc]; exact ⟨hv, by omega⟩
  · rw [if_neg hc]; exact h a p
theorem ts_self (s : Nat → Nat → Nat) (g q : Nat) : ts s g q (s g q) = s := by
  funext a p
  unfold ts
  split
  next h => rw [h.1, h.2]
  next => rfl
theorem Lp_back (L : Nat → Bool) (g : Nat) (h : L g = false) : Lp (Lp L g true) g false = L := by
  funext a
  unfold Lp
  by_cases hag : a = g
  · rw [if_pos hag, hag, h]
  · rw [if_neg hag, if_neg hag]
theorem add7 {H : Hp} {n P e : Nat} {κ : Nat → Int32} {s : Nat → Nat → Nat} {L : Nat → Bool} (ok : Ok n e s) (hO : BO H n P e κ s L) {g q v : Nat} (hg : g < 10) (hq : q < n) (hL : L g = false) (x : Int32) (hx : nI (s g q) + x = nI v) (hv : v ≤ 1980) : ∃ H2, f_X2_add (nI g) (nI q) x H = some H2 ∧ BO H2 n P e κ (ts s g q v) L := by
  obtain ⟨hn, hB, he1, he2⟩ := ok
  unfold f_X2_add
  by_cases h0 : x = 0
  · rw [if_pos h0]
    have : v = s g q := by
      rw [h0, Int32.add_zero] at hx
      exact ((nI_eq (by have := (hB g q).1; omega) (by omega)).mp hx).symm
    rw [this, ts_self]
    exact ⟨H, rfl, hO⟩
  rw [if_neg h0]
  obtain ⟨H1, a1, a2⟩ := weigh7 ⟨hn, hB, he1, he2⟩ hO hg false hL
  have a3 := set_s a2 hg (show q < 6 by omega) (by simp [Lp]) v
  obtain ⟨H2, b1, b2⟩ := weigh7 ⟨hn, ts_B hB hq hv, he1, he2⟩ a3 hg true (by simp [Lp])
  refine ⟨H2, ?_, ?_⟩
  · rw [show f_X2_weigh (nI g) (-1) H = some H1 from a1, Option.bind_some, x6, ag_n (by omega) (by omega), Option.bind_some, bl_i a2.1 hg (by omega), hx, as_n (by omega) (by omega), Option.bind_some, ag_n (by omega) (by omega), Option.bind_some, hset_self, root7 hv, Option.bind_some, as_n (by omega) (by omega), Option.bind_some, show f_X2_weigh (nI g) 1 _ = some H2 from b1]
    rfl
  · have e := Lp_back L g hL
    rw [show Lp (Lp L g (!false)) g (!true) = L from e] at b2
    exact b2
theorem leave7 {H : Hp} {n P e : Nat} {κ : Nat → Int32} {s : Nat → Nat → Nat} {L : Nat → Bool} (ok : Ok n e s) (hO : BO H n P e κ s L) {g : Nat} (hg : g < 10) (hL : L g = false) : ∃ H2, f_X2_leave (nI g) H = some H2 ∧ BO H2 n P e κ s (Lp L g true) := by
  obtain ⟨H1, a1, a2⟩ := weigh7 ok hO hg false hL
  exact ⟨H1, by unfold f_X2_leave; rw [show f_X2_weigh (nI g) (-1) H = some H1 from a1]; rfl, a2⟩
theorem join7 {H : Hp} {n P e : Nat} {κ : Nat → Int32} {s : Nat → Nat → Nat} {L : Nat → Bool} (ok : Ok n e s) (hO : BO H n P e κ s L) {g : Nat} (hg : g < 10) (hL : L g = true) : ∃ H2, f_X2_join (nI g) H = some H2 ∧ BO H2 n P e κ s (Lp L g false) := by
  obtain ⟨H1, a1, a2⟩ := weigh7 ok hO hg true hL
  exact ⟨H1, by unfold f_X2_join; rw [show f_X2_weigh (nI g) 1 H = some H1 from a1]; rfl, a2⟩
def κR (R : Nat → Nat) : Nat → Int32 := fun p => nI (R (4 + p))
def L0 : Nat → Bool := fun _ => false
theorem load7 {H : Hp} {R : Nat → Nat} (hR : Rw R) (h0 : 0 < R 0) (hP : Rp H 7 R) : ∃ H2, f_X2_load H = some H2 ∧ BO H2 (R 0) (R 1) (R 2) (κR R) (tb R) L0 ∧ Rp H2 7 R := by
  obtain ⟨Ha, a1, a2, a3⟩ := lay7 hR hP
  have hB := tb_B hR
  have hR' := hR
  obtain ⟨r0, r1, r2, r3, -⟩ := hR'
  have ok : Ok (R 0) (R 2) (tb R) := ⟨r0, hB, r3 h0, r2⟩
  obtain ⟨Hb, b1, b2, b3⟩ := up0 (fun m k z => f_X2_load_l7 m (nI k) z) (R 0) (by omega) (fun k z => (∀ c j, c < 42 ∨ 46 < c → z c j = Ha c j) ∧ ∀ p, p < k → z 42 p = κR R p ∧ z 43 p = 0 ∧ z 44 p = 0 ∧ z 45 p = 0 ∧ z 46 p = 0) (fun z => (∀ c j, c < 42 ∨ 46 < c → z c j = Ha c j) ∧ ∀ p, p < R 0 → z 42 p = κR R p ∧ z 43 p = 0 ∧ z 44 p = 0 ∧ z 45 p = 0 ∧ z 46 p = 0) Ha
    ⟨fun _ _ _ => rfl, fun p hp => absurd hp (by omega)⟩
    (fun m z hz => ⟨z, by simp only [f_X2_load_l7]; rw [hz.1 38 10 (by omega), a2.1, if_pos (nI_le (Nat.le_refl _) (by omega))], hz⟩)
    (fun m k z hk hz => Or.inr ⟨hset (hset (hset (hset (hset z 42 k (κR R k)) 43 k 0) 44 k 0) 45 k 0) 46 k 0, by
      simp only [f_X2_load_l7]
      rw [hz.1 38 10 (by omega), a2.1, if_neg (nI_ge hk (by omega)), ag_n (by omega) (by omega), Option.bind_some, hz.1 8 k (by omega), a3.2.2.2.2.2.1 k hk, as_n (by omega) (by omega), Option.bind_some, as_n (by omega) (by omega), Option.bind_some, as_n (by omega) (by omega), Option.bind_some, as_n (by omega) (by omega), Option.bind_some, as_n (by omega) (by omega), Option.bind_some, nI_1]
      rfl,
      fun c j h => by rw [hset_c (by omega), hset_c (by omega), hset_c (by omega), hset_c (by omega), hset_c (by omega), hz.1 c j h],
      fun p hp => by
        by_cases hpk : p = k
        · subst hpk
          simp [hset_if]
        · simp [hset_if, hpk]
          exact hz.2 p (by omega)⟩)
  obtain ⟨Hc, c1, c2, c3⟩ := up0 (fun m k z => f_X2_load_l63 m (nI k) z) 10 (by omega) (fun k z => (∀ c j, c ≠ 41 → z c j = Hb c j) ∧ ∀ a, a < k → z 41 a = 0) (fun z => (∀ c j, c ≠ 41 → z c j = Hb c j) ∧ ∀ a, a < 10 → z 41 a = 0) Hb
    ⟨fun _ _ _ => rfl, fun p hp => absurd hp (by omega)⟩
    (fun m z hz => ⟨z, by simp only [f_X2_load_l63]; rw [if_pos (by decide)], hz⟩)
    (fun m k z hk hz => Or.inr ⟨hset z 41 k 0, by
      simp only [f_X2_load_l63]
      rw [if_neg (show ¬ (10 : Int32) ≤ nI k from nI_ge (b := 10) hk (by omega)), as_n hk (by omega), Option.bind_some, nI_1],
      fun c j h => by rw [hset_c h, hz.1 c j h],
      fun a ha => by
        rw [hset_if]
        split
        · rfl
        · exact hz.2 a (by omega)⟩)
  have o1 : BO Hc (R 0) (R 1) (R 2) (κR R) (tb R) (fun a => decide (0 ≤ a)) := by
    refine ⟨a2.fr (fun c j h => by rw [c2 c j (by omega), b2 c j (by omega)]), fun a ha => by rw [c3 a ha]; simp, fun p hp => ?_⟩
    obtain ⟨q1, q2, q3, q4, q5⟩ := b3 p hp
    have em : mk (fun a => decide (0 ≤ a)) (tb R) = fun _ _ => 0 := by funext a p; simp [mk]
    rw [c2 _ _ (by omega), c2 _ _ (by omega), c2 _ _ (by omega), c2 _ _ (by omega), c2 _ _ (by omega), q1, q2, q3, q4, q5, em]
    refine ⟨rfl, ?_, ?_, ?_, ?_⟩
    · unfold CO; rw [sm_z (fun _ _ => rfl)]; rfl
    · unfold RS; rw [sm_z (fun _ _ => rt_0)]; rfl
    · unfold HD; rw [sm_z (fun _ _ => if_neg (Nat.lt_irrefl 0))]; rfl
    · unfold TM
      rw [sm_z (fun a _ => sm_z (fun b _ => by
        split
        · exact tm_z (by rw [rt_0, Nat.zero_mul])
        · rfl))]; rfl
  obtain ⟨Hd, d1, d2, d3⟩ := up0 (fun m k z => f_X2_load_l84 m (nI k) z) 10 (by omega) (fun k z => BO z (R 0) (R 1) (R 2) (κR R) (tb R) (fun a => decide (k ≤ a)) ∧ Rp z 7 R) (fun z => BO z (R 0) (R 1) (R 2) (κR R) (tb R) (fun a => decide (10 ≤ a)) ∧ Rp z 7 R) Hc
    ⟨o1, a3.fr (fun c j h1 h2 => by rw [c2 c j (by omega), b2 c j (by omega)])⟩
    (fun m z hz => ⟨z, by simp only [f_X2_load_l84]; rw [if_pos (by decide)], hz⟩)
    (fun m k z hk hz => by
      obtain ⟨z2, e1, e2⟩ := join7 ok hz.1 hk (by simp)
      refine Or.inr ⟨z2, ?_, ?_, hz.2.fr (fun c j h1 h2 => fr_X2_join e1 c j (by omega))⟩
      · simp only [f_X2_load_l84]
        rw [if_neg (show ¬ (10 : Int32) ≤ nI k from nI_ge (b := 10) hk (by omega)), e1, Option.bind_some, nI_1]
      · have : Lp (fun a => decide (k ≤ a)) k false = fun a => decide (k + 1 ≤ a) := by
          funext a
          unfold Lp
          by_cases h : a = k
          · rw [if_pos h]; simp; omega
          · rw [if_neg h]; simp; omega
        rw [this] at e2
        exact e2)
  refine ⟨Hd, ?_, ?_, d3⟩
  · unfold f_X2_load
    rw [a1, Option.bind_some, show f_X2_load_l7 fuel 0 Ha = some Hb from b1, Option.bind_some, show f_X2_load_l63 fuel 0 Hb = some Hc from c1, Option.bind_some, show f_X2_load_l84 fuel 0 Hc = some Hd from d1]; rfl
  · have em : mk (fun a => decide (10 ≤ a)) (tb R) = mk (fun a => decide (10 ≤ a)) (tb R) := rfl
    obtain ⟨x1, x2, x3⟩ := d2
    refine ⟨x1, fun a ha => ?_, fun p hp => ?_⟩
    · rw [x2 a ha]; simp [L0, show ¬ 10 ≤ a by omega]
    · have q : ∀ a, a < 10 → mk (fun a => decide (10 ≤ a)) (tb R) a = mk L0 (tb R) a := fun a ha => by funext p; simp [mk, L0, show ¬ 10 ≤ a by omega]
      have e1 : CO (mk (fun a => decide (10 ≤ a)) (tb R)) p = CO (mk L0 (tb R)) p := sm_congr (fun a ha => by rw [q a ha])
      have e2 : RS (mk (fun a => decide (10 ≤ a)) (tb R)) p = RS (mk L0 (tb R)) p := sm_congr (fun a ha => by rw [q a ha])
      have e3 : HD (mk (fun a => decide (10 ≤ a)) (tb R)) p = HD (mk L0 (tb R)) p := sm_congr (fun a ha => by rw [q a ha])
      have e4 : TM (R 2) (mk (fun a => decide (10 ≤ a)) (tb R)) p = TM (R 2) (mk L0 (tb R)) p := sm_congr (fun a ha => sm_congr (fun b hb => by unfold tm ov; rw [q a ha, q b hb]))
      rw [← e1, ← e2, ← e3, ← e4]
      exact x3 p hp
theorem claim7 {H : Hp} {n P e : Nat} {κ : Nat → Int32} {s : Nat → Nat → Nat} {L : Nat → Bool} (ok : Ok n e s) (hO : BO H n P e κ s L) {p : Nat} (hp : p < n) : f_X2_claimOf (nI p) H = some (nI (CL κ e (mk L s) p)) := by
  obtain ⟨hn, hB, he1, he2⟩ := ok
  have hB2 := mk_B hB L
  have b1 := TM_le (e := e) hB2 p
  have b2 := CO_le hB2 p
  have b3 := HD_le (mk L s) p
  have b4 := RS_le hB2 p
  have b5 := mul_lt' b4 b4
  obtain ⟨o1, o2, o3, o4, o5⟩ := hO.2.2 p hp
  have hp6 : p < 6 := by omega
  unfold f_X2_claimOf CL
  rw [ag_n hp6 (by omega), Option.bind_some, o1, ag_n hp6 (by omega), ag_n hp6 (by omega), ag_n hp6 (by omega), ag_n hp6 (by omega), o2, o3, o4, o5]
  simp only [Option.bind_some]
  by_cases k1 : κ p = 1
  · simp only [if_pos k1]
  by_cases k2 : κ p = 2
  · simp only [if_neg k1, if_pos k2]
    rw [pk_mul, show (10000 : Int32) = nI 10000 from rfl, pk_div (by omega) (by omega) (by omega)]
    have h4 : RS (mk L s) p * RS (mk L s) p / 10000 ≤ 200000 := by omega
    by_cases g : CO (mk L s) p < RS (mk L s) p * RS (mk L s) p / 10000
    · rw [pk_sub (by omega), if_pos (show (0 : Int32) < _ from nI_lt (a := 0) (by omega) (by omega))]
    · rw [show RS (mk L s) p * RS (mk L s) p / 10000 - CO (mk L s) p = 0 by omega]
      by_cases g2 : CO (mk L s) p = RS (mk L s) p * RS (mk L s) p / 10000
      · rw [g2, pk_sub (Nat.le_refl _), Nat.sub_self, if_neg (by decide)]; rfl
      · have hneg := pk_sneg (a := RS (mk L s) p * RS (mk L s) p / 10000) (b := CO (mk L s) p) (by omega) (by omega)
        rw [if_neg (Int32.not_lt.mpr (Int32.le_of_lt hneg))]; rfl
  by_cases k3 : κ p = 3
  · simp only [if_neg k1, if_neg k2, if_pos k3]
    rw [show (2 : Int32) = nI 2 from rfl, pk_div (by omega) (by omega) (by omega)]
  by_cases k4 : κ p = 4
  · simp only [if_neg k1, if_neg k2, if_neg k3, if_pos k4]
  simp only [if_neg k1, if_neg k2, if_neg k3, if_neg k4]
  rw [show (5 : Int32) = nI 5 from rfl, pk_mul]
  simp only [nI_lt' (show 5 * HD (mk L s) p < 2 ^ 31 by omega) (show CO (mk L s) p < 2 ^ 31 by omega)]
  by_cases g : 5 * HD (mk L s) p < CO (mk L s) p
  · rw [if_pos g, Nat.min_eq_right (by omega)]
  · rw [if_neg g, Nat.min_eq_left (by omega)]
theorem bs_part {n P : Nat} {c : Nat → Nat} (h : 0 < sm n c) {k : Nat} (hk : k ≤ n) : sm k (bs n P c) ≤ P := Nat.le_trans (by
  have : sm n (bs n P c) = sm n (fun p => (if p < k then bs n P c p else 0) + (if p < k then 0 else bs n P c p)) := sm_congr (fun p _ => by split <;> omega)
  rw [this, sm_add, sm_ext (m := k) (n := n) (f := fun p => if p < k then bs n P c p else 0) hk (fun p h1 _ => if_neg (by omega))]
  rw [sm_congr (n := k) (g := bs n P c) (fun p hp => if_pos hp)]
  omega) (bs_le n P c h)
theorem lf_z {c : Nat → Nat} {l k p : Nat} (hkp : k ≤ p) (h0 : lf c l k = 0) : lf c l p = 0 := by
  induction p with
  | zero => rw [show k = 0 by omega] at h0; exact h0
  | succ p ih =>
    by_cases h : k = p + 1
    · rw [← h]; exact h0
    · have := ih (by omega)
      simp only [lf, this]
      split <;> rfl
theorem share7 {H : Hp} {n P : Nat} {c : Nat → Nat} (hn : n ≤ 6) (hP : P ≤ 999) (h0 : H 38 10 = nI n) (h1 : H 38 13 = nI (sm n c)) (hb : ∀ p, p < n → c p ≤ 400000) (hc : ∀ p, p < n → H 47 p = nI (c p)) : ∃ H2, f_X2_share (nI P) H = some H2 ∧ (∀ p, p < n → H2 48 p = nI (PD n P c p)) ∧ H2 38 14 = nI (RE n P c) := by
  have hA : sm n c ≤ 6 * 400000 := Nat.le_trans (sm_le hb) (Nat.mul_le_mul_right _ hn)
  have hcp : ∀ p, p < n → c p * P ≤ 400000 * 999 := fun p hp => mul_lt' (hb p hp) hP
  unfold f_X2_share
  rw [h1]
  simp only [nI_lt' (show P < 2 ^ 31 by omega) (show sm n c < 2 ^ 31 by omega), pf_e, Option.bind_some]
  by_cases g : P < sm n c
  · rw [if_pos g]
    have gA : 0 < sm n c := by omega
    obtain ⟨⟨x, Ha⟩, a1, a2, a3, a4⟩ := up0 (fun m k (z : Int32 × Hp) => f_X2_share_l51 (nI P) m z.1 (nI k) z.2) n (by omega) (fun k z => (∀ q j, q ≠ 48 → z.2 q j = H q j) ∧ (∀ p, p < k → z.2 48 p = nI (bs n P c p)) ∧ z.1 = nI (P - sm k (bs n P c))) (fun z => (∀ q j, q ≠ 48 → z.2 q j = H q j) ∧ (∀ p, p < n → z.2 48 p = nI (bs n P c p)) ∧ z.1 = nI (lv n P c)) (nI P, H)
      ⟨fun q j _ => rfl, fun p hp => absurd hp (by omega), by rw [sm_0]; rfl⟩
      (fun m z hz => ⟨z, by
        simp only [f_X2_share_l51]
        rw [hz.1 38 10 (by omega), h0, if_pos (nI_le (Nat.le_refl _) (by omega))], hz⟩)
      (fun m k z hk hz => by
        have l1 := bs_part (P := P) gA (show k + 1 ≤ n from hk)
        have l2 := hcp k hk
        rw [sm_s] at l1
        refine Or.inr ⟨(nI (P - sm (k + 1) (bs n P c)), hset z.2 48 k (nI (bs n P c k))), ?_, fun q j h1 => ?_, fun p hp => ?_, rfl⟩
        · simp only [f_X2_share_l51]
          rw [hz.1 38 10 (by omega), h0, if_neg (nI_ge hk (by omega)), ag_n (by omega) (by omega), Option.bind_some, hz.1 47 k (by omega), hc k hk, hz.1 38 13 (by omega), h1, if_neg (nI_ne0 gA (by omega)), pk_mul, pk_div (Nat.lt_of_le_of_lt l2 (by decide)) gA (by omega), as_n (by omega) (by omega), Option.bind_some, ag_n (by omega) (by omega), Option.bind_some, hset_self, hz.2.2, show c k * P / sm n c = bs n P c k from rfl, pk_sub (by omega), nI_1, sm_s, show P - sm k (bs n P c) - bs n P c k = P - (sm k (bs n P c) + bs n P c k) by omega]
        · dsimp only
          rw [hset_c h1, hz.1 q j h1]
        · dsimp only
          rw [hset_if]
          by_cases hpk : p = k
          · rw [if_pos ⟨rfl, hpk⟩, hpk]
          · rw [if_neg (by omega), hz.2.1 p (by omega)])
    have lvl : lv n P c ≤ P := Nat.sub_le _ _
    have lfl : ∀ k, lf c (lv n P c) k ≤ P := fun k => by rw [lf_cn]; omega
    obtain ⟨Hb, b1, b2, b3⟩ := up0 (fun m k (z : Int32 × Hp) => f_X2_share_l95 m z.1 (nI k) z.2) n (by omega) (fun k z => (∀ q j, q ≠ 48 → z.2 q j = H q j) ∧ (∀ p, p < n → z.2 48 p = if p < k then nI (PD n P c p) else nI (bs n P c p)) ∧ z.1 = nI (lf c (lv n P c) k)) (fun z => (∀ q j, q ≠ 48 → z q j = H q j) ∧ ∀ p, p < n → z 48 p = nI (PD n P c p)) (x, Ha)
      ⟨a2, fun p hp => by rw [if_neg (by omega)]; exact a3 p hp, a4⟩
      (fun m z hz => ⟨z.2, by
        simp only [f_X2_share_l95]
        rw [hz.1 38 10 (by omega), h0, if_pos (nI_le (Nat.le_refl _) (by omega))], hz.1, fun p hp => by rw [hz.2.1 p hp, if_pos hp]⟩)
      (fun m k z hk hz => by
        have l1 := lfl k
        have bk := hb k hk
        have bb : bs n P c k ≤ 400000 * 999 := Nat.le_trans (Nat.div_le_self _ _) (hcp k hk)
        simp only [f_X2_share_l95]
        rw [hz.1 38 10 (by omega), h0, if_neg (nI_ge hk (by omega)), hz.2.2]
        by_cases gl : lf c (lv n P c) k = 0
        · refine Or.inl ⟨z.2, by rw [gl, if_pos (by decide)], hz.1, fun p hp => ?_⟩
          rw [hz.2.1 p hp]
          split
          · rfl
          · unfold PD
            rw [if_neg (by omega), if_neg (by rw [lf_z (show k ≤ p by omega) gl]; omega)]; rfl
        · rw [if_neg (nI_nle (by omega) (by omega)), ag_n (by omega) (by omega), Option.bind_some, hz.1 47 k (by omega), hc k hk, nI_1]
          by_cases gc : 0 < c k
          · rw [if_neg (nI_nle gc (by omega)), ag_n (by omega) (by omega), Option.bind_some, hz.2.1 k hk, if_neg (Nat.lt_irrefl k), as_n (by omega) (by omega), Option.bind_some, Option.bind_some]
            refine Or.inr ⟨(nI (lf c (lv n P c) (k + 1)), hset z.2 48 k (nI (bs n P c k) + 1)), ?_, fun q j h1 => ?_, fun p hp => ?_, rfl⟩
            · simp only [lf, if_pos gc]
              rw [show lf c (lv n P c) k = (lf c (lv n P c) k - 1) + 1 by omega, pk_m1, Nat.add_sub_cancel]
            · dsimp only
              rw [hset_c h1, hz.1 q j h1]
            · dsimp only
              rw [hset_if]
              by_cases hpk : p = k
              · subst hpk
                rw [if_pos ⟨rfl, rfl⟩, if_pos (Nat.lt_succ_self p)]
                unfold PD
                rw [if_neg (by omega), if_pos ⟨gc, by omega⟩, nI_1]
              · rw [if_neg (by omega), hz.2.1 p hp]
                by_cases h3 : p < k
                · rw [if_pos h3, if_pos (by omega)]
                · rw [if_neg h3, if_neg (by omega)]
          · rw [if_pos (show nI (c k) ≤ 0 by rw [show c k = 0 by omega]; decide), Option.bind_some]
            refine Or.inr ⟨(nI (lf c (lv n P c) (k + 1)), z.2), ?_, hz.1, fun p hp => ?_, rfl⟩
            · simp only [lf, if_neg gc]
            · rw [hz.2.1 p hp]
              by_cases hpk : p = k
              · subst hpk
                rw [if_neg (Nat.lt_irrefl p), if_pos (Nat.lt_succ_self p)]
                unfold PD
                rw [if_neg (by omega), if_neg (by omega)]; rfl
              · by_cases h3 : p < k
                · rw [if_pos h3, if_pos (by omega)]
                · rw [if_neg h3, if_neg (by omega)])
    rw [show f_X2_share_l51 (nI P) fuel (nI P) 0 H = some (x, Ha) from a1, Option.bind_some, show f_X2_share_l95 fuel x 0 Ha = some Hb from b1, Option.bind_some]
    refine ⟨_, rfl, fun p hp => ?_, ?_⟩
    · rw [hset_c (by omega), b3 p hp]
    · rw [hset_self]
      unfold RE
      rw [if_neg (by omega)]; rfl
  · rw [if_neg g]
    obtain ⟨Ha, a1, a2, a3⟩ := up0 (fun m k z => f_X2_share_l10 m (nI k) z) n (by omega) (fun k z => (∀ q j, q ≠ 48 → z q j = H q j) ∧ ∀ p, p < k → z 48 p = nI (c p)) (fun z => (∀ q j, q ≠ 48 → z q j = H q j) ∧ ∀ p, p < n → z 48 p = nI (c p)) H
      ⟨fun _ _ _ => rfl, fun p hp => absurd hp (by omega)⟩
      (fun m z hz => ⟨z, by simp only [f_X2_share_l10]; rw [hz.1 38 10 (by omega), h0, if_pos (nI_le (Nat.le_refl _) (by omega))], hz⟩)
      (fun m k z hk hz => Or.inr ⟨hset z 48 k (nI (c k)), by
        simp only [f_X2_share_l10]
        rw [hz.1 38 10 (by omega), h0, if_neg (nI_ge hk (by omega)), ag_n (by omega) (by omega), Option.bind_some, hz.1 47 k (by omega), hc k hk, as_n (by omega) (by omega), Option.bind_some, nI_1],
        fun q j h => by rw [hset_c h, hz.1 q j h],
        fun p hp => by
          rw [hset_if]
          by_cases hpk : p = k
          · rw [if_pos ⟨rfl, hpk⟩, hpk]
          · rw [if_neg (by omega), hz.2 p (by omega)]⟩)
    rw [show f_X2_share_l10 fuel 0 H = some Ha from a1, Option.bind_some]
    refine ⟨_, rfl, fun p hp => ?_, ?_⟩
    · rw [hset_c (by omega), a3 p hp]
      unfold PD
      rw [if_pos (by omega)]
    · rw [hset_self, a2 _ _ (by omega), h1, pk_sub (by omega)]
      unfold RE
      rw [if_pos (by omega)]
noncomputable def CB (κ : Nat → Int32) (e : Nat) (s : Nat → Nat → Nat) (L : Nat → Bool) : Nat → Nat := CL κ e (mk L s)
theorem settle7 {H : Hp} {n P e : Nat} {κ : Nat → Int32} {s : Nat → Nat → Nat} {L : Nat → Bool} (ok : Ok n e s) (hP : P ≤ 999) (hO : BO H n P e κ s L) : ∃ H2, f_X2_settle H = some H2 ∧ BO H2 n P e κ s L ∧ (∀ p, p < n → H2 47 p = nI (CB κ e s L p) ∧ H2 48 p = nI (PD n P (CB κ e s L) p)) ∧ H2 38 13 = nI (sm n (CB κ e s L)) ∧ H2 38 14 = nI (RE n P (CB κ e s L)) := by
  have hn := ok.1
  have hb : ∀ p, p < n → CB κ e s L p ≤ 400000 := fun p _ => CL_le (mk_B ok.2.1 L) κ p
  obtain ⟨Ha, a1, a2, a3, a4⟩ := up0 (fun m k z => f_X2_settle_l7 m (nI k) z) n (by omega) (fun k z => (∀ q j, q ≠ 47 → (q ≠ 38 ∨ j ≠ 13) → z q j = H q j) ∧ (∀ p, p < k → z 47 p = nI (CB κ e s L p)) ∧ z 38 13 = nI (sm k (CB κ e s L))) (fun z => (∀ q j, q ≠ 47 → (q ≠ 38 ∨ j ≠ 13) → z q j = H q j) ∧ (∀ p, p < n → z 47 p = nI (CB κ e s L p)) ∧ z 38 13 = nI (sm n (CB κ e s L))) (hset H 38 13 0)
    ⟨fun q j _ h => by rw [hset_if, if_neg (by omega)], fun p hp => absurd hp (by omega), by rw [hset_self, sm_0]; rfl⟩
    (fun m z hz => ⟨z, by simp only [f_X2_settle_l7]; rw [hz.1 38 10 (by omega) (by omega), hO.1.1, if_pos (nI_le (Nat.le_refl _) (by omega))], hz⟩)
    (fun m k z hk hz => Or.inr ⟨hset (hset z 47 k (nI (CB κ e s L k))) 38 13 (nI (sm (k + 1) (CB κ e s L))), by
      have hOz : BO z n P e κ s L := hO.fr (fun c j h => hz.1 c j (by omega) (by omega))
      simp only [f_X2_settle_l7]
      rw [hz.1 38 10 (by omega) (by omega), hO.1.1, if_neg (nI_ge hk (by omega)), claim7 ok hOz hk, Option.bind_some, as_n (by omega) (by omega), Option.bind_some, ag_n (by omega) (by omega), Option.bind_some]
      simp only [pf_e, Option.bind_some]
      rw [hset_self, hset_c (show 38 ≠ 47 by omega), hz.2.2, nI_add, nI_1, sm_s]
      rfl,
      fun q j h1 h2 => by rw [hset_if, if_neg (by omega), hset_c h1, hz.1 q j h1 h2],
      fun p hp => by
        rw [hset_c (by omega), hset_if]
        by_cases hpk : p = k
        · rw [if_pos ⟨rfl, hpk⟩, hpk]
        · rw [if_neg (by omega), hz.2.1 p (by omega)],
      hset_self⟩)
  obtain ⟨Hb, b1, b2, b3⟩ := share7 hn hP (by rw [a2 38 10 (by omega) (by omega), hO.1.1]) a4 hb a3
  have fr := fun c j hc => fr_X2_share b1 c j hc
  refine ⟨Hb, ?_, hO.fr (fun c j h => by rw [fr c j (by omega), a2 c j (by omega) (by omega)]), fun p hp => ⟨?_, b2 p hp⟩, ?_, b3⟩
  · simp only [f_X2_settle, pf_e, Option.bind_some]
    rw [show f_X2_settle_l7 fuel 0 (hset H 38 13 0) = some Ha from a1, Option.bind_some, a2 38 11 (by omega) (by omega), hO.1.2.1, b1]; rfl
  · rw [fr _ _ (by omega), a3 p hp]
  · rw [fr _ _ (by omega), a4]
theorem allp7 {H : Hp} {n : Nat} {c : Nat → Nat} (hn : n ≤ 6) (h0 : H 38 10 = nI n) (hc : ∀ p, p < n → H 48 p = nI (c p)) : f_X2_allPaid H = some (nI (sm n c)) := by
  unfold f_X2_allPaid
  rw [acc0 (f_X2_allPaid_l4 H) n (by omega) c
    (fun m z => by simp only [f_X2_allPaid_l4]; rw [h0, if_pos (nI_le (Nat.le_refl _) (by omega))])
    (fun m k hk => by
      simp only [f_X2_allPaid_l4]
      rw [h0, if_neg (nI_ge hk (by omega)), ag_n (by omega) (by omega), Option.bind_some, hc k hk, nI_add, nI_1, sm_s])]
  rfl
theorem givers7 {H : Hp} {n P e : Nat} {t : Nat → Nat → Nat} (hB : Bt n t) (hL : BL H n P e t) {p : Nat} (hp : p < 6) : f_X2_giversTo (nI p) H = some (nI (bsum 10 (fun g => decide (0 < t g p)))) := by
  unfold f_X2_giversTo
  rw [acc0 (f_X2_giversTo_l4 H (nI p)) 10 (by omega) (fun g => if decide (0 < t g p) = true then 2 ^ g else 0)
    (fun m z => by simp only [f_X2_giversTo_l4]; rw [if_pos (by decide)])
    (fun m k hk => by
      simp only [f_X2_giversTo_l4, f_X2_sumFrom]
      have hb := (hB k p).1
      rw [if_neg (show ¬ (10 : Int32) ≤ nI k from nI_ge (b := 10) hk (by omega)), x6, ag_n (by omega) (by omega), Option.bind_some, Option.bind_some, bl_i hL hk hp, nI_1]
      have e := bsum_or k (fun g => decide (0 < t g p))
      by_cases g : 0 < t k p
      · rw [if_neg (nI_nle g (by omega)), shl1 (by omega), orN]
        rw [if_pos (by simp [g])] at e
        exact congrArg (fun z => f_X2_giversTo_l4 H (nI p) m (nI z) (nI (k + 1))) e
      · rw [if_pos (show nI (t k p) ≤ 0 by rw [show t k p = 0 by omega]; decide)]
        rw [if_neg (by simp; omega), Nat.or_zero] at e
        exact congrArg (fun z => f_X2_giversTo_l4 H (nI p) m (nI z) (nI (k + 1))) e)]
  rfl
theorem PD_sum {n P : Nat} {c : Nat → Nat} : sm n (PD n P c) + RE n P c = P := by
  unfold RE
  by_cases g : sm n c ≤ P
  · rw [if_pos g, sm_congr (g := c) (fun p _ => by unfold PD; rw [if_pos g])]; omega
  · rw [if_neg g, sm_congr (g := fun p => bs n P c p + (if 0 < c p ∧ 0 < lf c (lv n P c) p then 1 else 0)) (fun p _ => by unfold PD; rw [if_neg g]), sm_add]
    have h1 : ∀ k l, sm k (fun p => if 0 < c p ∧ 0 < lf c l p then 1 else 0) + lf c l k = l := by
      intro k l
      induction k with
      | zero => rw [sm_0]; simp [lf]
      | succ k ih =>
        rw [sm_s]
        simp only [lf]
        by_cases h1 : 0 < c k
        · by_cases h2 : 0 < lf c l k
          · simp only [h1, h2, and_self, if_true]; omega
          · simp only [h1, h2, and_false, if_true, if_false]; omega
        · simp only [h1, false_and, if_false]; omega
    have h2 := h1 n (lv n P c)
    rw [lf_end n P c (by omega)] at h2
    have h3 := bs_le n P c (by omega)
    unfold lv at h2
    unfold lv
    omega
