/-! bits, and what the model reckons -/
theorem shk : ∀ k, k < 31 → ((nI k &&& 31).toBitVec.smod 32).toNat = k := by decide
theorem shl1 {k : Nat} (h : k < 31) : (1 : Int32) <<< (nI k &&& 31) = nI (2 ^ k) := by
  have h2 : 2 ^ k < 2 ^ 31 := Nat.pow_lt_pow_right (by omega) h
  have := pk_shlN (n := 1) (nI k &&& 31) k (shk k h) (by omega)
  rw [Nat.one_mul] at this
  exact this
theorem shrk {n k : Nat} (hn : n < 2 ^ 31) (h : k < 31) : nI n >>> (nI k &&& 31) = nI (n / 2 ^ k) := pk_shrN hn _ k (shk k h)
theorem and1 {n : Nat} (hn : n < 2 ^ 31) : nI n &&& 1 = nI (n % 2) := pk_andN (by omega) 1 (by decide)
theorem orN (a b : Nat) : nI a ||| nI b = nI (a ||| b) := by
  apply Int32.toBitVec_inj.mp
  show BitVec.ofNat 32 a ||| BitVec.ofNat 32 b = BitVec.ofNat 32 (a ||| b)
  apply BitVec.eq_of_toNat_eq
  simp [Nat.or_mod_two_pow]
noncomputable def bsum (n : Nat) (b : Nat → Bool) : Nat := sm n (fun g => if b g then 2 ^ g else 0)
theorem bsum_lt (n : Nat) (b : Nat → Bool) : bsum n b < 2 ^ n := by
  induction n with
  | zero => unfold bsum; rw [sm_0]; decide
  | succ n ih =>
    unfold bsum at ih ⊢
    rw [sm_s, Nat.pow_succ]
    split <;> omega
theorem bsum_s (n : Nat) (b : Nat → Bool) : bsum (n + 1) b = bsum n b + if b n then 2 ^ n else 0 := sm_s n _
theorem bsum_or (n : Nat) (b : Nat → Bool) : bsum n b ||| (if b n then 2 ^ n else 0) = bsum (n + 1) b := by
  rw [bsum_s]
  split
  · have := Nat.two_pow_add_eq_or_of_lt (bsum_lt n b) 1
    rw [Nat.mul_one] at this
    rw [Nat.or_comm, ← this]; omega
  · simp
theorem bsum_bit {n k : Nat} (b : Nat → Bool) (h : k < n) : bsum n b / 2 ^ k % 2 = if b k then 1 else 0 := by
  induction n with
  | zero => omega
  | succ n ih =>
    rw [bsum_s]
    by_cases hk : k = n
    · subst hk
      have h1 := bsum_lt k b
      have h2 := Nat.two_pow_pos k
      split
      · rw [Nat.add_div_right _ h2, Nat.div_eq_of_lt h1]
      · rw [Nat.add_zero, Nat.div_eq_of_lt h1]
    · have hkn : k < n := by omega
      rw [← ih hkn]
      split
      · have e : 2 ^ n = 2 ^ k * (2 * 2 ^ (n - k - 1)) := by
          rw [← Nat.mul_assoc, ← Nat.pow_succ, ← Nat.pow_add]
          congr 1
          omega
        rw [e, Nat.add_mul_div_left _ _ (Nat.two_pow_pos k)]
        omega
      · rfl
theorem hasN {S k : Nat} (hS : S < 2 ^ 31) (hk : k < 31) : f_X8_has (nI S) (nI k) = some (if S / 2 ^ k % 2 = 1 then 1 else 0) := by
  unfold f_X8_has
  have h1 : S / 2 ^ k < 2 ^ 31 := Nat.lt_of_le_of_lt (Nat.div_le_self _ _) hS
  rw [shrk hS hk, and1 h1]
  simp only [show (nI (S / 2 ^ k % 2) = (1 : Int32)) = (S / 2 ^ k % 2 = 1) from nI_eq' (b := 1) (by omega) (by omega)]
theorem acc0 (F : Nat → Int32 → Int32 → Option Int32) (e : Nat) (he : e < 5000) (f : Nat → Nat) (hx : ∀ m z, F (m + 1) z (nI e) = some z) (hs : ∀ m k, k < e → F (m + 1) (nI (sm k f)) (nI k) = F m (nI (sm (k + 1) f)) (nI (k + 1))) : F fuel 0 0 = some (nI (sm e f)) := by
  obtain ⟨v, e1, e2⟩ := up0 (fun m k z => F m z (nI k)) e he (fun k z => z = nI (sm k f)) (fun z => z = nI (sm e f)) 0 (by rw [sm_0]; rfl)
    (fun m z hz => ⟨z, hx m z, hz⟩)
    (fun m k z hk hz => Or.inr ⟨nI (sm (k + 1) f), by rw [hz]; exact hs m k hk, rfl⟩)
  rw [← e2]; exact e1
theorem sums8 {H : Hp} {t : Nat → Nat → Nat} (hM : ML H t) {p : Nat} (hp : p < 6) : f_X8_sumsOf (nI p) H = some (nI (CO t p)) := by
  unfold f_X8_sumsOf
  rw [acc0 (f_X8_sumsOf_l4 H (nI p)) 10 (by omega) (fun a => t a p)
    (fun m z => by simp only [f_X8_sumsOf_l4]; rw [if_pos (by decide)])
    (fun m k hk => by
      simp only [f_X8_sumsOf_l4]
      rw [if_neg (show ¬ (10 : Int32) ≤ nI k from nI_ge (b := 10) hk (by omega)), y6, ag_n (by omega) (by omega), Option.bind_some, (hM.1 k p hk hp).1, nI_add, nI_1, sm_s])]
  rfl
theorem givers8 {H : Hp} {n : Nat} {t : Nat → Nat → Nat} (hB : Bt n t) (hM : ML H t) {p : Nat} (hp : p < 6) : f_X8_giversOf (nI p) H = some (nI (bsum 10 (fun g => decide (0 < t g p)))) := by
  unfold f_X8_giversOf
  rw [acc0 (f_X8_giversOf_l4 H (nI p)) 10 (by omega) (fun g => if decide (0 < t g p) = true then 2 ^ g else 0)
    (fun m z => by simp only [f_X8_giversOf_l4]; rw [if_pos (by decide)])
    (fun m k hk => by
      simp only [f_X8_giversOf_l4]
      have hb := (hB k p).1
      rw [if_neg (show ¬ (10 : Int32) ≤ nI k from nI_ge (b := 10) hk (by omega)), y6, ag_n (by omega) (by omega), Option.bind_some, (hM.1 k p hk hp).1, nI_1]
      have e := bsum_or k (fun g => decide (0 < t g p))
      by_cases g : 0 < t k p
      · rw [if_neg (nI_nle g (by omega)), shl1 (by omega), orN]
        rw [if_pos (by simp [g])] at e
        exact congrArg (fun z => f_X8_giversOf_l4 H (nI p) m (nI z) (nI (k + 1))) e
      · rw [if_pos (show nI (t k p) ≤ 0 by rw [show t k p = 0 by omega]; decide), show (0 : Int32) = nI 0 from rfl, orN]
        rw [if_neg (by simp; omega)] at e
        exact congrArg (fun z => f_X8_giversOf_l4 H (nI p) m (nI z) (nI (k + 1))) e)]
  rfl
theorem bits8 (b : Nat → Bool) : f_X8_bits (nI (bsum 10 b)) = some (nI (sm 10 (fun g => if b g then 1 else 0))) := by
  unfold f_X8_bits
  have hl := bsum_lt 10 b
  rw [acc0 (f_X8_bits_l4 (nI (bsum 10 b))) 10 (by omega) (fun g => if b g then 1 else 0)
    (fun m z => by simp only [f_X8_bits_l4]; rw [if_pos (by decide)])
    (fun m k hk => by
      simp only [f_X8_bits_l4]
      have h1 : bsum 10 b / 2 ^ k ≤ bsum 10 b := Nat.div_le_self _ _
      rw [if_neg (show ¬ (10 : Int32) ≤ nI k from nI_ge (b := 10) hk (by omega)), shrk (by omega) (by omega), and1 (by omega), bsum_bit b hk, nI_add, nI_1, sm_s])]
  rfl
theorem tmI {e o x y : Nat} (he : 1 ≤ e) (he2 : e ≤ 99) (ho : o ≤ 12000) (hx : x ≤ 4449) (hy : y ≤ 4449) : ((((2 * (nI x).toInt64) * (nI y).toInt64) * (nI e).toInt64) / (10000 * (nI e + nI o).toInt64)).toInt32 = nI (2 * (x * y) * e / (10000 * (e + o))) ∧ ¬ (10000 * (nI e + nI o).toInt64) = 0 := by
  have h1 : x * y ≤ 4449 * 4449 := mul_lt' hx hy
  have h2 : 2 * (x * y) * e ≤ (2 * (4449 * 4449)) * 99 := mul_lt' (by omega) he2
  have h3 : 10000 * (e + o) < 2 ^ 63 := by omega
  rw [nI_add, nI_l (by omega), nI_l (by omega), nI_l (by omega), nI_l (by omega), show (2 : Int64) = lN 2 from rfl, show (10000 : Int64) = lN 10000 from rfl, lN_mul, lN_mul, lN_mul, lN_mul]
  refine ⟨?_, ?_⟩
  · rw [Nat.mul_assoc 2 x y, pk_lDiv (Nat.lt_of_le_of_lt h2 (by decide)) (by omega) h3, lN_i]
  · rw [show (0 : Int64) = lN 0 from rfl, pk_lEQ h3 (by omega)]
    omega
theorem term8 {H : Hp} {n e r : Nat} {t : Nat → Nat → Nat} (hB : Bt n t) (hM : ML H t) (he : H r 2 = nI e) (h1 : 1 ≤ e) (h2 : e ≤ 99) {a b p : Nat} (ha : a < 10) (hb : b < 10) (hp : p < 6) : f_X8_termOf r (nI a) (nI b) (nI p) H = some (nI (tm e t a b p)) := by
  unfold f_X8_termOf
  have k := tmI h1 h2 (ov_le2 hB a b) (rt_fact (hB a p).1).2.1 (rt_fact (hB b p).1).2.1
  rw [y6, y6, y10, ag_n (by omega) (by omega), Option.bind_some, ag_n (by omega) (by omega), Option.bind_some, show (2 : Int32) = nI 2 from rfl, ag_n (by omega) (by omega), Option.bind_some, Option.bind_some, ag_n (by omega) (by omega), Option.bind_some, (hM.1 a p ha hp).2, (hM.1 b p hb hp).2, he, hM.2 a b ha hb, if_neg k.2, k.1]
  rfl
theorem open8 {H : Hp} {n e r : Nat} {t : Nat → Nat → Nat} (hB : Bt n t) (hM : ML H t) (he : H r 2 = nI e) (h1 : 1 ≤ e) (h2 : e ≤ 99) {p : Nat} (hp : p < 6) : f_X8_openClaim r (nI p) H = some (nI (TM e t p)) := by
  have inner : ∀ a z, a < 10 → f_X8_openClaim_l18 r H (nI p) (nI a) fuel (nI z) (nI (a + 1)) = some (nI (z + sm 10 (fun b => if a < b then tm e t a b p else 0))) := by
    intro a z ha
    obtain ⟨v, e1, e2⟩ := upx (fun m k z => f_X8_openClaim_l18 r H (nI p) (nI a) m z (nI k)) 10 (fun k w => a < k ∧ w = nI (z + sm k (fun b => if a < b then tm e t a b p else 0))) (fun w => w = nI (z + sm 10 (fun b => if a < b then tm e t a b p else 0)))
      (fun m w hw => ⟨w, by simp only [f_X8_openClaim_l18]; rw [if_pos (by decide)], hw.2⟩)
      (fun m k w hk hw => Or.inr ⟨nI (z + sm (k + 1) (fun b => if a < b then tm e t a b p else 0)), by
        obtain ⟨hak, hw⟩ := hw
        simp only [f_X8_openClaim_l18]
        have ba := (hB a p).1
        have bk := (hB k p).1
        rw [if_neg (show ¬ (10 : Int32) ≤ nI k from nI_ge (b := 10) hk (by omega)), y6, ag_n (by omega) (by omega), Option.bind_some, (hM.1 a p ha hp).1, y6, nI_1, sm_s, if_pos hak, hw]
        by_cases g1 : t a p = 0
        · rw [g1, if_pos (by decide), Option.bind_some, tm_z (by rw [g1, rt_0, Nat.zero_mul]), show (0 : Int32) = nI 0 from rfl, nI_add, Nat.add_assoc]
        rw [if_neg (nI_nle (by omega) (by omega)), ag_n (by omega) (by omega), Option.bind_some, (hM.1 k p hk hp).1]
        by_cases g2 : t k p = 0
        · rw [g2, if_pos (by decide), Option.bind_some, tm_z (by rw [g2, rt_0, Nat.mul_zero]), show (0 : Int32) = nI 0 from rfl, nI_add, Nat.add_assoc]
        rw [if_neg (nI_nle (by omega) (by omega)), term8 hB hM he h1 h2 ha hk hp, Option.bind_some, Option.bind_some, nI_add, Nat.add_assoc]        , by omega, rfl⟩) (10 - (a + 1)) fuel (a + 1) (nI z) (by omega) (by unfold fuel; omega) (by
          refine ⟨by omega, ?_⟩
          rw [sm_z (fun k hk => if_neg (by omega))]; rfl)
    rw [← e2]; exact e1
  unfold f_X8_openClaim
  rw [acc0 (f_X8_openClaim_l5 r H (nI p)) 10 (by omega) (fun a => sm 10 (fun b => if a < b then tm e t a b p else 0))
    (fun m z => by simp only [f_X8_openClaim_l5]; rw [if_pos (by decide)])
    (fun m k hk => by
      simp only [f_X8_openClaim_l5]
      rw [if_neg (show ¬ (10 : Int32) ≤ nI k from nI_ge (b := 10) hk (by omega)), nI_1, inner k _ hk, Option.bind_some, sm_s k])]
  rfl
theorem square8 {H : Hp} {n : Nat} {t : Nat → Nat → Nat} (hB : Bt n t) (hM : ML H t) {p : Nat} (hp : p < 6) : f_X8_squareClaim (nI p) H = some (nI (RS t p * RS t p / 10000 - CO t p)) := by
  have l1 : f_X8_squareClaim_l5 H (nI p) fuel 0 0 = some (lN (RS t p)) := by
    obtain ⟨v, e1, e2⟩ := up0 (fun m k z => f_X8_squareClaim_l5 H (nI p) m z (nI k)) 10 (by omega) (fun k z => z = lN (sm k (fun a => rt (t a p)))) (fun z => z = lN (sm 10 (fun a => rt (t a p)))) 0 (by rw [sm_0]; rfl)
      (fun m z hz => ⟨z, by simp only [f_X8_squareClaim_l5]; rw [if_pos (by decide)], hz⟩)
      (fun m k z hk hz => Or.inr ⟨lN (sm (k + 1) (fun a => rt (t a p))), by
        simp only [f_X8_squareClaim_l5]
        have := (rt_fact (hB k p).1).2.1
        rw [if_neg (show ¬ (10 : Int32) ≤ nI k from nI_ge (b := 10) hk (by omega)), y6, ag_n (by omega) (by omega), Option.bind_some, (hM.1 k p hk hp).2, nI_l (by omega), hz, lN_add, nI_1, sm_s], rfl⟩)
    unfold RS
    rw [← e2]; exact e1
  unfold f_X8_squareClaim
  have h1 := RS_le hB p
  have h2 := mul_lt' h1 h1
  have h3 := CO_le hB p
  have h4 : RS t p * RS t p / 10000 ≤ 200000 := by omega
  rw [l1, Option.bind_some, sums8 hM hp, Option.bind_some, lN_mul, show (10000 : Int64) = lN 10000 from rfl, pk_lDiv (by omega) (by omega) (by omega), lN_i]
  by_cases g : CO t p ≤ RS t p * RS t p / 10000
  · rw [pk_sub g, if_pos (nI_pos' (by omega))]
  · have hneg := pk_sneg (a := RS t p * RS t p / 10000) (b := CO t p) (by omega) (by omega)
    rw [if_neg (Int32.not_le.mpr hneg), show RS t p * RS t p / 10000 - CO t p = 0 by omega]
    rfl
theorem claim8 {H : Hp} {n e r : Nat} {t : Nat → Nat → Nat} {κ : Nat → Int32} (hB : Bt n t) (hM : ML H t) (he : H r 2 = nI e) (h1 : 1 ≤ e) (h2 : e ≤ 99) {p : Nat} (hp : p < 6) (hκ : H r (4 + p) = κ p) : f_X8_claimOf r (nI p) H = some (nI (CL κ e t p)) := by
  have b1 := TM_le (e := e) hB p
  have b2 := CO_le hB p
  have b3 := HD_le t p
  unfold f_X8_claimOf CL
  rw [givers8 hB hM hp, Option.bind_some, bits8, Option.bind_some, z4, ag_n (by omega) (by omega), Option.bind_some, hκ, open8 hB hM he h1 h2 hp, square8 hB hM hp, sums8 hM hp]
  simp only [Option.bind_some]
  by_cases k1 : κ p = 1
  · simp only [if_pos k1]
  by_cases k2 : κ p = 2
  · simp only [if_neg k1, if_pos k2]
  by_cases k3 : κ p = 3
  · simp only [if_neg k1, if_neg k2, if_pos k3]
    rw [show (2 : Int32) = nI 2 from rfl, pk_div (by omega) (by omega) (by omega)]
  by_cases k4 : κ p = 4
  · simp only [if_neg k1, if_neg k2, if_neg k3, if_pos k4]
  simp only [if_neg k1, if_neg k2, if_neg k3, if_neg k4]
  have e5 : sm 10 (fun g => if decide (0 < t g p) = true then 1 else 0) = HD t p := by
    unfold HD
    exact sm_congr (fun g _ => by simp)
  rw [e5, show (5 : Int32) = nI 5 from rfl, pk_mul]
  simp only [nI_le' (show 5 * HD t p < 2 ^ 31 by omega) (show CO t p < 2 ^ 31 by omega)]
  by_cases g : 5 * HD t p ≤ CO t p
  · rw [if_pos g, Option.bind_some, Nat.min_eq_right g]
  · rw [if_neg g, Option.bind_some, Nat.min_eq_left (by omega)]
theorem togeth8 {H : Hp} {n r : Nat} {c : Nat → Nat} (hn : n ≤ 6) (h0 : H r 0 = nI n) (hc : ∀ p, p < n → H 72 p = nI (c p)) : f_X8_claimsTogether r H = some (nI (sm n c)) := by
  unfold f_X8_claimsTogether
  rw [acc0 (f_X8_claimsTogether_l4 r H) n (by omega) c
    (fun m z => by
      simp only [f_X8_claimsTogether_l4]
      rw [show (0 : Int32) = nI 0 from rfl, ag_n (by omega) (by omega), Option.bind_some, h0, if_pos (nI_le (Nat.le_refl _) (by omega))])
    (fun m k hk => by
      simp only [f_X8_claimsTogether_l4]
      rw [show (0 : Int32) = nI 0 from rfl, ag_n (by omega) (by omega), Option.bind_some, h0, if_neg (nI_ge hk (by omega)), ag_n (by omega) (by omega), Option.bind_some, hc k hk, nI_add, nI_1, sm_s])]
  rfl
/-- what pay leaves: 73 and the rest -/
theorem pay8 {H : Hp} {n P r : Nat} {c : Nat → Nat} (hr : r < 69) (hr2 : r ≠ 60) (hn : n ≤ 6) (hP : P ≤ 999) (h0 : H r 0 = nI n) (h1 : H r 1 = nI P) (hb : ∀ p, p < n → c p ≤ 400000) (hc : ∀ p, p < n → H 72 p = nI (c p)) : ∃ H2, f_X8_pay r H = some H2 ∧ (∀ k j, k ≠ 73 → (k ≠ 60 ∨ j ≠ 24) → H2 k j = H k j) ∧ (∀ p, p < n → H2 73 p = nI (PD n P c p)) ∧ H2 60 24 = nI (RE n P c) := by
  have hA : sm n c ≤ 6 * 400000 := Nat.le_trans (sm_le hb) (Nat.mul_le_mul_right _ hn)
  have hcp : ∀ p, p < n → c p * P ≤ 400000 * 999 := fun p hp => mul_lt' (hb p hp) hP
  unfold f_X8_pay
  rw [togeth8 hn h0 hc, Option.bind_some, show (1 : Int32) = nI 1 from rfl, ag_n (by omega) (by omega), Option.bind_some, h1]
  simp only [pf_e, Option.bind_some]
  by_cases g : sm n c ≤ P
  · obtain ⟨Ha, a1, a2, a3, a4⟩ := up0 (fun m k z => f_X8_pay_l15 r (nI (sm n c)) m (nI k) z) n (by omega) (fun k z => (∀ q j, q ≠ 73 → (q ≠ 60 ∨ j ≠ 24) → z q j = H q j) ∧ (∀ p, p < k → z 73 p = nI (c p)) ∧ z 60 24 = nI (P - sm k c)) (fun z => (∀ q j, q ≠ 73 → (q ≠ 60 ∨ j ≠ 24) → z q j = H q j) ∧ (∀ p, p < n → z 73 p = nI (c p)) ∧ z 60 24 = nI (P - sm n c)) (hset H 60 24 (nI P))
      ⟨fun q j _ h => by rw [hset_if, if_neg (by omega)], fun p hp => absurd hp (by omega), by rw [hset_self, sm_0]; rfl⟩
      (fun m z hz => ⟨z, by
        simp only [f_X8_pay_l15]
        rw [show (0 : Int32) = nI 0 from rfl, ag_n (by omega) (by omega), Option.bind_some, hz.1 r 0 (by omega) (by omega), h0, if_pos (nI_le (Nat.le_refl _) (by omega))], hz⟩)
      (fun m k z hk hz => by
        have l1 : sm (k + 1) c ≤ sm n c := by
          have : sm n c = sm n (fun p => (if p < k + 1 then c p else 0) + (if p < k + 1 then 0 else c p)) := sm_congr (fun p _ => by split <;> omega)
          rw [this, sm_add, sm_ext (m := k + 1) (n := n) (f := fun p => if p < k + 1 then c p else 0) (by omega) (fun p h1 _ => if_neg (by omega))]
          rw [sm_congr (n := k + 1) (g := c) (fun p hp => if_pos hp)]
          omega
        rw [sm_s] at l1
        refine Or.inr ⟨hset (hset z 73 k (nI (c k))) 60 24 (nI (P - sm (k + 1) c)), ?_, fun q j h1 h2 => ?_, fun p hp => ?_, hset_self⟩
        · simp only [f_X8_pay_l15]
          rw [show (0 : Int32) = nI 0 from rfl, ag_n (by omega) (by omega), Option.bind_some, hz.1 r 0 (by omega) (by omega), h0, if_neg (nI_ge hk (by omega)), show (1 : Int32) = nI 1 from rfl, ag_n (by omega) (by omega), Option.bind_some, hz.1 r 1 (by omega) (by omega), h1, if_neg (nI_nlt g (by omega)), ag_n (by omega) (by omega), Option.bind_some, hz.1 72 k (by omega) (by omega), hc k hk, Option.bind_some, as_n (by omega) (by omega), Option.bind_some, ag_n (by omega) (by omega), Option.bind_some]
          simp only [pf_e, Option.bind_some]
          rw [hset_self, hset_c (show 60 ≠ 73 by omega), hz.2.2, pk_sub (by omega), nI_add, sm_s, show P - sm k c - c k = P - (sm k c + c k) by omega]
        · rw [hset_if, if_neg (by omega), hset_if, if_neg (by omega), hz.1 q j h1 h2]
        · rw [hset_c (show 73 ≠ 60 by omega), hset_if]
          by_cases hpk : p = k
          · rw [if_pos ⟨rfl, hpk⟩, hpk]
          · rw [if_neg (by omega), hz.2.1 p (by omega)])
    refine ⟨Ha, ?_, a2, fun p hp => ?_, ?_⟩
    · rw [show f_X8_pay_l15 r (nI (sm n c)) fuel 0 (hset H 60 24 (nI P)) = some Ha from a1, Option.bind_some]
      have : f_X8_pay_l83 r (nI (sm n c)) fuel 0 Ha = some Ha := by
        obtain ⟨fq, hfq⟩ : ∃ q, fuel = q + 1 := ⟨4999, rfl⟩
        rw [hfq]
        simp only [f_X8_pay_l83]
        rw [show (0 : Int32) = nI 0 from rfl, ag_n (by omega) (by omega), Option.bind_some, a2 r 0 (by omega) (by omega), h0]
        by_cases gn : n = 0
        · rw [gn, if_pos (by decide)]
        · rw [if_neg (nI_ge (by omega) (by omega)), show (1 : Int32) = nI 1 from rfl, ag_n (by omega) (by omega), Option.bind_some, a2 r 1 (by omega) (by omega), h1, if_pos (nI_le g (by omega))]
      rw [this]; rfl
    · unfold PD; rw [if_pos g]; exact a3 p hp
    · unfold RE; rw [if_pos g]; exact a4
  · have gA : 0 < sm n c := by omega
    have bsl : ∀ k, k ≤ n → sm k (bs n P c) ≤ P := fun k hk => Nat.le_trans (by
      have : sm n (bs n P c) = sm n (fun p => (if p < k then bs n P c p else 0) + (if p < k then 0 else bs n P c p)) := sm_congr (fun p _ => by split <;> omega)
      rw [this, sm_add, sm_ext (m := k) (n := n) (f := fun p => if p < k then bs n P c p else 0) (by omega) (fun p h1 _ => if_neg (by omega))]
      rw [sm_congr (n := k) (g := bs n P c) (fun p hp => if_pos hp)]
      omega) (bs_le n P c gA)
    obtain ⟨Ha, a1, a2, a3, a4⟩ := up0 (fun m k z => f_X8_pay_l15 r (nI (sm n c)) m (nI k) z) n (by omega) (fun k z => (∀ q j, q ≠ 73 → (q ≠ 60 ∨ j ≠ 24) → z q j = H q j) ∧ (∀ p, p < k → z 73 p = nI (bs n P c p)) ∧ z 60 24 = nI (P - sm k (bs n P c))) (fun z => (∀ q j, q ≠ 73 → (q ≠ 60 ∨ j ≠ 24) → z q j = H q j) ∧ (∀ p, p < n → z 73 p = nI (bs n P c p)) ∧ z 60 24 = nI (lv n P c)) (hset H 60 24 (nI P))
      ⟨fun q j _ h => by rw [hset_if, if_neg (by omega)], fun p hp => absurd hp (by omega), by rw [hset_self, sm_0]; rfl⟩
      (fun m z hz => ⟨z, by
        simp only [f_X8_pay_l15]
        rw [show (0 : Int32) = nI 0 from rfl, ag_n (by omega) (by omega), Option.bind_some, hz.1 r 0 (by omega) (by omega), h0, if_pos (nI_le (Nat.le_refl _) (by omega))], hz⟩)
      (fun m k z hk hz => by
        have l1 := bsl (k + 1) hk
        have l2 := hcp k hk
        rw [sm_s] at l1
        refine Or.inr ⟨hset (hset z 73 k (nI (bs n P c k))) 60 24 (nI (P - sm (k + 1) (bs n P c))), ?_, fun q j h1 h2 => ?_, fun p hp => ?_, hset_self⟩
        · simp only [f_X8_pay_l15]
          have bk := hb k hk
          rw [show (0 : Int32) = nI 0 from rfl, ag_n (by omega) (by omega), Option.bind_some, hz.1 r 0 (by omega) (by omega), h0, if_neg (nI_ge hk (by omega)), show (1 : Int32) = nI 1 from rfl, ag_n (by omega) (by omega), Option.bind_some, hz.1 r 1 (by omega) (by omega), h1, if_pos (nI_lt (by omega) (by omega)), ag_n (by omega) (by omega), Option.bind_some, hz.1 72 k (by omega) (by omega), hc k hk, Option.bind_some, nI_l (by omega), nI_l (by omega), nI_l (by omega), if_neg (by rw [show (0 : Int64) = lN 0 from rfl, pk_lEQ (by omega) (by omega)]; omega), lN_mul, pk_lDiv (Nat.lt_of_le_of_lt l2 (by decide)) gA (by omega), lN_i, Option.bind_some, as_n (by omega) (by omega), Option.bind_some, ag_n (by omega) (by omega), Option.bind_some]
          simp only [pf_e, Option.bind_some]
          rw [hset_self, hset_c (show 60 ≠ 73 by omega), hz.2.2]
          rw [show c k * P / sm n c = bs n P c k from rfl, pk_sub (by omega), nI_add, sm_s, show P - sm k (bs n P c) - bs n P c k = P - (sm k (bs n P c) + bs n P c k) by omega]
        · rw [hset_if, if_neg (by omega), hset_if, if_neg (by omega), hz.1 q j h1 h2]
        · rw [hset_c (show 73 ≠ 60 by omega), hset_if]
          by_cases hpk : p = k
          · rw [if_pos ⟨rfl, hpk⟩, hpk]
          · rw [if_neg (by omega), hz.2.1 p (by omega)])
    have lvl : lv n P c ≤ P := Nat.sub_le _ _
    have lfl : ∀ k, lf c (lv n P c) k ≤ P := fun k => by rw [lf_cn]; omega
    have lfz : ∀ k p, k ≤ p → lf c (lv n P c) k = 0 → lf c (lv n P c) p = 0 := by
      intro k p hkp h0
      rw [lf_cn] at h0 ⊢
      have : cn k c ≤ cn p c := by
        unfold cn
        have : sm p (fun p => if 0 < c p then 1 else 0) = sm p (fun q => (if q < k then (if 0 < c q then 1 else 0) else 0) + (if q < k then 0 else (if 0 < c q then 1 else 0))) := sm_congr (fun q _ => by by_cases hq : q < k <;> simp [hq])
        rw [this, sm_add, sm_ext (m := k) (n := p) (f := fun q => if q < k then (if 0 < c q then 1 else 0) else 0) hkp (fun q h1 _ => if_neg (by omega))]
        rw [sm_congr (n := k) (g := fun q => if 0 < c q then 1 else 0) (fun q hq => if_pos hq)]
        omega
      omega
    obtain ⟨Hb, b1, b2, b3, b4⟩ := up0 (fun m k z => f_X8_pay_l83 r (nI (sm n c)) m (nI k) z) n (by omega) (fun k z => (∀ q j, q ≠ 73 → (q ≠ 60 ∨ j ≠ 24) → z q j = H q j) ∧ (∀ p, p < n → z 73 p = if p < k then nI (PD n P c p) else nI (bs n P c p)) ∧ z 60 24 = nI (lf c (lv n P c) k)) (fun z => (∀ q j, q ≠ 73 → (q ≠ 60 ∨ j ≠ 24) → z q j = H q j) ∧ (∀ p, p < n → z 73 p = nI (PD n P c p)) ∧ z 60 24 = nI (lf c (lv n P c) n)) Ha
      ⟨a2, fun p hp => by rw [if_neg (by omega), a3 p hp], a4⟩
      (fun m z hz => ⟨z, by
        simp only [f_X8_pay_l83]
        rw [show (0 : Int32) = nI 0 from rfl, ag_n (by omega) (by omega), Option.bind_some, hz.1 r 0 (by omega) (by omega), h0, if_pos (nI_le (Nat.le_refl _) (by omega))], hz.1, fun p hp => by rw [hz.2.1 p hp, if_pos hp], hz.2.2⟩)
      (fun m k z hk hz => by
        have l1 := lfl k
        have bk := hb k hk
        have bb : bs n P c k ≤ 400000 * 999 := Nat.le_trans (Nat.div_le_self _ _) (hcp k hk)
        have start : f_X8_pay_l83 r (nI (sm n c)) (m + 1) (nI k) z = if nI (lf c (lv n P c) k) ≤ 0 then some z else f_X8_pay_l83 r (nI (sm n c)) m (nI (k + 1)) (hset (hset z 73 k (nI (bs n P c k) + (if nI (c k) ≤ 0 then 0 else 1))) 60 24 (nI (lf c (lv n P c) k) - (if nI (c k) ≤ 0 then 0 else 1))) := by
          simp only [f_X8_pay_l83]
          rw [show (0 : Int32) = nI 0 from rfl, ag_n (by omega) (by omega), Option.bind_some, hz.1 r 0 (by omega) (by omega), h0, if_neg (nI_ge hk (by omega)), show (1 : Int32) = nI 1 from rfl, ag_n (by omega) (by omega), Option.bind_some, hz.1 r 1 (by omega) (by omega), h1, if_neg (nI_ge (by omega) (by omega)), hz.2.2, ag_n (by omega) (by omega), Option.bind_some, ag_n (by omega) (by omega), Option.bind_some, as_n (by omega) (by omega), Option.bind_some, ag_n (by omega) (by omega), Option.bind_some]
          simp only [pf_e, Option.bind_some]
          rw [hset_c (show 60 ≠ 73 by omega), hz.2.2, hset_c (show 72 ≠ 73 by omega), hz.1 72 k (by omega) (by omega), hc k hk, hz.2.1 k hk, if_neg (Nat.lt_irrefl k), nI_add]
        rw [start]
        by_cases gl : lf c (lv n P c) k = 0
        · refine Or.inl ⟨z, by rw [gl, if_pos (by decide)], hz.1, fun p hp => ?_, ?_⟩
          · rw [hz.2.1 p hp]
            split
            · rfl
            · unfold PD
              rw [if_neg g, if_neg (by rw [lfz k p (by omega) gl]; omega)]; rfl
          · rw [hz.2.2, gl, lfz k n (by omega) gl]
        · rw [if_neg (nI_nle (by omega) (by omega))]
          refine Or.inr ⟨_, rfl, fun q j h1 h2 => ?_, fun p hp => ?_, ?_⟩
          · rw [hset_if, if_neg (by omega), hset_if, if_neg (by omega), hz.1 q j h1 h2]
          · rw [hset_c (show 73 ≠ 60 by omega), hset_if]
            by_cases hpk : p = k
            · subst hpk
              rw [if_pos ⟨rfl, rfl⟩, if_pos (Nat.lt_succ_self p)]
              unfold PD
              rw [if_neg g]
              by_cases gc : 0 < c p
              · rw [if_neg (nI_nle gc (by omega)), if_pos ⟨gc, by omega⟩, nI_1]
              · rw [if_pos (show nI (c p) ≤ 0 by rw [show c p = 0 by omega]; decide), if_neg (by omega)]
                exact nI_add _ 0
            · rw [if_neg (by omega), hz.2.1 p hp]
              by_cases h3 : p < k
              · rw [if_pos h3, if_pos (by omega)]
              · rw [if_neg h3, if_neg (by omega)]
          · rw [hset_self]
            simp only [lf]
            by_cases gc : 0 < c k
            · rw [if_neg (nI_nle gc (by omega)), if_pos gc]
              exact pk_sub (b := 1) (by omega)
            · rw [if_pos (show nI (c k) ≤ 0 by rw [show c k = 0 by omega]; decide), if_neg gc]
              exact pk_sub (b := 0) (by omega))
    refine ⟨Hb, ?_, b2, b3, ?_⟩
    · rw [show f_X8_pay_l15 r (nI (sm n c)) fuel 0 (hset H 60 24 (nI P)) = some Ha from a1, Option.bind_some, show f_X8_pay_l83 r (nI (sm n c)) fuel 0 Ha = some Hb from b1]; rfl
    · unfold RE; rw [if_neg g, b4, lf_end n P c (by omega)]
noncomputable def CR (R : Nat → Nat) : Nat → Nat := CL (fun p => nI (R (4 + p))) (R 2) (tb R)
theorem reckon8 {H : Hp} {R : Nat → Nat} {r : Nat} (hr : r < 69) (hr2 : r ≠ 60) (hR : Rw R) (hn : 0 < R 0) (hP : Hr H r R) : ∃ H2, f_X8_reckon r H = some H2 ∧ (∀ k j, (k < 69 ∨ 73 < k) → (k ≠ 60 ∨ j ≠ 24) → H2 k j = H k j) ∧ ML H2 (tb R) ∧ (∀ p, p < R 0 → H2 72 p = nI (CR R p) ∧ H2 73 p = nI (PD (R 0) (R 1) (CR R) p)) ∧ H2 60 24 = nI (RE (R 0) (R 1) (CR R)) := by
  obtain ⟨Ha, a1, a2, a3⟩ := look8 hr hR hP
  have hB := tb_B hR
  obtain ⟨r0, r1, r2, r3, -⟩ := hR
  have hr2' := r3 hn
  obtain ⟨Hb, b1, b2, b3⟩ := up0 (fun m k z => f_X8_reckon_l7 r m (nI k) z) (R 0) (by omega) (fun k z => (∀ q j, q ≠ 72 → z q j = Ha q j) ∧ ∀ p, p < k → z 72 p = nI (CR R p)) (fun z => (∀ q j, q ≠ 72 → z q j = Ha q j) ∧ ∀ p, p < R 0 → z 72 p = nI (CR R p)) Ha
    ⟨fun _ _ _ => rfl, fun p hp => absurd hp (by omega)⟩
    (fun m z hz => ⟨z, by
      simp only [f_X8_reckon_l7]
      rw [show (0 : Int32) = nI 0 from rfl, ag_n (by omega) (by omega), Option.bind_some, hz.1 r 0 (by omega), a2 r 0 (by omega) (by omega) (by omega), hP 0 (by omega), if_pos (nI_le (Nat.le_refl _) (by omega))], hz⟩)
    (fun m k z hk hz => Or.inr ⟨hset z 72 k (nI (CR R k)), by
      have er : ∀ i, i < 80 → z r i = nI (R i) := fun i hi => by rw [hz.1 r i (by omega), a2 r i (by omega) (by omega) (by omega), hP i hi]
      have hM : ML z (tb R) := ⟨fun x p hx hp => by rw [hz.1 _ _ (by omega), hz.1 _ _ (by omega)]; exact a3.1 x p hx hp, fun a b ha hb => by rw [hz.1 _ _ (by omega)]; exact a3.2 a b ha hb⟩
      simp only [f_X8_reckon_l7]
      rw [show (0 : Int32) = nI 0 from rfl, ag_n (by omega) (by omega), Option.bind_some, er 0 (by omega), if_neg (nI_ge hk (by omega)), claim8 (κ := fun p => nI (R (4 + p))) hB hM (er 2 (by omega)) hr2' r2 (by omega) (er _ (by omega)), Option.bind_some, as_n (by omega) (by omega), Option.bind_some, nI_1]
      rfl,
      fun q j h1 => by rw [hset_if, if_neg (by omega), hz.1 q j h1],
      fun p hp => by
        rw [hset_if]
        by_cases hpk : p = k
        · rw [if_pos ⟨rfl, hpk⟩, hpk]
        · rw [if_neg (by omega), hz.2 p (by omega)]⟩)
  have er : ∀ i, i < 80 → Hb r i = nI (R i) := fun i hi => by rw [b2 r i (by omega), a2 r i (by omega) (by omega) (by omega), hP i hi]
  obtain ⟨Hc, c1, c2, c3, c4⟩ := pay8 hr hr2 r0 r1 (er 0 (by omega)) (er 1 (by omega)) (fun p _ => CL_le hB _ p) b3
  refine ⟨Hc, ?_, fun k j h1 h2 => by rw [c2 k j (by omega) h2, b2 k j (by omega), a2 k j (by omega) (by omega) (by omega)], ⟨fun x p hx hp => ?_, fun a b ha hb => ?_⟩, fun p hp => ⟨?_, c3 p hp⟩, c4⟩
  · unfold f_X8_reckon
    rw [a1, Option.bind_some, show f_X8_reckon_l7 r fuel 0 Ha = some Hb from b1, Option.bind_some, c1]; rfl
  · rw [c2 _ _ (by omega) (by omega), b2 _ _ (by omega), c2 _ _ (by omega) (by omega), b2 _ _ (by omega)]
    exact a3.1 x p hx hp
  · rw [c2 _ _ (by omega) (by omega), b2 _ _ (by omega)]
    exact a3.2 a b ha hb
  · rw [c2 _ _ (by omega) (by omega), b3 p hp]
