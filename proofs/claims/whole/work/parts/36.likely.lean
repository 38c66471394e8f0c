/-! likely: the model -/
theorem chance7 {H : Hp} {R : Nat → Nat} {L : Nat → Bool} (hR : Rw R) (h0 : 0 < R 0) (hO : BO H (R 0) (R 1) (R 2) (κR R) (tb R) L) : f_X3_chance_l27 H fuel 1 0 = some (lN (BW (gs R) 0 10)) := by
  have ok := okR hR h0
  obtain ⟨v, e1, a, e2, e3⟩ := up0 (fun m k z => f_X3_chance_l27 H m z (nI k)) 10 (by omega) (fun k z => ∃ a, z = lN a ∧ a * BW (gs R) k (10 - k) = BW (gs R) 0 10) (fun z => ∃ a, z = lN a ∧ a * BW (gs R) 10 0 = BW (gs R) 0 10) 1 ⟨1, rfl, Nat.one_mul _⟩
    (fun m z hz => ⟨z, by simp only [f_X3_chance_l27]; rw [if_pos (by decide)], hz⟩)
    (fun m k z hk hz => by
      obtain ⟨a, z1, z2⟩ := hz
      refine Or.inr ⟨lN (a * if gs R k then 10 else 1), ?_, _, rfl, ?_⟩
      · simp only [f_X3_chance_l27]
        rw [if_neg (show ¬ (10 : Int32) ≤ nI k from nI_ge (b := 10) hk (by omega)), gives7 ok.1 ok.2.1 hO.1 hk, Option.bind_some, z1, nI_1]
        unfold gs
        by_cases g : 0 < sm 6 (tb R k)
        · simp only [g, if_true, decide_true]
          rw [if_neg (by decide), show (10 : Int64) = lN 10 from rfl, lN_mul]
        · simp only [g, if_false, decide_false]
          rw [if_pos trivial, show (1 : Int64) = lN 1 from rfl, lN_mul]; rfl
      · rw [← z2, show 10 - k = (10 - (k + 1)) + 1 by omega]
        simp only [BW]
        rw [Nat.mul_assoc])
  rw [show f_X3_chance_l27 H fuel 1 0 = some v from e1, e2]
  congr 2
  simpa [BW] using e3
def fac (gv : Bool) (p b : Nat) : Nat := if gv then (if b = 1 then p else 10 - p) else 1
def WF (gs : Nat → Bool) (p : Nat) : Nat → Nat → Nat → Nat
  | _, 0, _ => 1
  | g, d + 1, u => fac (gs g) p (u % 2) * WF gs p (g + 1) d (u / 2)
/-- a set within all -/
def Sub (gs : Nat → Bool) (S : Nat) : Prop := ∀ i, i < 10 → S / 2 ^ i % 2 = 1 → gs i = true
theorem WG_sub (gs : Nat → Bool) (p : Nat) : ∀ (d g u : Nat), (∀ i, i < d → u / 2 ^ i % 2 = 1 → gs (g + i) = true) → WG gs p g d u = WF gs p g d u := by
  intro d
  induction d with
  | zero => intro g u _; rfl
  | succ d ih =>
    intro g u h
    simp only [WG, WF]
    rw [ih (g + 1) (u / 2) (fun i hi hb => by
      have := h (i + 1) (by omega) (by rw [Nat.pow_succ, Nat.mul_comm, ← Nat.div_div_eq_div_mul]; exact hb)
      rw [show g + 1 + i = g + (i + 1) by omega]; exact this)]
    congr 1
    unfold wq fac
    by_cases hg : gs g = true
    · rw [if_pos hg, if_pos hg]
    · rw [if_neg hg, if_neg hg, if_neg]
      intro hb
      exact hg (by have := h 0 (by omega) (by simpa using hb); simpa using this)
theorem WG_no (gs : Nat → Bool) (p : Nat) : ∀ (d g u i : Nat), i < d → u / 2 ^ i % 2 = 1 → gs (g + i) = false → WG gs p g d u = 0 := by
  intro d
  induction d with
  | zero => intro g u i hi; omega
  | succ d ih =>
    intro g u i hi hb hg
    simp only [WG]
    by_cases i0 : i = 0
    · subst i0
      have e : gs g = false := by simpa using hg
      have b : u % 2 = 1 := by simpa using hb
      rw [e, b]
      simp [wq]
    · rw [ih (g + 1) (u / 2) (i - 1) (by omega) (by
        have e : 2 ^ i = 2 * 2 ^ (i - 1) := by rw [← Nat.pow_succ']; congr 1; omega
        rw [Nat.div_div_eq_div_mul, ← e]; exact hb) (by rw [show g + 1 + (i - 1) = g + i by omega]; exact hg), Nat.mul_zero]
theorem ways8 (gs : Nat → Bool) {p S : Nat} (hp : p ≤ 10) (hS : S < 2 ^ 31) : f_X8_likely_l94 (nI p) (nI (bsum 10 gs)) (nI S) fuel 1 0 = some (lN (WF gs p 0 10 S)) := by
  obtain ⟨v, e1, a, e2, e3⟩ := up0 (fun m k z => f_X8_likely_l94 (nI p) (nI (bsum 10 gs)) (nI S) m z (nI k)) 10 (by omega) (fun k z => ∃ a, z = lN a ∧ a * WF gs p k (10 - k) (S / 2 ^ k) = WF gs p 0 10 S) (fun z => ∃ a, z = lN a ∧ a * WF gs p 10 0 (S / 2 ^ 10) = WF gs p 0 10 S) 1 ⟨1, rfl, by rw [Nat.one_mul, Nat.pow_zero, Nat.div_one]⟩
    (fun m z hz => ⟨z, by simp only [f_X8_likely_l94]; rw [if_pos (by decide)], hz⟩)
    (fun m k z hk hz => by
      obtain ⟨a, z1, z2⟩ := hz
      refine Or.inr ⟨lN (a * fac (gs k) p (S / 2 ^ k % 2)), ?_, _, rfl, ?_⟩
      · simp only [f_X8_likely_l94]
        rw [if_neg (show ¬ (10 : Int32) ≤ nI k from nI_ge (b := 10) hk (by omega)), hasB gs (by omega) hk, Option.bind_some, hasN hS (by omega), z1, nI_1]
        unfold fac
        by_cases g : gs k = true
        · rw [if_pos g, if_pos g, if_neg (by decide), Option.bind_some]
          by_cases b : S / 2 ^ k % 2 = 1
          · rw [if_pos b, if_pos b, if_neg (by decide), Option.bind_some, nI_l (by omega), lN_mul]
          · rw [if_neg b, if_neg b, if_pos rfl, Option.bind_some, nI_l (by omega), show (10 : Int64) = lN 10 from rfl, lN_sub hp, lN_mul]
        · rw [if_neg g, if_neg g, if_pos rfl, Option.bind_some, show (1 : Int64) = lN 1 from rfl, lN_mul]
      · rw [← z2, show 10 - k = (10 - (k + 1)) + 1 by omega]
        simp only [WF]
        rw [Nat.mul_assoc, Nat.div_div_eq_div_mul, ← Nat.pow_succ])
  rw [show f_X8_likely_l94 (nI p) (nI (bsum 10 gs)) (nI S) fuel 1 0 = some v from e1, e2]
  congr 2
  simpa [WF] using e3
theorem sub8 (gs : Nat → Bool) {S : Nat} (hS : S < 2 ^ 10) : ((nI S &&& (nI (bsum 10 gs) ^^^ (-1))) = 0) = Sub gs S := by
  have hA := bsum_lt 10 gs
  have key : (nI S &&& (nI (bsum 10 gs) ^^^ (-1))) = nI (S &&& (bsum 10 gs ^^^ (2 ^ 32 - 1))) := by
    apply Int32.toBitVec_inj.mp
    show BitVec.ofNat 32 S &&& (BitVec.ofNat 32 (bsum 10 gs) ^^^ (-1 : Int32).toBitVec) = BitVec.ofNat 32 _
    apply BitVec.eq_of_toNat_eq
    rw [BitVec.toNat_and, BitVec.toNat_xor, BitVec.toNat_ofNat, BitVec.toNat_ofNat, BitVec.toNat_ofNat, show (-1 : Int32).toBitVec.toNat = 2 ^ 32 - 1 by decide, Nat.mod_eq_of_lt (by omega), Nat.mod_eq_of_lt (by omega), Nat.mod_eq_of_lt (Nat.lt_of_le_of_lt Nat.and_le_left (by omega))]
  have lt : S &&& (bsum 10 gs ^^^ (2 ^ 32 - 1)) < 2 ^ 31 := Nat.lt_of_le_of_lt Nat.and_le_left (by omega)
  rw [key, show ((nI (S &&& (bsum 10 gs ^^^ (2 ^ 32 - 1))) = 0) = (S &&& (bsum 10 gs ^^^ (2 ^ 32 - 1)) = 0)) from nI_eq' (b := 0) lt (by omega)]
  apply propext
  have tb : ∀ i, (S &&& (bsum 10 gs ^^^ (2 ^ 32 - 1))).testBit i = (S.testBit i && (((decide (i < 10) && gs i)) ^^ decide (i < 32))) := fun i => by
    rw [Nat.testBit_and, Nat.testBit_xor, tb_bsum, Nat.testBit_two_pow_sub_one]
  constructor
  · intro h i hi hb
    have := tb i
    rw [h, Nat.zero_testBit, Nat.testBit_eq_decide_div_mod_eq, hb] at this
    simp [hi, show i < 32 by omega] at this
    exact this
  · intro h
    apply Nat.eq_of_testBit_eq
    intro i
    rw [tb i, Nat.zero_testBit]
    by_cases hi : i < 10
    · by_cases hb : S / 2 ^ i % 2 = 1
      · simp [hi, h i hi hb, show i < 32 by omega]
      · rw [Nat.testBit_eq_decide_div_mod_eq]
        simp [hb]
    · rw [Nat.testBit_lt_two_pow (Nat.lt_of_lt_of_le hS (Nat.pow_le_pow_right (by omega) (by omega)))]
      rfl
