/-! ROWS: promises 2 to 5, and what is found -/
def Jrows (H : Hp) : Prop := ∀ r, r < 8 → H 2 r = H 61 r ∧ H 3 r = H 62 r ∧ (H 2 r = -1 ∨ ∃ l, l ≤ 2 ∧ H 2 r = nI l) ∧ ∃ n, n ≤ 40 ∧ H 3 r = nI n ∧ ∀ k, k < n → H 4 (40 * r + k) = H 63 (40 * r + k)
def Jst (H : Hp) : Prop := H 0 9 = H 60 18 ∧ H 0 10 = H 60 1
def dRows (c k : Nat) : Prop := c = 2 ∨ c = 3 ∨ c = 4 ∨ c = 61 ∨ c = 62 ∨ c = 63
theorem Jrows.fr {H H2 : Hp} (h : Jrows H) (f : ∀ c k, dRows c k → H2 c k = H c k) : Jrows H2 := by
  intro r hr
  obtain ⟨h1, h2, h3, n, hn, h4, h5⟩ := h r hr
  have e : ∀ c k, dRows c k → H2 c k = H c k := f
  refine ⟨?_, ?_, ?_, n, hn, ?_, ?_⟩
  · rw [e 2 r (by simp [dRows]), e 61 r (by simp [dRows]), h1]
  · rw [e 3 r (by simp [dRows]), e 62 r (by simp [dRows]), h2]
  · rw [e 2 r (by simp [dRows])]; exact h3
  · rw [e 3 r (by simp [dRows])]; exact h4
  · intro k hk
    rw [e 4 _ (by simp [dRows]), e 63 _ (by simp [dRows]), h5 k hk]
theorem unm (x : Int32) (H : Hp) : f_X7_unmarred x H = some (x, hset H 0 10 0) := rfl
theorem fnd (x : Int32) (H : Hp) : f_X7_found x H = some (-1000010 - x, hset H 0 10 x) := rfl
theorem fnd8 (x : Int32) (H : Hp) : f_X8_finding x H = some (-1000010 - x, hset H 60 1 x) := rfl
theorem pf_e (H : Hp) (c k : Nat) (x : Int32) : pf H c k x = some (hset H c k x) := rfl
theorem lane_neg {x : Int32} (h : x = -1 ∨ ∃ l, l ≤ 2 ∧ x = nI l) : (x < 0) = (x = -1) := by
  rcases h with rfl | ⟨l, hl, rfl⟩
  · simp
  · apply propext
    constructor
    · intro z; exact absurd z (nI_pos (by omega))
    · intro z; exfalso
      have : (nI l).toInt = (-1 : Int32).toInt := by rw [z]
      rw [nI_toInt (by omega)] at this
      have e : (-1 : Int32).toInt = -1 := by decide
      omega
theorem not_lane {x : Int32} (h : x = -1 ∨ ∃ l, l ≤ 2 ∧ x = nI l) : (0 ≤ x) = ¬ (x = -1) := by
  rw [← lane_neg h, ← Int32.not_lt]
theorem Jrows.hs {H : Hp} (h : Jrows H) (c0 k0 : Nat) (x : Int32) (hc : c0 = 0 ∨ c0 = 60 := by decide) : Jrows (hset H c0 k0 x) := h.fr (fun c k hd => hset_at (by rcases hd with z | z | z | z | z | z <;> rcases hc with q | q <;> omega))
set_option maxRecDepth 4000 in
theorem q_row {H : Hp} (hR : Jrows H) (hS : Jst H) (x1 x2 x3 : Int32) : ∃ (r : Int32) (H1 H2 : Hp), f_X7_row x1 x2 x3 H = some (r, H1) ∧ f_X8_row x1 x2 x3 H1 = some (r, H2) ∧ Jrows H2 ∧ Jst H2 := by
  simp only [f_X7_row, f_X8_row, isRow7, isRow8, in_0_2, within_eq, Option.bind_some, bz, pf_e, unm, fnd, fnd8]
  by_cases g1 : x1 < 0 ∨ 7 < x1
  · simp only [if_pos g1]
    exact ⟨_, _, _, rfl, rfl, hR.hs 60 0 0, hS⟩
  simp only [if_neg g1]
  by_cases g2 : x2 < 0 ∨ 2 < x2
  · simp only [if_pos g2]
    exact ⟨_, _, _, rfl, rfl, hR.hs 60 0 0, hS⟩
  simp only [if_neg g2]
  by_cases g3 : ¬ x3 ≤ 40
  · simp only [if_neg g3]
    exact ⟨_, _, _, rfl, rfl, hR.hs 60 0 0, hS⟩
  have g3 := Decidable.not_not.mp g3
  simp only [if_pos g3]
  by_cases g4 : ¬ 0 ≤ x3
  · simp only [if_neg g4]
    exact ⟨_, _, _, rfl, rfl, (((hR.hs 0 10 4).hs 60 0 0).hs 60 1 0).hs 60 1 4, hS.1, rfl⟩
  have g4 := Decidable.not_not.mp g4
  simp only [if_pos g4]
  obtain ⟨r, -, hr, rfl⟩ := i_rng x1 0 7 (by omega) (by omega) g1
  obtain ⟨l, -, hl, rfl⟩ := i_rng x2 0 2 (by omega) (by omega) g2
  obtain ⟨n, -, hn, rfl⟩ := i_rng x3 0 40 (by omega) (by omega) (by
    intro z
    rcases z with z | z
    · exact absurd g4 (Int32.not_le.mpr z)
    · exact absurd g3 (Int32.not_le.mpr z))
  simp only [f_X5_lay, as_n (show r < 8 by omega) (show 8 ≤ 2000 by omega), Option.bind_some, lay_l17 (show r < 8 by omega) hn, row_l65 (show r < 8 by omega)]
  refine ⟨_, _, _, rfl, rfl, ?_, ?_⟩
  · intro q hq
    obtain ⟨h1, h2, h3, n0, hn0, h4, h5⟩ := hR q hq
    by_cases hqr : q = r
    · subst hqr
      refine ⟨?_, ?_, Or.inr ⟨l, hl, ?_⟩, n, hn, ?_, fun k hk => ?_⟩
      · simp [hset_if, fillH]
      · simp [hset_if, fillH]
      · simp [hset_if, fillH]
      · simp [hset_if, fillH]
      · simp [hset_if, fillH, hk]; omega
    · refine ⟨?_, ?_, ?_, n0, hn0, ?_, fun k hk => ?_⟩
      · simp [hset_if, fillH, hqr, h1]
      · simp [hset_if, fillH, hqr, h2]
      · simp [hset_if, fillH, hqr, h3]
      · simp [hset_if, fillH, hqr, h4]
      · simp [hset_if, fillH]
        rw [if_neg (by omega), if_neg (by omega), h5 k hk]
  · exact ⟨by simp [hset_if, fillH]; exact hS.1, by simp [hset_if, fillH]⟩

theorem hasP {H : Hp} {r n : Nat} (hr : r < 8) (hn : n ≤ 40) (h : H 3 r = nI n) (x m : Int32) : f_X5_hasPlaces (nI r) x m H = some (if x < 0 ∨ m < 0 ∨ nI n - m < x then 0 else 1) := by
  unfold f_X5_hasPlaces
  rw [ag_n hr (by omega), h]
  by_cases g1 : x < 0
  · simp [g1, zr]
  by_cases g2 : m < 0
  · simp [g1, g2, zr]
  by_cases g3 : nI n - m < x
  · simp [g1, g2, g3, zr]
  · simp [g1, g2, g3, zr]
theorem miss {H : Hp} {r : Nat} (hr : r < 8) : f_X5_isMissing (nI r) H = some (if H 2 r = -1 then 1 else 0) := by
  unfold f_X5_isMissing
  rw [ag_n hr (by omega), Option.bind_some]
theorem q_drop {H : Hp} (hR : Jrows H) (hS : Jst H) (x1 : Int32) : ∃ (r : Int32) (H1 H2 : Hp), f_X7_drop x1 H = some (r, H1) ∧ f_X8_drop x1 H1 = some (r, H2) ∧ Jrows H2 ∧ Jst H2 := by
  simp only [f_X7_drop, f_X8_drop, isRow7, isRow8, within_eq, Option.bind_some, bz, pf_e, unm, fnd, fnd8]
  by_cases g1 : x1 < 0 ∨ 7 < x1
  · simp only [if_pos g1]
    exact ⟨_, _, _, rfl, rfl, hR.hs 60 0 0, hS⟩
  simp only [if_neg g1]
  obtain ⟨r, -, hr, rfl⟩ := i_rng x1 0 7 (by omega) (by omega) g1
  have hr : r < 8 := by omega
  obtain ⟨h1, h2, h3, n0, hn0, h4, h5⟩ := hR r hr
  simp only [miss hr, Option.bind_some, bo, f_X5_lose, as_n hr (show 8 ≤ 2000 by omega), ag_n hr (show 8 ≤ 2000 by omega)]
  by_cases g2 : H 2 r = -1
  · refine ⟨_, _, _, by rw [if_neg (by simp [g2])], by rw [if_neg (by simp [hset_if, ← h1, g2])], (((hR.hs 0 10 1).hs 60 0 0).hs 60 1 0).hs 60 1 1, hS.1, rfl⟩
  · refine ⟨_, _, hset (hset (hset (hset (hset H 2 r (-1)) 0 10 0) 60 0 0) 60 1 0) 61 r (-1), by rw [if_pos g2], ?_, ?_, ?_⟩
    · rw [if_pos (by simp [hset_if, ← h1, not_lane h3, g2])]
      simp [hset_if, h2]
    · intro q hq
      obtain ⟨a1, a2, a3, n1, hn1, a4, a5⟩ := hR q hq
      by_cases hqr : q = r
      · subst hqr
        exact ⟨by simp [hset_if], by simp [hset_if, a2], Or.inl (by simp [hset_if]), n1, hn1, by simp [hset_if, a4], fun k hk => by simp [hset_if, a5 k hk]⟩
      · exact ⟨by simp [hset_if, hqr, a1], by simp [hset_if, a2], by simp [hset_if, hqr, a3], n1, hn1, by simp [hset_if, a4], fun k hk => by simp [hset_if, a5 k hk]⟩
    · exact ⟨by simp [hset_if]; exact hS.1, by simp [hset_if]⟩
theorem q_set {H : Hp} (hR : Jrows H) (hS : Jst H) (x1 x2 x3 : Int32) : ∃ (r : Int32) (H1 H2 : Hp), f_X7_set x1 x2 x3 H = some (r, H1) ∧ f_X8_set x1 x2 x3 H1 = some (r, H2) ∧ Jrows H2 ∧ Jst H2 := by
  simp only [f_X7_set, f_X8_set, isRow7, isRow8, within_eq, Option.bind_some, bz, pf_e, unm, fnd, fnd8]
  by_cases g1 : x1 < 0 ∨ 7 < x1
  · simp only [if_pos g1]
    exact ⟨_, _, _, rfl, rfl, hR.hs 60 0 0, hS⟩
  simp only [if_neg g1]
  obtain ⟨r, -, hr, rfl⟩ := i_rng x1 0 7 (by omega) (by omega) g1
  have hr : r < 8 := by omega
  obtain ⟨h1, h2, h3, n0, hn0, h4, h5⟩ := hR r hr
  simp only [miss hr, Option.bind_some, bo, hasP hr hn0 h4, bz, f_X5_store, as_n hr (show 8 ≤ 2000 by omega), ag_n hr (show 8 ≤ 2000 by omega), in0, within_eq]
  by_cases g2 : H 2 r = -1
  · refine ⟨_, _, _, by rw [if_neg (by simp [g2])], by rw [if_neg (by simp [hset_if, ← h1, g2])], (((hR.hs 0 10 1).hs 60 0 0).hs 60 1 0).hs 60 1 1, hS.1, rfl⟩
  have e61 : ∀ G : Hp, G 61 r = H 61 r → (0 ≤ G 61 r) := fun G hG => by rw [hG, ← h1, not_lane h3]; exact g2
  simp only [if_pos g2]
  have hn : (x2 < 0 ∨ (1 : Int32) < 0 ∨ nI n0 - 1 < x2) = (x2 < 0 ∨ nI n0 - 1 < x2) := by simp
  by_cases g3 : x2 < 0 ∨ nI n0 - 1 < x2
  · refine ⟨_, _, _, by rw [if_pos (by rw [hn]; exact g3)], ?_, (((hR.hs 0 10 2).hs 60 0 0).hs 60 1 0).hs 60 1 2, hS.1, rfl⟩
    rw [if_pos (e61 _ (by simp [hset_if]))]
    simp only [hset_if, ← h2, h4]
    simp [g3]
  obtain ⟨i, -, hi, rfl⟩ : ∃ i, 0 ≤ i ∧ i + 1 ≤ n0 ∧ x2 = nI i := by
    have e : nI n0 - 1 = nI n0 - nI 1 := rfl
    by_cases hz : n0 = 0
    · subst hz
      exfalso
      refine g3 ?_
      by_cases h0 : x2 < 0
      · exact Or.inl h0
      · refine Or.inr ?_
        rw [Int32.lt_iff_toInt_lt] at h0 ⊢
        have e1 : (nI 0 - 1).toInt = -1 := by decide
        have e2 : (0 : Int32).toInt = 0 := by decide
        omega
    · rw [e, pk_sub (by omega)] at g3
      obtain ⟨i, h0, h1, h2⟩ := i_rng x2 0 (n0 - 1) (by omega) (by omega) g3
      exact ⟨i, h0, by omega, h2⟩
  simp only [hn, if_neg g3, x40, y40, as_n (show 40 * r + i < 320 by omega) (show 320 ≤ 2000 by omega), ag_n (show 40 * r + i < 320 by omega) (show 320 ≤ 2000 by omega), Option.bind_some]
  generalize hw : (if H 2 r = 0 then some x3.toInt8.toInt32 else if H 2 r = 1 then some x3.toInt16.toInt32 else some x3) = w
  obtain ⟨v, rfl⟩ : ∃ v, w = some v := by
    rw [← hw]; split
    · exact ⟨_, rfl⟩
    · split <;> exact ⟨_, rfl⟩
  refine ⟨v, hset (hset H 4 (40 * r + i) v) 0 10 0, hset (hset (hset (hset (hset H 4 (40 * r + i) v) 0 10 0) 60 0 0) 60 1 0) 63 (40 * r + i) v, rfl, ?_, ?_, ?_⟩
  · rw [if_pos (e61 _ (by simp [hset_if]))]
    simp only [hset_if, ← h1, ← h2, h4]
    simp [g3, hw]
  · intro q hq
    obtain ⟨a1, a2, a3, n1, hn1, a4, a5⟩ := hR q hq
    refine ⟨by simp [hset_if, a1], by simp [hset_if, a2], by simp [hset_if, a3], n1, hn1, by simp [hset_if, a4], fun k hk => ?_⟩
    simp only [hset_if]
    by_cases hk2 : 40 * q + k = 40 * r + i
    · simp [hk2]
    · simp [hk2, a5 k hk]
  · exact ⟨by simp [hset_if]; exact hS.1, by simp [hset_if]⟩
theorem cpyX {r s i j n k : Nat} (x : Int32) : ((nI r * 40) + nI i) = nI (40 * r + i) := x40 r i
theorem up_l143 {a i b j n na nb : Nat} (ha : a < 8) (hb : b < 8) (hi : i + n ≤ na) (hna : na ≤ 40) (hj : j + n ≤ nb) (hnb : nb ≤ 40) (hij : j ≤ i) (H : Hp) : f_X8_copy_l143 (nI a) (nI i) (nI b) (nI j) (nI n) 1 fuel 0 H = some (fillH H 63 (40 * b + j) n (fun t => H 63 (40 * a + i + t))) := by
  refine fill_loop (fun m k h => f_X8_copy_l143 (nI a) (nI i) (nI b) (nI j) (nI n) 1 m (nI k) h) 63 (40 * b + j) n _ H (by omega) (fun m => ?_) (fun m k hk => ?_)
  · simp only [f_X8_copy_l143, nI_le' (show n < 2 ^ 31 by omega) (show n < 2 ^ 31 by omega), Nat.le_refl, if_true]
  · simp only [f_X8_copy_l143, nI_le' (show n < 2 ^ 31 by omega) (show k < 2 ^ 31 by omega), if_neg (show ¬ n ≤ k by omega), y40, nI_add, if_neg (show ¬ (1 : Int32) = 0 by decide), ag_n (show 40 * a + i + k < 320 by omega) (by omega), as_n (show 40 * b + j + k < 320 by omega) (by omega), Option.bind_some, nI_1]
    rw [fill_s]
    by_cases hab : a = b
    · subst hab
      rw [fill_out (by omega)]
    · rw [fill_out (by omega)]
theorem dn_l143 {a i b j n na nb : Nat} (ha : a < 8) (hb : b < 8) (hi : i + n ≤ na) (hna : na ≤ 40) (hj : j + n ≤ nb) (hnb : nb ≤ 40) (hij : i < j) (H : Hp) : f_X8_copy_l143 (nI a) (nI i) (nI b) (nI j) (nI n) 0 fuel 0 H = some (fillH H 63 (40 * b + j) n (fun t => H 63 (40 * a + i + t))) := by
  have hstep : ∀ m k, k < n → f_X8_copy_l143 (nI a) (nI i) (nI b) (nI j) (nI n) 0 (m + 1) (nI k) (fillH H 63 (40 * b + j + (n - k)) k (fun t => H 63 (40 * a + i + (n - k) + t))) = f_X8_copy_l143 (nI a) (nI i) (nI b) (nI j) (nI n) 0 m (nI (k + 1)) (fillH H 63 (40 * b + j + (n - (k + 1))) (k + 1) (fun t => H 63 (40 * a + i + (n - (k + 1)) + t))) := by
    intro m k hk
    have e1 : (nI n - 1) - nI k = nI (n - 1 - k) := by
      rw [show (nI n - 1 : Int32) = nI n - nI 1 from rfl, pk_sub (by omega), pk_sub (by omega)]
    simp only [f_X8_copy_l143, nI_le' (show n < 2 ^ 31 by omega) (show k < 2 ^ 31 by omega), if_neg (show ¬ n ≤ k by omega), y40, if_true, e1, nI_add, ag_n (show 40 * a + i + (n - 1 - k) < 320 by omega) (by omega), as_n (show 40 * b + j + (n - 1 - k) < 320 by omega) (by omega), Option.bind_some, nI_1]
    congr 1
    funext c2 p
    rw [hset_if]
    unfold fillH
    by_cases hc : c2 = 63
    · subst hc
      by_cases hp : p = 40 * b + j + (n - 1 - k)
      · subst hp
        simp only [true_and]
        rw [if_pos trivial, if_neg (by omega), if_pos (by omega)]
        exact congrArg (H 63) (by omega)
      · rw [if_neg (by simp [hp])]
        by_cases hq : 40 * b + j + (n - k) ≤ p ∧ p < 40 * b + j + (n - k) + k
        · rw [if_pos ⟨rfl, hq⟩, if_pos (by omega)]
          exact congrArg (H 63) (by omega)
        · rw [if_neg (by omega), if_neg (by omega)]
    · rw [if_neg (by omega), if_neg (by omega), if_neg (by omega)]
  obtain ⟨q, h1, h2⟩ := up0 (fun m k h => f_X8_copy_l143 (nI a) (nI i) (nI b) (nI j) (nI n) 0 m (nI k) h) n (by omega) (fun k h => h = fillH H 63 (40 * b + j + (n - k)) k (fun t => H 63 (40 * a + i + (n - k) + t))) (fun h => h = fillH H 63 (40 * b + j) n (fun t => H 63 (40 * a + i + t))) H (by rw [fill_0])
    (fun m h hh => ⟨h, by simp only [f_X8_copy_l143, nI_le' (show n < 2 ^ 31 by omega) (show n < 2 ^ 31 by omega), Nat.le_refl, if_true], by rw [hh]; simp⟩)
    (fun m k h hk hh => Or.inr ⟨_, by rw [hh]; exact hstep m k hk, rfl⟩)
  exact h1.trans (congrArg some h2)
theorem i64_add_le {i n m : Nat} (hi : i < 2 ^ 31) (hn : n < 2 ^ 31) (hm : m ≤ 40) : ((nI i).toInt64 + (nI n).toInt64 ≤ (nI m).toInt64) ↔ i + n ≤ m := by
  rw [nI_l hi, nI_l hn, nI_l (by omega), lN_add, pk_lLE (by omega) (by omega)]
theorem sub_lt {m n x : Nat} (hm : m ≤ 40) (hn : n < 2 ^ 30) (hx : x < 2 ^ 31) : (nI m - nI n < nI x) ↔ m < x + n := by
  rw [Int32.lt_iff_toInt_lt, pk_sub_toInt (by omega) hn, nI_toInt hx]
  omega
theorem sub_lt2 {m : Nat} {n x : Int32} (hm : m ≤ 40) (hn : ¬ n < 0) (hx : ¬ x < 0) : (nI m - n < x) ↔ (m : Int) < x.toInt + n.toInt := by
  obtain ⟨a, ha, rfl⟩ := nI_of hn
  obtain ⟨b, hb, rfl⟩ := nI_of hx
  have e : (nI m - nI a).toInt = (m : Int) - a := by
    rw [Int32.toInt_sub, nI_toInt (show m < 2 ^ 31 by omega), nI_toInt ha]
    exact Int.bmod_eq_of_le (by omega) (by omega)
  rw [Int32.lt_iff_toInt_lt, e, nI_toInt hb, nI_toInt ha]
  omega
theorem i64_gt {m : Nat} {n x : Int32} (hm : m ≤ 40) (hn : ¬ n < 0) (hx : ¬ x < 0) : ((nI m).toInt64 < x.toInt64 + n.toInt64) ↔ (m : Int) < x.toInt + n.toInt := by
  obtain ⟨a, ha, rfl⟩ := nI_of hn
  obtain ⟨b, hb, rfl⟩ := nI_of hx
  rw [nI_l ha, nI_l hb, nI_l (by omega), lN_add, pk_lLT (by omega) (by omega), nI_toInt ha, nI_toInt hb]
  omega
set_option maxRecDepth 4000 in
theorem q_copy {H : Hp} (hR : Jrows H) (hS : Jst H) (x1 x2 x3 x4 x5 : Int32) : ∃ (r : Int32) (H1 H2 : Hp), f_X7_copy x1 x2 x3 x4 x5 H = some (r, H1) ∧ f_X8_copy x1 x2 x3 x4 x5 H1 = some (r, H2) ∧ Jrows H2 ∧ Jst H2 := by
  simp only [f_X7_copy, f_X8_copy, isRow7, isRow8, within_eq, Option.bind_some, bz, pf_e, unm, fnd, fnd8]
  by_cases g1 : x1 < 0 ∨ 7 < x1
  · simp only [if_pos g1]
    exact ⟨_, _, _, rfl, rfl, hR.hs 60 0 0, hS⟩
  by_cases g2 : x3 < 0 ∨ 7 < x3
  · simp only [if_neg g1, if_pos g2]
    exact ⟨_, _, _, rfl, rfl, hR.hs 60 0 0, hS⟩
  simp only [if_neg g1, if_neg g2]
  obtain ⟨a, -, ha, rfl⟩ := i_rng x1 0 7 (by omega) (by omega) g1
  obtain ⟨b, -, hb, rfl⟩ := i_rng x3 0 7 (by omega) (by omega) g2
  have ha : a < 8 := by omega
  have hb : b < 8 := by omega
  obtain ⟨a1, a2, a3, na, hna, a4, a5⟩ := hR a ha
  obtain ⟨b1, b2, b3, nb, hnb, b4, b5⟩ := hR b hb
  simp only [miss ha, miss hb, Option.bind_some, bo, hasP ha hna a4, hasP hb hnb b4, bz, ag_n ha (show 8 ≤ 2000 by omega), ag_n hb (show 8 ≤ 2000 by omega)]
  have la : ∀ G : Hp, G 61 a = H 61 a → (G 61 a < 0) = (H 2 a = -1) := fun G hG => by rw [hG, ← a1, lane_neg a3]
  have lb : ∀ G : Hp, G 61 b = H 61 b → (0 ≤ G 61 b) = ¬ (H 2 b = -1) := fun G hG => by rw [hG, ← b1, not_lane b3]
  have JF : ∀ x, Jrows (hset (hset (hset (hset H 0 10 x) 60 0 0) 60 1 0) 60 1 x) ∧ Jst (hset (hset (hset (hset H 0 10 x) 60 0 0) 60 1 0) 60 1 x) := fun x => ⟨(((hR.hs 0 10 x).hs 60 0 0).hs 60 1 0).hs 60 1 x, hS.1, rfl⟩
  by_cases g3 : H 2 a = -1
  · exact ⟨_, _, _, by rw [if_neg (by simp [g3])], by rw [if_pos (by rw [la _ (by simp [hset_if])]; exact g3)], JF 1⟩
  by_cases g4 : H 2 b = -1
  · exact ⟨_, _, _, by rw [if_pos g3, if_neg (by simp [g4])], by rw [if_neg (by rw [la _ (by simp [hset_if])]; exact g3), if_neg (by rw [lb _ (by simp [hset_if])]; simp [g4])], JF 1⟩
  simp only [if_pos g3, if_pos g4]
  by_cases g5 : ¬ H 2 a = H 2 b
  · exact ⟨_, _, _, by rw [if_neg g5], by rw [if_neg (by rw [la _ (by simp [hset_if])]; exact g3), if_pos (by rw [lb _ (by simp [hset_if])]; exact g4), if_neg (by simp [hset_if, ← a1, ← b1, g5])], JF 5⟩
  have g5 := Decidable.not_not.mp g5
  simp only [if_pos g5]
  have run : ∀ (G : Hp) (A B C D E : Option (Int32 × Hp)), G 61 a = H 61 a → G 61 b = H 61 b → (if G 61 a < 0 then A else if 0 ≤ G 61 b then (if G 61 a = G 61 b then B else C) else D) = B := fun G A B C D E e1 e2 => by
    rw [if_neg (by rw [la _ e1]; exact g3), if_pos (by rw [lb _ e2]; exact g4), if_pos (by rw [e1, e2, ← a1, ← b1, g5])]
  by_cases g6 : x2 < 0
  · refine ⟨_, _, _, by rw [if_pos (Or.inl g6)], ?_, JF 2⟩
    rw [run _ _ _ _ _ none (by simp [hset_if]) (by simp [hset_if]), if_pos g6]
  by_cases g7 : x5 < 0
  · refine ⟨_, _, _, by rw [if_pos (Or.inr (Or.inl g7))], ?_, JF 2⟩
    rw [run _ _ _ _ _ none (by simp [hset_if]) (by simp [hset_if]), if_neg g6, if_pos g7]
    split <;> rfl
  by_cases g8 : (na : Int) < x2.toInt + x5.toInt
  · refine ⟨_, _, _, by rw [if_pos (Or.inr (Or.inr ((sub_lt2 hna g7 g6).mpr g8)))], ?_, JF 2⟩
    rw [run _ _ _ _ _ none (by simp [hset_if]) (by simp [hset_if]), if_neg g6]
    by_cases g9 : x4 < 0
    · rw [if_pos g9]
    · rw [if_neg g9, if_neg g7, if_pos (by simp only [hset_if]; simp only [← a2, a4]; simpa using (i64_gt hna g7 g6).mpr g8)]
  have n1 : ¬ (x2 < 0 ∨ x5 < 0 ∨ nI na - x5 < x2) := by
    rintro (z | z | z)
    · exact g6 z
    · exact g7 z
    · exact g8 ((sub_lt2 hna g7 g6).mp z)
  simp only [if_neg n1]
  by_cases g9 : x4 < 0
  · refine ⟨_, _, _, by rw [if_pos (Or.inl g9)], ?_, JF 2⟩
    rw [run _ _ _ _ _ none (by simp [hset_if]) (by simp [hset_if]), if_neg g6, if_pos g9]
  by_cases g10 : (nb : Int) < x4.toInt + x5.toInt
  · refine ⟨_, _, _, by rw [if_pos (Or.inr (Or.inr ((sub_lt2 hnb g7 g9).mpr g10)))], ?_, JF 2⟩
    rw [run _ _ _ _ _ none (by simp [hset_if]) (by simp [hset_if]), if_neg g6, if_neg g9, if_neg g7]
    rw [if_neg (by simp only [hset_if]; simp only [← a2, a4]; simpa using fun z => g8 ((i64_gt hna g7 g6).mp z)), if_neg (by
      simp only [hset_if]; simp only [← b2, b4]
      simpa [Int64.not_le] using (i64_gt hnb g7 g9).mpr g10)]
  have n2 : ¬ (x4 < 0 ∨ x5 < 0 ∨ nI nb - x5 < x4) := by
    rintro (z | z | z)
    · exact g9 z
    · exact g7 z
    · exact g10 ((sub_lt2 hnb g7 g9).mp z)
  simp only [if_neg n2]
  obtain ⟨i, hi, rfl⟩ := nI_of g6
  obtain ⟨j, hj, rfl⟩ := nI_of g9
  obtain ⟨n, hn, rfl⟩ := nI_of g7
  rw [nI_toInt hi, nI_toInt hn] at g8
  rw [nI_toInt hj, nI_toInt hn] at g10
  have mv : f_X5_move (nI a) (nI i) (nI b) (nI j) (nI n) H = some (fillH H 4 (40 * b + j) n (fun t => H 4 (40 * a + i + t))) := by
    unfold f_X5_move ac
    rw [x40, x40, nI_clamp (by omega), nI_clamp (by omega), nI_clamp (by omega), if_pos ⟨nI_pos (by omega), nI_pos (by omega), nI_pos (by omega), by omega, by omega⟩, Option.bind_some, hcpy_fill]
  simp only [mv, Option.bind_some]
  refine ⟨nI n, hset (fillH H 4 (40 * b + j) n (fun t => H 4 (40 * a + i + t))) 0 10 0, fillH (hset (hset (hset (fillH H 4 (40 * b + j) n (fun t => H 4 (40 * a + i + t))) 0 10 0) 60 0 0) 60 1 0) 63 (40 * b + j) n (fun t => H 63 (40 * a + i + t)), rfl, ?_, ?_, ?_⟩
  · rw [run _ _ _ _ _ none (by simp [hset_if, fillH]) (by simp [hset_if, fillH]), if_neg g6, if_neg g9, if_neg g7]
    rw [if_neg (by simp only [hset_if, fillH]; simp only [← a2, a4]; simpa using (i64_add_le hi hn hna).mpr (by omega)), if_pos (by
      simp only [hset_if, fillH]; simp only [← b2, b4]
      simpa using (i64_add_le hj hn hnb).mpr (by omega))]
    have e63 : ∀ t, (hset (hset (hset (fillH H 4 (40 * b + j) n (fun t => H 4 (40 * a + i + t))) 0 10 0) 60 0 0) 60 1 0) 63 t = H 63 t := fun t => by simp [hset_if, fillH]
    by_cases hij : i < j
    · rw [if_pos (by rw [nI_lt' (by omega) (by omega)]; exact hij), dn_l143 ha hb (show i + n ≤ na by omega) hna (show j + n ≤ nb by omega) hnb hij]
      simp only [e63, Option.bind_some]
    · rw [if_neg (by rw [nI_lt' (by omega) (by omega)]; exact hij), up_l143 ha hb (show i + n ≤ na by omega) hna (show j + n ≤ nb by omega) hnb (by omega)]
      simp only [e63, Option.bind_some]
  · intro q hq
    obtain ⟨q1, q2, q3, nq, hnq, q4, q5⟩ := hR q hq
    refine ⟨by simp [hset_if, fillH, q1], by simp [hset_if, fillH, q2], by simp [hset_if, fillH, q3], nq, hnq, by simp [hset_if, fillH, q4], fun k hk => ?_⟩
    simp only [hset_if, fillH]
    by_cases hin : 40 * b + j ≤ 40 * q + k ∧ 40 * q + k < 40 * b + j + n
    · simp only [hin]
      simp
      have := a5 (i + (40 * q + k - (40 * b + j))) (by omega)
      rw [Nat.add_assoc, this]
    · simp [hin, q5 k hk]
  · exact ⟨by simp [hset_if, fillH]; exact hS.1, by simp [hset_if, fillH]⟩
