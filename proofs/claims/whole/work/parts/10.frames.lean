/-! frames: what an f_ leaves as it was -/
theorem hset_at {H : Hp} {c0 k0 c k : Nat} {x : Int32} (h : ¬ (c = c0 ∧ k = k0)) : hset H c0 k0 x c k = H c k := by
  unfold hset
  by_cases hc : c = c0
  · subst hc
    rw [if_pos rfl]
    unfold upd
    rw [if_neg (fun z => h ⟨rfl, z⟩)]
  · rw [if_neg hc]
theorem as_fr {H H2 : Hp} {c0 n c k : Nat} {i x : Int32} (h : as H c0 n i x = some H2) (hc : c ≠ c0) : H2 c k = H c k := by
  obtain ⟨-, rfl⟩ := as_some h
  exact hset_at (fun z => hc z.1)
theorem pf_fr {H H2 : Hp} {c0 k0 c k : Nat} {x : Int32} (h : pf H c0 k0 x = some H2) (hc : ¬ (c = c0 ∧ k = k0)) : H2 c k = H c k := by
  obtain rfl := Option.some.inj h
  exact hset_at hc
theorem pz_fr {H H2 : Hp} {c0 k0 c k : Nat} {x : Int32} (h : pz H c0 k0 x = some H2) (hc : ¬ (c = c0 ∧ k = k0)) : H2 c k = H c k := by
  obtain ⟨-, rfl⟩ := pz_some h
  exact hset_at hc
theorem ac_fr {H H2 : Hp} {c0 n0 c1 n1 c k : Nat} {sp dp n : Int32} (h : ac H c0 n0 sp c1 n1 dp n = some H2) (hc : c ≠ c1) : H2 c k = H c k := by
  obtain ⟨-, -, -, -, -, rfl⟩ := ac_some h
  exact congrFun (if_neg hc) k
theorem fr_X5_lay_l17_i {x1 : Int32} {x3 : Int32} (c k : Nat) (hc : c ≠ 4) : ∀ (n : Nat) (x4 : Int32) (H : Hp) (q : Hp), f_X5_lay_l17 x1 x3 n x4 H = some q → q c k = H c k := by
  intro n
  induction n with
  | zero => intro x4 H q h; simp [f_X5_lay_l17] at h
  | succ n ih =>
    intro x4 H q h
    rw [f_X5_lay_l17] at h
    by_cases c6 : x3 ≤ x4
    · replace h := (if_pos c6).symm.trans h
      obtain rfl := Option.some.inj h
      rfl
    · replace h := (if_neg c6).symm.trans h
      obtain ⟨H3, e_H3, h⟩ := bnd h
      have g_H3 := as_fr (c := c) (k := k) e_H3 hc
      exact (ih (x4 + 1) H3 q h).trans g_H3
theorem fr_X5_lay_l17 {x1 : Int32} {x3 : Int32}{n : Nat} {x4 : Int32} {H : Hp} {q : Hp} (h : f_X5_lay_l17 x1 x3 n x4 H = some q) (c k : Nat) (hc : c ≠ 4) : q c k = H c k := fr_X5_lay_l17_i c k hc n x4 H q h
theorem fr_X5_lay {x1 : Int32} {x2 : Int32} {x3 : Int32} {H : Hp} {q : Hp} (h : f_X5_lay x1 x2 x3 H = some q) (c k : Nat) (hc : c ≠ 2 ∧ c ≠ 3 ∧ c ≠ 4) : q c k = H c k := by
  unfold f_X5_lay at h
  obtain ⟨H1, e_H1, h⟩ := bnd h
  have g_H1 := as_fr (c := c) (k := k) e_H1 hc.1
  obtain ⟨H2, e_H2, h⟩ := bnd h
  have g_H2 := as_fr (c := c) (k := k) e_H2 hc.2.1
  obtain ⟨l5, e_l5, h⟩ := bnd h
  have g_l5 := fr_X5_lay_l17 e_l5 c k hc.2.2
  obtain rfl := Option.some.inj h; exact (g_l5.trans (g_H2.trans g_H1))
theorem fr_X7_unmarred {x1 : Int32} {H : Hp} {q : Int32 × Hp} (h : f_X7_unmarred x1 H = some q) (c k : Nat) (hc : ¬ (c = 0 ∧ k = 10)) : q.2 c k = H c k := by
  unfold f_X7_unmarred at h
  obtain ⟨H1, e_H1, h⟩ := bnd h
  have g_H1 := pf_fr (c := c) (k := k) e_H1 hc
  obtain rfl := Option.some.inj h; exact g_H1
theorem fr_X7_found {x1 : Int32} {H : Hp} {q : Int32 × Hp} (h : f_X7_found x1 H = some q) (c k : Nat) (hc : ¬ (c = 0 ∧ k = 10)) : q.2 c k = H c k := by
  unfold f_X7_found at h
  obtain ⟨H1, e_H1, h⟩ := bnd h
  have g_H1 := pf_fr (c := c) (k := k) e_H1 hc
  obtain rfl := Option.some.inj h; exact g_H1
theorem fr_X7_row {x1 : Int32} {x2 : Int32} {x3 : Int32} {H : Hp} {q : Int32 × Hp} (h : f_X7_row x1 x2 x3 H = some q) (c k : Nat) (hc : c ≠ 2 ∧ c ≠ 3 ∧ c ≠ 4 ∧ ¬ (c = 0 ∧ k = 10)) : q.2 c k = H c k := by
  unfold f_X7_row at h
  obtain ⟨v1, -, h⟩ := bnd h
  by_cases c6 : v1 = 0
  · replace h := (if_pos c6).symm.trans h
    obtain rfl := Option.some.inj h; exact rfl
  · replace h := (if_neg c6).symm.trans h
    obtain ⟨v2, -, h⟩ := bnd h
    by_cases c7 : v2 = 0
    · replace h := (if_pos c7).symm.trans h
      obtain rfl := Option.some.inj h; exact rfl
    · replace h := (if_neg c7).symm.trans h
      by_cases c8 : x3 ≤ 40
      · replace h := (if_pos c8).symm.trans h
        by_cases c9 : 0 ≤ x3
        · replace h := (if_pos c9).symm.trans h
          obtain ⟨H3, e_H3, h⟩ := bnd h
          have g_H3 := fr_X5_lay e_H3 c k ⟨hc.1, hc.2.1, hc.2.2.1⟩
          obtain ⟨q4, e_q4, h⟩ := bnd h
          have g_q4 := fr_X7_unmarred e_q4 c k hc.2.2.2
          obtain rfl := Option.some.inj h; exact (g_q4.trans g_H3)
        · replace h := (if_neg c9).symm.trans h
          obtain ⟨q5, e_q5, h⟩ := bnd h
          have g_q5 := fr_X7_found e_q5 c k hc.2.2.2
          obtain rfl := Option.some.inj h; exact g_q5
      · replace h := (if_neg c8).symm.trans h
        obtain rfl := Option.some.inj h; exact rfl
theorem fr_X5_store {x1 : Int32} {x2 : Int32} {x3 : Int32} {H : Hp} {q : Int32 × Hp} (h : f_X5_store x1 x2 x3 H = some q) (c k : Nat) (hc : c ≠ 4) : q.2 c k = H c k := by
  unfold f_X5_store at h
  obtain ⟨v1, -, h⟩ := bnd h
  obtain ⟨j3, -, h⟩ := bnd h
  obtain ⟨H4, e_H4, h⟩ := bnd h
  have g_H4 := as_fr (c := c) (k := k) e_H4 hc
  obtain rfl := Option.some.inj h; exact g_H4
theorem fr_X7_set {x1 : Int32} {x2 : Int32} {x3 : Int32} {H : Hp} {q : Int32 × Hp} (h : f_X7_set x1 x2 x3 H = some q) (c k : Nat) (hc : c ≠ 4 ∧ ¬ (c = 0 ∧ k = 10)) : q.2 c k = H c k := by
  unfold f_X7_set at h
  obtain ⟨v1, -, h⟩ := bnd h
  by_cases c8 : v1 = 0
  · replace h := (if_pos c8).symm.trans h
    obtain rfl := Option.some.inj h; exact rfl
  · replace h := (if_neg c8).symm.trans h
    obtain ⟨v2, -, h⟩ := bnd h
    by_cases c9 : v2 = 0
    · replace h := (if_pos c9).symm.trans h
      obtain ⟨v3, -, h⟩ := bnd h
      by_cases c10 : v3 = 0
      · replace h := (if_pos c10).symm.trans h
        obtain ⟨q4, e_q4, h⟩ := bnd h
        have g_q4 := fr_X7_found e_q4 c k hc.2
        obtain rfl := Option.some.inj h; exact g_q4
      · replace h := (if_neg c10).symm.trans h
        obtain ⟨q5, e_q5, h⟩ := bnd h
        have g_q5 := fr_X5_store e_q5 c k hc.1
        obtain ⟨q6, e_q6, h⟩ := bnd h
        have g_q6 := fr_X7_unmarred e_q6 c k hc.2
        obtain rfl := Option.some.inj h; exact (g_q6.trans g_q5)
    · replace h := (if_neg c9).symm.trans h
      obtain ⟨q7, e_q7, h⟩ := bnd h
      have g_q7 := fr_X7_found e_q7 c k hc.2
      obtain rfl := Option.some.inj h; exact g_q7
theorem fr_X5_move {x1 : Int32} {x2 : Int32} {x3 : Int32} {x4 : Int32} {x5 : Int32} {H : Hp} {q : Hp} (h : f_X5_move x1 x2 x3 x4 x5 H = some q) (c k : Nat) (hc : c ≠ 4) : q c k = H c k := by
  unfold f_X5_move at h
  obtain ⟨H1, e_H1, h⟩ := bnd h
  have g_H1 := ac_fr (c := c) (k := k) e_H1 hc
  obtain rfl := Option.some.inj h; exact g_H1
theorem fr_X7_copy {x1 : Int32} {x2 : Int32} {x3 : Int32} {x4 : Int32} {x5 : Int32} {H : Hp} {q : Int32 × Hp} (h : f_X7_copy x1 x2 x3 x4 x5 H = some q) (c k : Nat) (hc : c ≠ 4 ∧ ¬ (c = 0 ∧ k = 10)) : q.2 c k = H c k := by
  unfold f_X7_copy at h
  obtain ⟨v1, -, h⟩ := bnd h
  by_cases c16 : v1 = 0
  · replace h := (if_pos c16).symm.trans h
    obtain rfl := Option.some.inj h; exact rfl
  · replace h := (if_neg c16).symm.trans h
    obtain ⟨v2, -, h⟩ := bnd h
    by_cases c17 : v2 = 0
    · replace h := (if_pos c17).symm.trans h
      obtain rfl := Option.some.inj h; exact rfl
    · replace h := (if_neg c17).symm.trans h
      obtain ⟨v3, -, h⟩ := bnd h
      by_cases c18 : v3 = 0
      · replace h := (if_pos c18).symm.trans h
        obtain ⟨v4, -, h⟩ := bnd h
        by_cases c19 : v4 = 0
        · replace h := (if_pos c19).symm.trans h
          obtain ⟨v5, -, h⟩ := bnd h
          obtain ⟨v6, -, h⟩ := bnd h
          by_cases c20 : v5 = v6
          · replace h := (if_pos c20).symm.trans h
            obtain ⟨v7, -, h⟩ := bnd h
            by_cases c21 : v7 = 0
            · replace h := (if_pos c21).symm.trans h
              obtain ⟨q8, e_q8, h⟩ := bnd h
              have g_q8 := fr_X7_found e_q8 c k hc.2
              obtain rfl := Option.some.inj h; exact g_q8
            · replace h := (if_neg c21).symm.trans h
              obtain ⟨v9, -, h⟩ := bnd h
              by_cases c22 : v9 = 0
              · replace h := (if_pos c22).symm.trans h
                obtain ⟨q10, e_q10, h⟩ := bnd h
                have g_q10 := fr_X7_found e_q10 c k hc.2
                obtain rfl := Option.some.inj h; exact g_q10
              · replace h := (if_neg c22).symm.trans h
                obtain ⟨H11, e_H11, h⟩ := bnd h
                have g_H11 := fr_X5_move e_H11 c k hc.1
                obtain ⟨q12, e_q12, h⟩ := bnd h
                have g_q12 := fr_X7_unmarred e_q12 c k hc.2
                obtain rfl := Option.some.inj h; exact (g_q12.trans g_H11)
          · replace h := (if_neg c20).symm.trans h
            obtain ⟨q13, e_q13, h⟩ := bnd h
            have g_q13 := fr_X7_found e_q13 c k hc.2
            obtain rfl := Option.some.inj h; exact g_q13
        · replace h := (if_neg c19).symm.trans h
          obtain ⟨q14, e_q14, h⟩ := bnd h
          have g_q14 := fr_X7_found e_q14 c k hc.2
          obtain rfl := Option.some.inj h; exact g_q14
      · replace h := (if_neg c18).symm.trans h
        obtain ⟨q15, e_q15, h⟩ := bnd h
        have g_q15 := fr_X7_found e_q15 c k hc.2
        obtain rfl := Option.some.inj h; exact g_q15
theorem fr_X5_lose {x1 : Int32} {H : Hp} {q : Int32 × Hp} (h : f_X5_lose x1 H = some q) (c k : Nat) (hc : c ≠ 2) : q.2 c k = H c k := by
  unfold f_X5_lose at h
  obtain ⟨H1, e_H1, h⟩ := bnd h
  have g_H1 := as_fr (c := c) (k := k) e_H1 hc
  obtain ⟨v2, -, h⟩ := bnd h
  obtain rfl := Option.some.inj h; exact g_H1
theorem fr_X7_drop {x1 : Int32} {H : Hp} {q : Int32 × Hp} (h : f_X7_drop x1 H = some q) (c k : Nat) (hc : c ≠ 2 ∧ ¬ (c = 0 ∧ k = 10)) : q.2 c k = H c k := by
  unfold f_X7_drop at h
  obtain ⟨v1, -, h⟩ := bnd h
  by_cases c6 : v1 = 0
  · replace h := (if_pos c6).symm.trans h
    obtain rfl := Option.some.inj h; exact rfl
  · replace h := (if_neg c6).symm.trans h
    obtain ⟨v2, -, h⟩ := bnd h
    by_cases c7 : v2 = 0
    · replace h := (if_pos c7).symm.trans h
      obtain ⟨q3, e_q3, h⟩ := bnd h
      have g_q3 := fr_X5_lose e_q3 c k hc.1
      obtain ⟨q4, e_q4, h⟩ := bnd h
      have g_q4 := fr_X7_unmarred e_q4 c k hc.2
      obtain rfl := Option.some.inj h; exact (g_q4.trans g_q3)
    · replace h := (if_neg c7).symm.trans h
      obtain ⟨q5, e_q5, h⟩ := bnd h
      have g_q5 := fr_X7_found e_q5 c k hc.2
      obtain rfl := Option.some.inj h; exact g_q5
theorem fr_X6_append {x1 : Int32} {H : Hp} {q : Int32 × Hp} (h : f_X6_append x1 H = some q) (c k : Nat) (hc : c ≠ 6 ∧ ¬ (c = 5 ∧ k = 1)) : q.2 c k = H c k := by
  unfold f_X6_append at h
  by_cases c3 : (H 5 1) < 130
  · replace h := (if_pos c3).symm.trans h
    obtain ⟨H1, e_H1, h⟩ := bnd h
    have g_H1 := as_fr (c := c) (k := k) e_H1 hc.1
    obtain ⟨H2, e_H2, h⟩ := bnd h
    have g_H2 := pf_fr (c := c) (k := k) e_H2 hc.2
    obtain rfl := Option.some.inj h; exact (g_H2.trans g_H1)
  · replace h := (if_neg c3).symm.trans h
    obtain rfl := Option.some.inj h; exact rfl
theorem fr_X7_feed {x1 : Int32} {H : Hp} {q : Int32 × Hp} (h : f_X7_feed x1 H = some q) (c k : Nat) (hc : c ≠ 6 ∧ ¬ (c = 5 ∧ k = 1)) : q.2 c k = H c k := by
  unfold f_X7_feed at h
  obtain ⟨v1, -, h⟩ := bnd h
  by_cases c3 : v1 = 0
  · replace h := (if_pos c3).symm.trans h
    obtain rfl := Option.some.inj h; exact rfl
  · replace h := (if_neg c3).symm.trans h
    obtain ⟨q2, e_q2, h⟩ := bnd h
    have g_q2 := fr_X6_append e_q2 c k ⟨hc.1, hc.2⟩
    obtain rfl := Option.some.inj h; exact g_q2
theorem fr_X4_beginAnew_l27_i {b : Nat} (c k : Nat) (hc : c ≠ b + 2) : ∀ (n : Nat) (x1 : Int32) (H : Hp) (q : Hp), f_X4_beginAnew_l27 b n x1 H = some q → q c k = H c k := by
  intro n
  induction n with
  | zero => intro x1 H q h; simp [f_X4_beginAnew_l27] at h
  | succ n ih =>
    intro x1 H q h
    rw [f_X4_beginAnew_l27] at h
    by_cases c9 : 10 ≤ x1
    · replace h := (if_pos c9).symm.trans h
      obtain rfl := Option.some.inj h
      rfl
    · replace h := (if_neg c9).symm.trans h
      obtain ⟨H6, e_H6, h⟩ := bnd h
      have g_H6 := as_fr (c := c) (k := k) e_H6 hc
      exact (ih (x1 + 1) H6 q h).trans g_H6
theorem fr_X4_beginAnew_l27 {b : Nat}{n : Nat} {x1 : Int32} {H : Hp} {q : Hp} (h : f_X4_beginAnew_l27 b n x1 H = some q) (c k : Nat) (hc : c ≠ b + 2) : q c k = H c k := fr_X4_beginAnew_l27_i c k hc n x1 H q h
theorem fr_X4_beginAnew {b : Nat} {H : Hp} {q : Hp} (h : f_X4_beginAnew b H = some q) (c k : Nat) (hc : c ≠ b + 2 ∧ ¬ (c = b ∧ k = 0) ∧ ¬ (c = b ∧ k = 1) ∧ ¬ (c = b ∧ k = 2) ∧ ¬ (c = b ∧ k = 3) ∧ ¬ (c = b ∧ k = 4)) : q c k = H c k := by
  unfold f_X4_beginAnew at h
  obtain ⟨H1, e_H1, h⟩ := bnd h
  have g_H1 := pf_fr (c := c) (k := k) e_H1 hc.2.1
  obtain ⟨H2, e_H2, h⟩ := bnd h
  have g_H2 := pf_fr (c := c) (k := k) e_H2 hc.2.2.1
  obtain ⟨H3, e_H3, h⟩ := bnd h
  have g_H3 := pf_fr (c := c) (k := k) e_H3 hc.2.2.2.1
  obtain ⟨H4, e_H4, h⟩ := bnd h
  have g_H4 := pf_fr (c := c) (k := k) e_H4 hc.2.2.2.2.1
  obtain ⟨H5, e_H5, h⟩ := bnd h
  have g_H5 := pf_fr (c := c) (k := k) e_H5 hc.2.2.2.2.2
  obtain ⟨l8, e_l8, h⟩ := bnd h
  have g_l8 := fr_X4_beginAnew_l27 e_l8 c k hc.1
  obtain rfl := Option.some.inj h; exact (g_l8.trans (g_H5.trans (g_H4.trans (g_H3.trans (g_H2.trans g_H1)))))
theorem fr_X6_fails {x1 : Int32} {H : Hp} {q : Int32 × Hp} (h : f_X6_fails x1 H = some q) (c k : Nat) (hc : ¬ (c = 5 ∧ k = 4) ∧ ¬ (c = 5 ∧ k = 5)) : q.2 c k = H c k := by
  unfold f_X6_fails at h
  obtain ⟨H1, e_H1, h⟩ := bnd h
  have g_H1 := pf_fr (c := c) (k := k) e_H1 hc.1
  obtain ⟨H2, e_H2, h⟩ := bnd h
  have g_H2 := pf_fr (c := c) (k := k) e_H2 hc.2
  obtain rfl := Option.some.inj h; exact (g_H2.trans g_H1)
theorem fr_X6_readSign {x1 : Int32} {H : Hp} {q : Int32 × Hp} (h : f_X6_readSign x1 H = some q) (c k : Nat) (hc : ¬ (c = 5 ∧ k = 2) ∧ ¬ (c = 5 ∧ k = 4) ∧ ¬ (c = 5 ∧ k = 5)) : q.2 c k = H c k := by
  unfold f_X6_readSign at h
  obtain ⟨v1, -, h⟩ := bnd h
  by_cases c4 : v1 = x1
  · replace h := (if_pos c4).symm.trans h
    obtain ⟨H2, e_H2, h⟩ := bnd h
    have g_H2 := pf_fr (c := c) (k := k) e_H2 hc.1
    obtain rfl := Option.some.inj h; exact g_H2
  · replace h := (if_neg c4).symm.trans h
    obtain ⟨q3, e_q3, h⟩ := bnd h
    have g_q3 := fr_X6_fails e_q3 c k ⟨hc.2.1, hc.2.2⟩
    obtain ⟨z, -, h⟩ := bnd h
    obtain rfl := Option.some.inj h; exact g_q3
theorem fr_X6_readNumber {x1 : Int32} {x2 : Int32} {H : Hp} {q : Int32 × Hp} (h : f_X6_readNumber x1 x2 H = some q) (c k : Nat) (hc : ¬ (c = 5 ∧ k = 2) ∧ ¬ (c = 5 ∧ k = 3) ∧ ¬ (c = 5 ∧ k = 4) ∧ ¬ (c = 5 ∧ k = 5)) : q.2 c k = H c k := by
  unfold f_X6_readNumber at h
  obtain ⟨l7, -, h⟩ := bnd h
  by_cases c14 : l7.1 = 0
  · replace h := (if_pos c14).symm.trans h
    obtain ⟨q8, e_q8, h⟩ := bnd h
    have g_q8 := fr_X6_fails e_q8 c k ⟨hc.2.2.1, hc.2.2.2⟩
    obtain ⟨z, -, h⟩ := bnd h
    obtain rfl := Option.some.inj h; exact g_q8
  · replace h := (if_neg c14).symm.trans h
    by_cases c15 : l7.1 ≤ 2
    · replace h := (if_pos c15).symm.trans h
      obtain ⟨v9, -, h⟩ := bnd h
      by_cases c16 : v9 = 0
      · replace h := (if_pos c16).symm.trans h
        obtain ⟨q10, e_q10, h⟩ := bnd h
        have g_q10 := fr_X6_fails e_q10 c k ⟨hc.2.2.1, hc.2.2.2⟩
        obtain ⟨z, -, h⟩ := bnd h
        obtain rfl := Option.some.inj h; exact g_q10
      · replace h := (if_neg c16).symm.trans h
        obtain ⟨H11, e_H11, h⟩ := bnd h
        have g_H11 := pf_fr (c := c) (k := k) e_H11 hc.2.1
        obtain ⟨H12, e_H12, h⟩ := bnd h
        have g_H12 := pf_fr (c := c) (k := k) e_H12 hc.1
        obtain rfl := Option.some.inj h; exact (g_H12.trans g_H11)
    · replace h := (if_neg c15).symm.trans h
      obtain ⟨q13, e_q13, h⟩ := bnd h
      have g_q13 := fr_X6_fails e_q13 c k ⟨hc.2.2.1, hc.2.2.2⟩
      obtain ⟨z, -, h⟩ := bnd h
      obtain rfl := Option.some.inj h; exact g_q13
theorem fr_X6_readLaw {H : Hp} {q : Int32 × Hp} (h : f_X6_readLaw H = some q) (c k : Nat) (hc : ¬ (c = 13 ∧ k = 1) ∧ ¬ (c = 13 ∧ k = 2) ∧ ¬ (c = 5 ∧ k = 2) ∧ ¬ (c = 5 ∧ k = 3) ∧ ¬ (c = 5 ∧ k = 4) ∧ ¬ (c = 5 ∧ k = 5)) : q.2 c k = H c k := by
  unfold f_X6_readLaw at h
  obtain ⟨q1, e_q1, h⟩ := bnd h
  have g_q1 := fr_X6_readSign e_q1 c k ⟨hc.2.2.1, hc.2.2.2.2.1, hc.2.2.2.2.2⟩
  by_cases c8 : q1.1 = 0
  · replace h := (if_pos c8).symm.trans h
    obtain rfl := Option.some.inj h; exact g_q1
  · replace h := (if_neg c8).symm.trans h
    obtain ⟨q2, e_q2, h⟩ := bnd h
    have g_q2 := fr_X6_readNumber e_q2 c k ⟨hc.2.2.1, hc.2.2.2.1, hc.2.2.2.2.1, hc.2.2.2.2.2⟩
    by_cases c9 : q2.1 = 0
    · replace h := (if_pos c9).symm.trans h
      obtain rfl := Option.some.inj h; exact (g_q2.trans g_q1)
    · replace h := (if_neg c9).symm.trans h
      obtain ⟨H3, e_H3, h⟩ := bnd h
      have g_H3 := pf_fr (c := c) (k := k) e_H3 hc.1
      obtain ⟨q4, e_q4, h⟩ := bnd h
      have g_q4 := fr_X6_readSign e_q4 c k ⟨hc.2.2.1, hc.2.2.2.2.1, hc.2.2.2.2.2⟩
      by_cases c10 : q4.1 = 0
      · replace h := (if_pos c10).symm.trans h
        obtain rfl := Option.some.inj h; exact (g_q4.trans (g_H3.trans (g_q2.trans g_q1)))
      · replace h := (if_neg c10).symm.trans h
        obtain ⟨q5, e_q5, h⟩ := bnd h
        have g_q5 := fr_X6_readNumber e_q5 c k ⟨hc.2.2.1, hc.2.2.2.1, hc.2.2.2.2.1, hc.2.2.2.2.2⟩
        by_cases c11 : q5.1 = 0
        · replace h := (if_pos c11).symm.trans h
          obtain rfl := Option.some.inj h; exact (g_q5.trans (g_q4.trans (g_H3.trans (g_q2.trans g_q1))))
        · replace h := (if_neg c11).symm.trans h
          obtain ⟨H6, e_H6, h⟩ := bnd h
          have g_H6 := pf_fr (c := c) (k := k) e_H6 hc.2.1
          obtain ⟨q7, e_q7, h⟩ := bnd h
          have g_q7 := fr_X6_readSign e_q7 c k ⟨hc.2.2.1, hc.2.2.2.2.1, hc.2.2.2.2.2⟩
          obtain ⟨z, -, h⟩ := bnd h
          obtain rfl := Option.some.inj h; exact (g_q7.trans (g_H6.trans (g_q5.trans (g_q4.trans (g_H3.trans (g_q2.trans g_q1))))))
theorem fr_X6_readProjects_l2_i (c k : Nat) (hc : c ≠ 14 ∧ ¬ (c = 13 ∧ k = 3) ∧ ¬ (c = 5 ∧ k = 2) ∧ ¬ (c = 5 ∧ k = 4) ∧ ¬ (c = 5 ∧ k = 5)) : ∀ (n : Nat) (x2 : Int32) (H : Hp) (q : (Hp) ⊕ (Int32 × Hp)), f_X6_readProjects_l2 n x2 H = some q → (∀ t, q = .inl t → t c k = H c k) ∧ (∀ r, q = .inr r → r.2 c k = H c k) := by
  intro n
  induction n with
  | zero => intro x2 H q h; simp [f_X6_readProjects_l2] at h
  | succ n ih =>
    intro x2 H q h
    rw [f_X6_readProjects_l2] at h
    by_cases c19 : 6 < x2
    · replace h := (if_pos c19).symm.trans h
      obtain rfl := Option.some.inj h
      exact ⟨fun t ht => (by cases ht; exact rfl), fun r hr => (by cases hr)⟩
    · replace h := (if_neg c19).symm.trans h
      obtain ⟨v1, -, h⟩ := bnd h
      obtain ⟨v2, -, h⟩ := bnd h
      by_cases c20 : v2 = 0
      · replace h := (if_pos c20).symm.trans h
        obtain ⟨j4, e_j4, h⟩ := bnd h
        have g_j4 : j4.2 c k = H c k := by
          by_cases c21 : 0 < (H 13 3)
          · replace e_j4 := (if_pos c21).symm.trans e_j4
            obtain rfl := Option.some.inj e_j4
            rfl
          · replace e_j4 := (if_neg c21).symm.trans e_j4
            obtain ⟨q3, e_q3, e_j4⟩ := bnd e_j4
            have g_q3 := fr_X6_fails e_q3 c k ⟨hc.2.2.2.1, hc.2.2.2.2⟩
            by_cases c22 : q3.1 = 0
            · replace e_j4 := (if_pos c22).symm.trans e_j4
              obtain rfl := Option.some.inj e_j4
              exact g_q3
            · replace e_j4 := (if_neg c22).symm.trans e_j4
              obtain rfl := Option.some.inj e_j4
              exact g_q3
        obtain ⟨z, -, h⟩ := bnd h
        obtain rfl := Option.some.inj h; exact ⟨fun t ht => (by cases ht), fun r hr => (by cases hr; exact g_j4)⟩
      · replace h := (if_neg c20).symm.trans h
        by_cases c23 : (H 13 3) < 6
        · replace h := (if_pos c23).symm.trans h
          obtain ⟨H5, e_H5, h⟩ := bnd h
          have g_H5 := pf_fr (c := c) (k := k) e_H5 hc.2.2.1
          obtain ⟨q6, e_q6, h⟩ := bnd h
          have g_q6 := fr_X6_readSign e_q6 c k ⟨hc.2.2.1, hc.2.2.2.1, hc.2.2.2.2⟩
          by_cases c24 : q6.1 = 0
          · replace h := (if_pos c24).symm.trans h
            obtain rfl := Option.some.inj h; exact ⟨fun t ht => (by cases ht), fun r hr => (by cases hr; exact (g_q6.trans g_H5))⟩
          · replace h := (if_neg c24).symm.trans h
            obtain ⟨H7, e_H7, h⟩ := bnd h
            have g_H7 := as_fr (c := c) (k := k) e_H7 hc.1
            obtain ⟨H8, e_H8, h⟩ := bnd h
            have g_H8 := pf_fr (c := c) (k := k) e_H8 hc.2.1
            have z := ih (x2 + 1) H8 q h
            exact ⟨fun t ht => (z.1 t ht).trans (g_H8.trans (g_H7.trans (g_q6.trans g_H5))), fun r hr => (z.2 r hr).trans (g_H8.trans (g_H7.trans (g_q6.trans g_H5)))⟩
        · replace h := (if_neg c23).symm.trans h
          obtain ⟨q9, e_q9, h⟩ := bnd h
          have g_q9 := fr_X6_fails e_q9 c k ⟨hc.2.2.2.1, hc.2.2.2.2⟩
          obtain ⟨z, -, h⟩ := bnd h
          obtain rfl := Option.some.inj h; exact ⟨fun t ht => (by cases ht), fun r hr => (by cases hr; exact g_q9)⟩
theorem fr_X6_readProjects_l2{n : Nat} {x2 : Int32} {H : Hp} {q : (Hp) ⊕ (Int32 × Hp)} (h : f_X6_readProjects_l2 n x2 H = some q) (c k : Nat) (hc : c ≠ 14 ∧ ¬ (c = 13 ∧ k = 3) ∧ ¬ (c = 5 ∧ k = 2) ∧ ¬ (c = 5 ∧ k = 4) ∧ ¬ (c = 5 ∧ k = 5)) : (∀ t, q = .inl t → t c k = H c k) ∧ (∀ r, q = .inr r → r.2 c k = H c k) := fr_X6_readProjects_l2_i c k hc n x2 H q h
theorem fr_X6_readProjects {H : Hp} {q : Int32 × Hp} (h : f_X6_readProjects H = some q) (c k : Nat) (hc : c ≠ 14 ∧ ¬ (c = 13 ∧ k = 3) ∧ ¬ (c = 5 ∧ k = 2) ∧ ¬ (c = 5 ∧ k = 4) ∧ ¬ (c = 5 ∧ k = 5)) : q.2 c k = H c k := by
  unfold f_X6_readProjects at h
  obtain ⟨l17, e_l17, h⟩ := bnd h
  have g_l17 := fr_X6_readProjects_l2 e_l17 c k ⟨hc.1, hc.2.1, hc.2.2.1, hc.2.2.2.1, hc.2.2.2.2⟩
  cases l17 with
  | inl t18 =>
    rw [Sum.elim_inl] at h
    obtain rfl := Option.some.inj h; exact (g_l17.1 _ rfl)
  | inr r =>
    rw [Sum.elim_inr] at h
    obtain rfl := Option.some.inj h; exact (g_l17.2 _ rfl)
theorem fr_X4_putGift_l6_i {b : Nat} {x1 : Int32} (c k : Nat) (hc : c ≠ b + 3 ∧ c ≠ b + 4 ∧ c ≠ b + 5) : ∀ (n : Nat) (x5 : Int32) (H : Hp) (q : Hp), f_X4_putGift_l6 b x1 n x5 H = some q → q c k = H c k := by
  intro n
  induction n with
  | zero => intro x5 H q h; simp [f_X4_putGift_l6] at h
  | succ n ih =>
    intro x5 H q h
    rw [f_X4_putGift_l6] at h
    by_cases c13 : x5 ≤ x1
    · replace h := (if_pos c13).symm.trans h
      obtain rfl := Option.some.inj h
      rfl
    · replace h := (if_neg c13).symm.trans h
      obtain ⟨v1, -, h⟩ := bnd h
      obtain ⟨H2, e_H2, h⟩ := bnd h
      have g_H2 := as_fr (c := c) (k := k) e_H2 hc.1
      obtain ⟨v3, -, h⟩ := bnd h
      obtain ⟨H4, e_H4, h⟩ := bnd h
      have g_H4 := as_fr (c := c) (k := k) e_H4 hc.2.1
      obtain ⟨v5, -, h⟩ := bnd h
      obtain ⟨H6, e_H6, h⟩ := bnd h
      have g_H6 := as_fr (c := c) (k := k) e_H6 hc.2.2
      exact (ih (x5 + (-1)) H6 q h).trans (g_H6.trans (g_H4.trans g_H2))
theorem fr_X4_putGift_l6 {b : Nat} {x1 : Int32}{n : Nat} {x5 : Int32} {H : Hp} {q : Hp} (h : f_X4_putGift_l6 b x1 n x5 H = some q) (c k : Nat) (hc : c ≠ b + 3 ∧ c ≠ b + 4 ∧ c ≠ b + 5) : q c k = H c k := fr_X4_putGift_l6_i c k hc n x5 H q h
theorem fr_X4_putGift {b : Nat} {x1 : Int32} {x2 : Int32} {x3 : Int32} {x4 : Int32} {H : Hp} {q : Hp} (h : f_X4_putGift b x1 x2 x3 x4 H = some q) (c k : Nat) (hc : c ≠ b + 3 ∧ c ≠ b + 4 ∧ c ≠ b + 5 ∧ ¬ (c = b ∧ k = 4)) : q c k = H c k := by
  unfold f_X4_putGift at h
  obtain ⟨l8, e_l8, h⟩ := bnd h
  have g_l8 := fr_X4_putGift_l6 e_l8 c k ⟨hc.1, hc.2.1, hc.2.2.1⟩
  obtain ⟨H9, e_H9, h⟩ := bnd h
  have g_H9 := as_fr (c := c) (k := k) e_H9 hc.1
  obtain ⟨H10, e_H10, h⟩ := bnd h
  have g_H10 := as_fr (c := c) (k := k) e_H10 hc.2.1
  obtain ⟨H11, e_H11, h⟩ := bnd h
  have g_H11 := as_fr (c := c) (k := k) e_H11 hc.2.2.1
  obtain ⟨H12, e_H12, h⟩ := bnd h
  have g_H12 := pf_fr (c := c) (k := k) e_H12 hc.2.2.2
  obtain rfl := Option.some.inj h; exact (g_H12.trans (g_H11.trans (g_H10.trans (g_H9.trans g_l8))))
theorem fr_X6_readGift {H : Hp} {q : Int32 × Hp} (h : f_X6_readGift H = some q) (c k : Nat) (hc : c ≠ 16 ∧ c ≠ 17 ∧ c ≠ 18 ∧ ¬ (c = 13 ∧ k = 4) ∧ ¬ (c = 5 ∧ k = 2) ∧ ¬ (c = 5 ∧ k = 3) ∧ ¬ (c = 5 ∧ k = 4) ∧ ¬ (c = 5 ∧ k = 5)) : q.2 c k = H c k := by
  unfold f_X6_readGift at h
  obtain ⟨q1, e_q1, h⟩ := bnd h
  have g_q1 := fr_X6_readSign e_q1 c k ⟨hc.2.2.2.2.1, hc.2.2.2.2.2.2.1, hc.2.2.2.2.2.2.2⟩
  by_cases c9 : q1.1 = 0
  · replace h := (if_pos c9).symm.trans h
    obtain rfl := Option.some.inj h; exact g_q1
  · replace h := (if_neg c9).symm.trans h
    obtain ⟨q2, e_q2, h⟩ := bnd h
    have g_q2 := fr_X6_readNumber e_q2 c k ⟨hc.2.2.2.2.1, hc.2.2.2.2.2.1, hc.2.2.2.2.2.2.1, hc.2.2.2.2.2.2.2⟩
    by_cases c10 : q2.1 = 0
    · replace h := (if_pos c10).symm.trans h
      obtain rfl := Option.some.inj h; exact (g_q2.trans g_q1)
    · replace h := (if_neg c10).symm.trans h
      obtain ⟨q3, e_q3, h⟩ := bnd h
      have g_q3 := fr_X6_readSign e_q3 c k ⟨hc.2.2.2.2.1, hc.2.2.2.2.2.2.1, hc.2.2.2.2.2.2.2⟩
      by_cases c11 : q3.1 = 0
      · replace h := (if_pos c11).symm.trans h
        obtain rfl := Option.some.inj h; exact (g_q3.trans (g_q2.trans g_q1))
      · replace h := (if_neg c11).symm.trans h
        obtain ⟨q4, e_q4, h⟩ := bnd h
        have g_q4 := fr_X6_readNumber e_q4 c k ⟨hc.2.2.2.2.1, hc.2.2.2.2.2.1, hc.2.2.2.2.2.2.1, hc.2.2.2.2.2.2.2⟩
        by_cases c12 : q4.1 = 0
        · replace h := (if_pos c12).symm.trans h
          obtain rfl := Option.some.inj h; exact (g_q4.trans (g_q3.trans (g_q2.trans g_q1)))
        · replace h := (if_neg c12).symm.trans h
          obtain ⟨q5, e_q5, h⟩ := bnd h
          have g_q5 := fr_X6_readSign e_q5 c k ⟨hc.2.2.2.2.1, hc.2.2.2.2.2.2.1, hc.2.2.2.2.2.2.2⟩
          by_cases c13 : q5.1 = 0
          · replace h := (if_pos c13).symm.trans h
            obtain rfl := Option.some.inj h; exact (g_q5.trans (g_q4.trans (g_q3.trans (g_q2.trans g_q1))))
          · replace h := (if_neg c13).symm.trans h
            obtain ⟨q6, e_q6, h⟩ := bnd h
            have g_q6 := fr_X6_readNumber e_q6 c k ⟨hc.2.2.2.2.1, hc.2.2.2.2.2.1, hc.2.2.2.2.2.2.1, hc.2.2.2.2.2.2.2⟩
            by_cases c14 : q6.1 = 0
            · replace h := (if_pos c14).symm.trans h
              obtain rfl := Option.some.inj h; exact (g_q6.trans (g_q5.trans (g_q4.trans (g_q3.trans (g_q2.trans g_q1)))))
            · replace h := (if_neg c14).symm.trans h
              obtain ⟨q7, e_q7, h⟩ := bnd h
              have g_q7 := fr_X6_readSign e_q7 c k ⟨hc.2.2.2.2.1, hc.2.2.2.2.2.2.1, hc.2.2.2.2.2.2.2⟩
              by_cases c15 : q7.1 = 0
              · replace h := (if_pos c15).symm.trans h
                obtain rfl := Option.some.inj h; exact (g_q7.trans (g_q6.trans (g_q5.trans (g_q4.trans (g_q3.trans (g_q2.trans g_q1))))))
              · replace h := (if_neg c15).symm.trans h
                obtain ⟨H8, e_H8, h⟩ := bnd h
                have g_H8 := fr_X4_putGift e_H8 c k ⟨hc.1, hc.2.1, hc.2.2.1, hc.2.2.2.1⟩
                obtain rfl := Option.some.inj h; exact (g_H8.trans (g_q7.trans (g_q6.trans (g_q5.trans (g_q4.trans (g_q3.trans (g_q2.trans g_q1)))))))
theorem fr_X6_readGifts_l2_i (c k : Nat) (hc : c ≠ 16 ∧ c ≠ 17 ∧ c ≠ 18 ∧ ¬ (c = 13 ∧ k = 4) ∧ ¬ (c = 5 ∧ k = 2) ∧ ¬ (c = 5 ∧ k = 3) ∧ ¬ (c = 5 ∧ k = 4) ∧ ¬ (c = 5 ∧ k = 5)) : ∀ (n : Nat) (x2 : Int32) (H : Hp) (q : (Hp) ⊕ (Int32 × Hp)), f_X6_readGifts_l2 n x2 H = some q → (∀ t, q = .inl t → t c k = H c k) ∧ (∀ r, q = .inr r → r.2 c k = H c k) := by
  intro n
  induction n with
  | zero => intro x2 H q h; simp [f_X6_readGifts_l2] at h
  | succ n ih =>
    intro x2 H q h
    rw [f_X6_readGifts_l2] at h
    by_cases c13 : 130 ≤ x2
    · replace h := (if_pos c13).symm.trans h
      obtain rfl := Option.some.inj h
      exact ⟨fun t ht => (by cases ht; exact rfl), fun r hr => (by cases hr)⟩
    · replace h := (if_neg c13).symm.trans h
      by_cases c14 : (H 5 1) ≤ (H 5 2)
      · replace h := (if_pos c14).symm.trans h
        obtain rfl := Option.some.inj h
        exact ⟨fun t ht => (by cases ht; exact rfl), fun r hr => (by cases hr)⟩
      · replace h := (if_neg c14).symm.trans h
        obtain ⟨v1, -, h⟩ := bnd h
        by_cases c15 : v1 = 103
        · replace h := (if_pos c15).symm.trans h
          by_cases c16 : (H 13 4) < 20
          · replace h := (if_pos c16).symm.trans h
            obtain ⟨q2, e_q2, h⟩ := bnd h
            have g_q2 := fr_X6_readGift e_q2 c k ⟨hc.1, hc.2.1, hc.2.2.1, hc.2.2.2.1, hc.2.2.2.2.1, hc.2.2.2.2.2.1, hc.2.2.2.2.2.2.1, hc.2.2.2.2.2.2.2⟩
            by_cases c17 : q2.1 = 0
            · replace h := (if_pos c17).symm.trans h
              obtain rfl := Option.some.inj h; exact ⟨fun t ht => (by cases ht), fun r hr => (by cases hr; exact g_q2)⟩
            · replace h := (if_neg c17).symm.trans h
              have z := ih (x2 + 1) q2.2 q h
              exact ⟨fun t ht => (z.1 t ht).trans g_q2, fun r hr => (z.2 r hr).trans g_q2⟩
          · replace h := (if_neg c16).symm.trans h
            obtain ⟨q3, e_q3, h⟩ := bnd h
            have g_q3 := fr_X6_fails e_q3 c k ⟨hc.2.2.2.2.2.2.1, hc.2.2.2.2.2.2.2⟩
            obtain ⟨z, -, h⟩ := bnd h
            obtain rfl := Option.some.inj h; exact ⟨fun t ht => (by cases ht), fun r hr => (by cases hr; exact g_q3)⟩
        · replace h := (if_neg c15).symm.trans h
          obtain ⟨q4, e_q4, h⟩ := bnd h
          have g_q4 := fr_X6_readGift e_q4 c k ⟨hc.1, hc.2.1, hc.2.2.1, hc.2.2.2.1, hc.2.2.2.2.1, hc.2.2.2.2.2.1, hc.2.2.2.2.2.2.1, hc.2.2.2.2.2.2.2⟩
          by_cases c18 : q4.1 = 0
          · replace h := (if_pos c18).symm.trans h
            obtain rfl := Option.some.inj h; exact ⟨fun t ht => (by cases ht), fun r hr => (by cases hr; exact g_q4)⟩
          · replace h := (if_neg c18).symm.trans h
            have z := ih (x2 + 1) q4.2 q h
            exact ⟨fun t ht => (z.1 t ht).trans g_q4, fun r hr => (z.2 r hr).trans g_q4⟩
theorem fr_X6_readGifts_l2{n : Nat} {x2 : Int32} {H : Hp} {q : (Hp) ⊕ (Int32 × Hp)} (h : f_X6_readGifts_l2 n x2 H = some q) (c k : Nat) (hc : c ≠ 16 ∧ c ≠ 17 ∧ c ≠ 18 ∧ ¬ (c = 13 ∧ k = 4) ∧ ¬ (c = 5 ∧ k = 2) ∧ ¬ (c = 5 ∧ k = 3) ∧ ¬ (c = 5 ∧ k = 4) ∧ ¬ (c = 5 ∧ k = 5)) : (∀ t, q = .inl t → t c k = H c k) ∧ (∀ r, q = .inr r → r.2 c k = H c k) := fr_X6_readGifts_l2_i c k hc n x2 H q h
theorem fr_X6_readGifts {H : Hp} {q : Int32 × Hp} (h : f_X6_readGifts H = some q) (c k : Nat) (hc : c ≠ 16 ∧ c ≠ 17 ∧ c ≠ 18 ∧ ¬ (c = 13 ∧ k = 4) ∧ ¬ (c = 5 ∧ k = 2) ∧ ¬ (c = 5 ∧ k = 3) ∧ ¬ (c = 5 ∧ k = 4) ∧ ¬ (c = 5 ∧ k = 5)) : q.2 c k = H c k := by
  unfold f_X6_readGifts at h
  obtain ⟨l11, e_l11, h⟩ := bnd h
  have g_l11 := fr_X6_readGifts_l2 e_l11 c k ⟨hc.1, hc.2.1, hc.2.2.1, hc.2.2.2.1, hc.2.2.2.2.1, hc.2.2.2.2.2.1, hc.2.2.2.2.2.2.1, hc.2.2.2.2.2.2.2⟩
  cases l11 with
  | inl t12 =>
    rw [Sum.elim_inl] at h
    obtain rfl := Option.some.inj h; exact (g_l11.1 _ rfl)
  | inr r =>
    rw [Sum.elim_inr] at h
    obtain rfl := Option.some.inj h; exact (g_l11.2 _ rfl)
theorem fr_X6_readInto {H : Hp} {q : Int32 × Hp} (h : f_X6_readInto H = some q) (c k : Nat) (hc : c ≠ 14 ∧ c ≠ 15 ∧ c ≠ 16 ∧ c ≠ 17 ∧ c ≠ 18 ∧ ¬ (c = 13 ∧ k = 0) ∧ ¬ (c = 13 ∧ k = 1) ∧ ¬ (c = 13 ∧ k = 2) ∧ ¬ (c = 13 ∧ k = 3) ∧ ¬ (c = 13 ∧ k = 4) ∧ ¬ (c = 5 ∧ k = 2) ∧ ¬ (c = 5 ∧ k = 3) ∧ ¬ (c = 5 ∧ k = 4) ∧ ¬ (c = 5 ∧ k = 5)) : q.2 c k = H c k := by
  unfold f_X6_readInto at h
  obtain ⟨H1, e_H1, h⟩ := bnd h
  have g_H1 := pf_fr (c := c) (k := k) e_H1 hc.2.2.2.2.2.2.2.2.2.2.1
  obtain ⟨H2, e_H2, h⟩ := bnd h
  have g_H2 := fr_X4_beginAnew e_H2 c k ⟨hc.2.1, hc.2.2.2.2.2.1, hc.2.2.2.2.2.2.1, hc.2.2.2.2.2.2.2.1, hc.2.2.2.2.2.2.2.2.1, hc.2.2.2.2.2.2.2.2.2.1⟩
  obtain ⟨q3, e_q3, h⟩ := bnd h
  have g_q3 := fr_X6_readLaw e_q3 c k ⟨hc.2.2.2.2.2.2.1, hc.2.2.2.2.2.2.2.1, hc.2.2.2.2.2.2.2.2.2.2.1, hc.2.2.2.2.2.2.2.2.2.2.2.1, hc.2.2.2.2.2.2.2.2.2.2.2.2.1, hc.2.2.2.2.2.2.2.2.2.2.2.2.2⟩
  obtain ⟨j6, e_j6, h⟩ := bnd h
  have g_j6 : j6.2 c k = H c k := by
    by_cases c7 : q3.1 = 0
    · replace e_j6 := (if_pos c7).symm.trans e_j6
      obtain rfl := Option.some.inj e_j6
      exact (g_q3.trans (g_H2.trans g_H1))
    · replace e_j6 := (if_neg c7).symm.trans e_j6
      obtain ⟨q4, e_q4, e_j6⟩ := bnd e_j6
      have g_q4 := fr_X6_readProjects e_q4 c k ⟨hc.1, hc.2.2.2.2.2.2.2.2.1, hc.2.2.2.2.2.2.2.2.2.2.1, hc.2.2.2.2.2.2.2.2.2.2.2.2.1, hc.2.2.2.2.2.2.2.2.2.2.2.2.2⟩
      by_cases c8 : q4.1 = 0
      · replace e_j6 := (if_pos c8).symm.trans e_j6
        obtain rfl := Option.some.inj e_j6
        exact (g_q4.trans (g_q3.trans (g_H2.trans g_H1)))
      · replace e_j6 := (if_neg c8).symm.trans e_j6
        obtain ⟨q5, e_q5, e_j6⟩ := bnd e_j6
        have g_q5 := fr_X6_readGifts e_q5 c k ⟨hc.2.2.1, hc.2.2.2.1, hc.2.2.2.2.1, hc.2.2.2.2.2.2.2.2.2.1, hc.2.2.2.2.2.2.2.2.2.2.1, hc.2.2.2.2.2.2.2.2.2.2.2.1, hc.2.2.2.2.2.2.2.2.2.2.2.2.1, hc.2.2.2.2.2.2.2.2.2.2.2.2.2⟩
        by_cases c9 : q5.1 = 0
        · replace e_j6 := (if_pos c9).symm.trans e_j6
          obtain rfl := Option.some.inj e_j6
          exact (g_q5.trans (g_q4.trans (g_q3.trans (g_H2.trans g_H1))))
        · replace e_j6 := (if_neg c9).symm.trans e_j6
          obtain rfl := Option.some.inj e_j6
          exact (g_q5.trans (g_q4.trans (g_q3.trans (g_H2.trans g_H1))))
  obtain ⟨z, -, h⟩ := bnd h
  obtain rfl := Option.some.inj h; exact g_j6
theorem fr_X4_becomeLike {b : Nat} {o : Nat} {H : Hp} {q : Hp} (h : f_X4_becomeLike b o H = some q) (c k : Nat) (hc : c ≠ b + 1 ∧ c ≠ b + 2 ∧ c ≠ b + 3 ∧ c ≠ b + 4 ∧ c ≠ b + 5 ∧ ¬ (c = b ∧ k = 0) ∧ ¬ (c = b ∧ k = 1) ∧ ¬ (c = b ∧ k = 2) ∧ ¬ (c = b ∧ k = 3) ∧ ¬ (c = b ∧ k = 4)) : q c k = H c k := by
  unfold f_X4_becomeLike at h
  obtain ⟨H1, e_H1, h⟩ := bnd h
  have g_H1 := pz_fr (c := c) (k := k) e_H1 hc.2.2.2.2.2.1
  obtain ⟨H2, e_H2, h⟩ := bnd h
  have g_H2 := pf_fr (c := c) (k := k) e_H2 hc.2.2.2.2.2.2.1
  obtain ⟨H3, e_H3, h⟩ := bnd h
  have g_H3 := pf_fr (c := c) (k := k) e_H3 hc.2.2.2.2.2.2.2.1
  obtain ⟨H4, e_H4, h⟩ := bnd h
  have g_H4 := pf_fr (c := c) (k := k) e_H4 hc.2.2.2.2.2.2.2.2.1
  obtain ⟨H5, e_H5, h⟩ := bnd h
  have g_H5 := pf_fr (c := c) (k := k) e_H5 hc.2.2.2.2.2.2.2.2.2
  obtain ⟨H6, e_H6, h⟩ := bnd h
  have g_H6 := ac_fr (c := c) (k := k) e_H6 hc.1
  obtain ⟨H7, e_H7, h⟩ := bnd h
  have g_H7 := ac_fr (c := c) (k := k) e_H7 hc.2.1
  obtain ⟨H8, e_H8, h⟩ := bnd h
  have g_H8 := ac_fr (c := c) (k := k) e_H8 hc.2.2.1
  obtain ⟨H9, e_H9, h⟩ := bnd h
  have g_H9 := ac_fr (c := c) (k := k) e_H9 hc.2.2.2.1
  obtain ⟨H10, e_H10, h⟩ := bnd h
  have g_H10 := ac_fr (c := c) (k := k) e_H10 hc.2.2.2.2.1
  obtain rfl := Option.some.inj h; exact (g_H10.trans (g_H9.trans (g_H8.trans (g_H7.trans (g_H6.trans (g_H5.trans (g_H4.trans (g_H3.trans (g_H2.trans g_H1)))))))))
theorem fr_X0_forgetAll {H : Hp} {q : Hp} (h : f_X0_forgetAll H = some q) (c k : Nat) (hc : ¬ (c = 32 ∧ k = 6)) : q c k = H c k := by
  unfold f_X0_forgetAll at h
  obtain ⟨H1, e_H1, h⟩ := bnd h
  have g_H1 := pf_fr (c := c) (k := k) e_H1 hc
  obtain rfl := Option.some.inj h; exact g_H1
theorem fr_X7_fund {H : Hp} {q : Int32 × Hp} (h : f_X7_fund H = some q) (c k : Nat) (hc : c ≠ 10 ∧ c ≠ 11 ∧ c ≠ 12 ∧ c ≠ 14 ∧ c ≠ 15 ∧ c ≠ 16 ∧ c ≠ 17 ∧ c ≠ 18 ∧ c ≠ 8 ∧ c ≠ 9 ∧ ¬ (c = 0 ∧ k = 9) ∧ ¬ (c = 13 ∧ k = 0) ∧ ¬ (c = 13 ∧ k = 1) ∧ ¬ (c = 13 ∧ k = 2) ∧ ¬ (c = 13 ∧ k = 3) ∧ ¬ (c = 13 ∧ k = 4) ∧ ¬ (c = 32 ∧ k = 6) ∧ ¬ (c = 5 ∧ k = 1) ∧ ¬ (c = 5 ∧ k = 2) ∧ ¬ (c = 5 ∧ k = 3) ∧ ¬ (c = 5 ∧ k = 4) ∧ ¬ (c = 5 ∧ k = 5) ∧ ¬ (c = 7 ∧ k = 0) ∧ ¬ (c = 7 ∧ k = 1) ∧ ¬ (c = 7 ∧ k = 2) ∧ ¬ (c = 7 ∧ k = 3) ∧ ¬ (c = 7 ∧ k = 4)) : q.2 c k = H c k := by
  unfold f_X7_fund at h
  obtain ⟨q1, e_q1, h⟩ := bnd h
  have g_q1 := fr_X6_readInto e_q1 c k ⟨hc.2.2.2.1, hc.2.2.2.2.1, hc.2.2.2.2.2.1, hc.2.2.2.2.2.2.1, hc.2.2.2.2.2.2.2.1, hc.2.2.2.2.2.2.2.2.2.2.2.1, hc.2.2.2.2.2.2.2.2.2.2.2.2.1, hc.2.2.2.2.2.2.2.2.2.2.2.2.2.1, hc.2.2.2.2.2.2.2.2.2.2.2.2.2.2.1, hc.2.2.2.2.2.2.2.2.2.2.2.2.2.2.2.1, hc.2.2.2.2.2.2.2.2.2.2.2.2.2.2.2.2.2.2.1, hc.2.2.2.2.2.2.2.2.2.2.2.2.2.2.2.2.2.2.2.1, hc.2.2.2.2.2.2.2.2.2.2.2.2.2.2.2.2.2.2.2.2.1, hc.2.2.2.2.2.2.2.2.2.2.2.2.2.2.2.2.2.2.2.2.2.1⟩
  obtain ⟨H2, e_H2, h⟩ := bnd h
  have g_H2 := pf_fr (c := c) (k := k) e_H2 hc.2.2.2.2.2.2.2.2.2.2.2.2.2.2.2.2.2.1
  by_cases c6 : q1.1 = 0
  · replace h := (if_pos c6).symm.trans h
    obtain ⟨H3, e_H3, h⟩ := bnd h
    have g_H3 := pf_fr (c := c) (k := k) e_H3 hc.2.2.2.2.2.2.2.2.2.2.1
    obtain rfl := Option.some.inj h; exact (g_H3.trans (g_H2.trans g_q1))
  · replace h := (if_neg c6).symm.trans h
    obtain ⟨H4, e_H4, h⟩ := bnd h
    have g_H4 := fr_X4_becomeLike e_H4 c k ⟨hc.2.2.2.2.2.2.2.2.1, hc.2.2.2.2.2.2.2.2.2.1, hc.1, hc.2.1, hc.2.2.1, hc.2.2.2.2.2.2.2.2.2.2.2.2.2.2.2.2.2.2.2.2.2.2.1, hc.2.2.2.2.2.2.2.2.2.2.2.2.2.2.2.2.2.2.2.2.2.2.2.1, hc.2.2.2.2.2.2.2.2.2.2.2.2.2.2.2.2.2.2.2.2.2.2.2.2.1, hc.2.2.2.2.2.2.2.2.2.2.2.2.2.2.2.2.2.2.2.2.2.2.2.2.2.1, hc.2.2.2.2.2.2.2.2.2.2.2.2.2.2.2.2.2.2.2.2.2.2.2.2.2.2⟩
    obtain ⟨H5, e_H5, h⟩ := bnd h
    have g_H5 := fr_X0_forgetAll e_H5 c k hc.2.2.2.2.2.2.2.2.2.2.2.2.2.2.2.2.1
    obtain rfl := Option.some.inj h; exact (g_H5.trans (g_H4.trans (g_H2.trans g_q1)))
theorem fr_X4_takeGift_l12_i {b : Nat} (c k : Nat) (hc : c ≠ b + 3 ∧ c ≠ b + 4 ∧ c ≠ b + 5) : ∀ (n : Nat) (x2 : Int32) (H : Hp) (q : Hp), f_X4_takeGift_l12 b n x2 H = some q → q c k = H c k := by
  intro n
  induction n with
  | zero => intro x2 H q h; simp [f_X4_takeGift_l12] at h
  | succ n ih =>
    intro x2 H q h
    rw [f_X4_takeGift_l12] at h
    by_cases c10 : (H b 4) ≤ x2
    · replace h := (if_pos c10).symm.trans h
      obtain rfl := Option.some.inj h
      rfl
    · replace h := (if_neg c10).symm.trans h
      obtain ⟨v2, -, h⟩ := bnd h
      obtain ⟨H3, e_H3, h⟩ := bnd h
      have g_H3 := as_fr (c := c) (k := k) e_H3 hc.1
      obtain ⟨v4, -, h⟩ := bnd h
      obtain ⟨H5, e_H5, h⟩ := bnd h
      have g_H5 := as_fr (c := c) (k := k) e_H5 hc.2.1
      obtain ⟨v6, -, h⟩ := bnd h
      obtain ⟨H7, e_H7, h⟩ := bnd h
      have g_H7 := as_fr (c := c) (k := k) e_H7 hc.2.2
      exact (ih (x2 + 1) H7 q h).trans (g_H7.trans (g_H5.trans g_H3))
theorem fr_X4_takeGift_l12 {b : Nat}{n : Nat} {x2 : Int32} {H : Hp} {q : Hp} (h : f_X4_takeGift_l12 b n x2 H = some q) (c k : Nat) (hc : c ≠ b + 3 ∧ c ≠ b + 4 ∧ c ≠ b + 5) : q c k = H c k := fr_X4_takeGift_l12_i c k hc n x2 H q h
theorem fr_X4_takeGift {b : Nat} {x1 : Int32} {H : Hp} {q : Hp} (h : f_X4_takeGift b x1 H = some q) (c k : Nat) (hc : c ≠ b + 3 ∧ c ≠ b + 4 ∧ c ≠ b + 5 ∧ ¬ (c = b ∧ k = 4)) : q c k = H c k := by
  unfold f_X4_takeGift at h
  obtain ⟨H1, e_H1, h⟩ := bnd h
  have g_H1 := pf_fr (c := c) (k := k) e_H1 hc.2.2.2
  obtain ⟨l9, e_l9, h⟩ := bnd h
  have g_l9 := fr_X4_takeGift_l12 e_l9 c k ⟨hc.1, hc.2.1, hc.2.2.1⟩
  obtain rfl := Option.some.inj h; exact (g_l9.trans g_H1)
theorem fr_X4_rename_l2_i {b : Nat} {x1 : Int32} {x2 : Int32} (c k : Nat) (hc : c ≠ b + 2) : ∀ (n : Nat) (x3 : Int32) (H : Hp) (q : Hp), f_X4_rename_l2 b x1 x2 n x3 H = some q → q c k = H c k := by
  intro n
  induction n with
  | zero => intro x3 H q h; simp [f_X4_rename_l2] at h
  | succ n ih =>
    intro x3 H q h
    rw [f_X4_rename_l2] at h
    by_cases c7 : 10 ≤ x3
    · replace h := (if_pos c7).symm.trans h
      obtain rfl := Option.some.inj h
      rfl
    · replace h := (if_neg c7).symm.trans h
      obtain ⟨j2, e_j2, h⟩ := bnd h
      have g_j2 : j2 c k = H c k := by
        by_cases c8 : ((x1 >>> (x3 &&& 31)) &&& 1) = 1
        · replace e_j2 := (if_pos c8).symm.trans e_j2
          obtain ⟨H1, e_H1, e_j2⟩ := bnd e_j2
          have g_H1 := as_fr (c := c) (k := k) e_H1 hc
          obtain rfl := Option.some.inj e_j2
          exact g_H1
        · replace e_j2 := (if_neg c8).symm.trans e_j2
          obtain rfl := Option.some.inj e_j2
          rfl
      exact (ih (x3 + 1) j2 q h).trans g_j2
theorem fr_X4_rename_l2 {b : Nat} {x1 : Int32} {x2 : Int32}{n : Nat} {x3 : Int32} {H : Hp} {q : Hp} (h : f_X4_rename_l2 b x1 x2 n x3 H = some q) (c k : Nat) (hc : c ≠ b + 2) : q c k = H c k := fr_X4_rename_l2_i c k hc n x3 H q h
theorem fr_X4_rename {b : Nat} {x1 : Int32} {x2 : Int32} {H : Hp} {q : Hp} (h : f_X4_rename b x1 x2 H = some q) (c k : Nat) (hc : c ≠ b + 2) : q c k = H c k := by
  unfold f_X4_rename at h
  obtain ⟨l6, e_l6, h⟩ := bnd h
  have g_l6 := fr_X4_rename_l2 e_l6 c k hc
  obtain rfl := Option.some.inj h; exact g_l6
theorem fr_X0_revertLatest {H : Hp} {q : Hp} (h : f_X0_revertLatest H = some q) (c k : Nat) (hc : c ≠ 10 ∧ c ≠ 11 ∧ c ≠ 12 ∧ c ≠ 8 ∧ c ≠ 9 ∧ ¬ (c = 32 ∧ k = 5) ∧ ¬ (c = 32 ∧ k = 6) ∧ ¬ (c = 7 ∧ k = 1) ∧ ¬ (c = 7 ∧ k = 4)) : q c k = H c k := by
  unfold f_X0_revertLatest at h
  obtain ⟨H1, e_H1, h⟩ := bnd h
  have g_H1 := pf_fr (c := c) (k := k) e_H1 hc.2.2.2.2.2.1
  obtain ⟨H2, e_H2, h⟩ := bnd h
  have g_H2 := pf_fr (c := c) (k := k) e_H2 hc.2.2.2.2.2.2.1
  obtain ⟨v3, -, h⟩ := bnd h
  by_cases s18 : v3 = 0
  · replace h := (if_pos s18).symm.trans h
    obtain ⟨H4, e_H4, h⟩ := bnd h
    have g_H4 := fr_X4_takeGift e_H4 c k ⟨hc.1, hc.2.1, hc.2.2.1, hc.2.2.2.2.2.2.2.2⟩
    obtain rfl := Option.some.inj h; exact (g_H4.trans (g_H2.trans g_H1))
  · replace h := (if_neg s18).symm.trans h
    by_cases s19 : v3 = 1
    · replace h := (if_pos s19).symm.trans h
      obtain ⟨v5, -, h⟩ := bnd h
      obtain ⟨v6, -, h⟩ := bnd h
      obtain ⟨v7, -, h⟩ := bnd h
      obtain ⟨v8, -, h⟩ := bnd h
      obtain ⟨H9, e_H9, h⟩ := bnd h
      have g_H9 := fr_X4_putGift e_H9 c k ⟨hc.1, hc.2.1, hc.2.2.1, hc.2.2.2.2.2.2.2.2⟩
      obtain rfl := Option.some.inj h; exact (g_H9.trans (g_H2.trans g_H1))
    · replace h := (if_neg s19).symm.trans h
      by_cases s20 : v3 = 2
      · replace h := (if_pos s20).symm.trans h
        obtain ⟨v10, -, h⟩ := bnd h
        obtain ⟨H11, e_H11, h⟩ := bnd h
        have g_H11 := pf_fr (c := c) (k := k) e_H11 hc.2.2.2.2.2.2.2.1
        obtain rfl := Option.some.inj h; exact (g_H11.trans (g_H2.trans g_H1))
      · replace h := (if_neg s20).symm.trans h
        by_cases s21 : v3 = 3
        · replace h := (if_pos s21).symm.trans h
          obtain ⟨v12, -, h⟩ := bnd h
          obtain ⟨v13, -, h⟩ := bnd h
          obtain ⟨H14, e_H14, h⟩ := bnd h
          have g_H14 := as_fr (c := c) (k := k) e_H14 hc.2.2.2.1
          obtain rfl := Option.some.inj h; exact (g_H14.trans (g_H2.trans g_H1))
        · replace h := (if_neg s21).symm.trans h
          obtain ⟨v15, -, h⟩ := bnd h
          obtain ⟨v16, -, h⟩ := bnd h
          obtain ⟨H17, e_H17, h⟩ := bnd h
          have g_H17 := fr_X4_rename e_H17 c k hc.2.2.2.2.1
          obtain rfl := Option.some.inj h; exact (g_H17.trans (g_H2.trans g_H1))
theorem fr_X7_undo {H : Hp} {q : Int32 × Hp} (h : f_X7_undo H = some q) (c k : Nat) (hc : c ≠ 10 ∧ c ≠ 11 ∧ c ≠ 12 ∧ c ≠ 8 ∧ c ≠ 9 ∧ ¬ (c = 32 ∧ k = 5) ∧ ¬ (c = 32 ∧ k = 6) ∧ ¬ (c = 7 ∧ k = 1) ∧ ¬ (c = 7 ∧ k = 4)) : q.2 c k = H c k := by
  unfold f_X7_undo at h
  by_cases c2 : (H 32 6) = 0
  · replace h := (if_pos c2).symm.trans h
    obtain rfl := Option.some.inj h; exact rfl
  · replace h := (if_neg c2).symm.trans h
    obtain ⟨H1, e_H1, h⟩ := bnd h
    have g_H1 := fr_X0_revertLatest e_H1 c k ⟨hc.1, hc.2.1, hc.2.2.1, hc.2.2.2.1, hc.2.2.2.2.1, hc.2.2.2.2.2.1, hc.2.2.2.2.2.2.1, hc.2.2.2.2.2.2.2.1, hc.2.2.2.2.2.2.2.2⟩
    obtain rfl := Option.some.inj h; exact g_H1
theorem fr_X0_keep {x1 : Int32} {x2 : Int32} {x3 : Int32} {x4 : Int32} {x5 : Int32} {H : Hp} {q : Hp} (h : f_X0_keep x1 x2 x3 x4 x5 H = some q) (c k : Nat) (hc : c ≠ 33 ∧ c ≠ 34 ∧ c ≠ 35 ∧ c ≠ 36 ∧ c ≠ 37 ∧ ¬ (c = 32 ∧ k = 5) ∧ ¬ (c = 32 ∧ k = 6)) : q c k = H c k := by
  unfold f_X0_keep at h
  obtain ⟨H1, e_H1, h⟩ := bnd h
  have g_H1 := as_fr (c := c) (k := k) e_H1 hc.1
  obtain ⟨H2, e_H2, h⟩ := bnd h
  have g_H2 := as_fr (c := c) (k := k) e_H2 hc.2.1
  obtain ⟨H3, e_H3, h⟩ := bnd h
  have g_H3 := as_fr (c := c) (k := k) e_H3 hc.2.2.1
  obtain ⟨H4, e_H4, h⟩ := bnd h
  have g_H4 := as_fr (c := c) (k := k) e_H4 hc.2.2.2.1
  obtain ⟨H5, e_H5, h⟩ := bnd h
  have g_H5 := as_fr (c := c) (k := k) e_H5 hc.2.2.2.2.1
  obtain ⟨H6, e_H6, h⟩ := bnd h
  have g_H6 := pf_fr (c := c) (k := k) e_H6 hc.2.2.2.2.2.1
  obtain ⟨H7, e_H7, h⟩ := bnd h
  have g_H7 := pf_fr (c := c) (k := k) e_H7 hc.2.2.2.2.2.2
  obtain rfl := Option.some.inj h; exact (g_H7.trans (g_H6.trans (g_H5.trans (g_H4.trans (g_H3.trans (g_H2.trans g_H1))))))
theorem fr_X7_give {x1 : Int32} {x2 : Int32} {x3 : Int32} {H : Hp} {q : Int32 × Hp} (h : f_X7_give x1 x2 x3 H = some q) (c k : Nat) (hc : c ≠ 10 ∧ c ≠ 11 ∧ c ≠ 12 ∧ c ≠ 33 ∧ c ≠ 34 ∧ c ≠ 35 ∧ c ≠ 36 ∧ c ≠ 37 ∧ ¬ (c = 32 ∧ k = 5) ∧ ¬ (c = 32 ∧ k = 6) ∧ ¬ (c = 7 ∧ k = 4)) : q.2 c k = H c k := by
  unfold f_X7_give at h
  obtain ⟨v1, -, h⟩ := bnd h
  by_cases c6 : v1 = 0
  · replace h := (if_pos c6).symm.trans h
    obtain rfl := Option.some.inj h; exact rfl
  · replace h := (if_neg c6).symm.trans h
    obtain ⟨v2, -, h⟩ := bnd h
    by_cases c7 : v2 = 0
    · replace h := (if_pos c7).symm.trans h
      obtain rfl := Option.some.inj h; exact rfl
    · replace h := (if_neg c7).symm.trans h
      obtain ⟨v3, -, h⟩ := bnd h
      by_cases c8 : v3 = 0
      · replace h := (if_pos c8).symm.trans h
        obtain rfl := Option.some.inj h; exact rfl
      · replace h := (if_neg c8).symm.trans h
        by_cases c9 : (H 7 4) < 20
        · replace h := (if_pos c9).symm.trans h
          obtain ⟨H4, e_H4, h⟩ := bnd h
          have g_H4 := fr_X4_putGift e_H4 c k ⟨hc.1, hc.2.1, hc.2.2.1, hc.2.2.2.2.2.2.2.2.2.2⟩
          obtain ⟨H5, e_H5, h⟩ := bnd h
          have g_H5 := fr_X0_keep e_H5 c k ⟨hc.2.2.2.1, hc.2.2.2.2.1, hc.2.2.2.2.2.1, hc.2.2.2.2.2.2.1, hc.2.2.2.2.2.2.2.1, hc.2.2.2.2.2.2.2.2.1, hc.2.2.2.2.2.2.2.2.2.1⟩
          obtain rfl := Option.some.inj h; exact (g_H5.trans g_H4)
        · replace h := (if_neg c9).symm.trans h
          obtain rfl := Option.some.inj h; exact rfl
theorem fr_X7_back {x1 : Int32} {H : Hp} {q : Int32 × Hp} (h : f_X7_back x1 H = some q) (c k : Nat) (hc : c ≠ 10 ∧ c ≠ 11 ∧ c ≠ 12 ∧ c ≠ 33 ∧ c ≠ 34 ∧ c ≠ 35 ∧ c ≠ 36 ∧ c ≠ 37 ∧ ¬ (c = 32 ∧ k = 5) ∧ ¬ (c = 32 ∧ k = 6) ∧ ¬ (c = 7 ∧ k = 4)) : q.2 c k = H c k := by
  unfold f_X7_back at h
  obtain ⟨v1, -, h⟩ := bnd h
  by_cases c7 : v1 = 0
  · replace h := (if_pos c7).symm.trans h
    obtain rfl := Option.some.inj h; exact rfl
  · replace h := (if_neg c7).symm.trans h
    obtain ⟨v2, -, h⟩ := bnd h
    obtain ⟨v3, -, h⟩ := bnd h
    obtain ⟨v4, -, h⟩ := bnd h
    obtain ⟨H5, e_H5, h⟩ := bnd h
    have g_H5 := fr_X0_keep e_H5 c k ⟨hc.2.2.2.1, hc.2.2.2.2.1, hc.2.2.2.2.2.1, hc.2.2.2.2.2.2.1, hc.2.2.2.2.2.2.2.1, hc.2.2.2.2.2.2.2.2.1, hc.2.2.2.2.2.2.2.2.2.1⟩
    obtain ⟨H6, e_H6, h⟩ := bnd h
    have g_H6 := fr_X4_takeGift e_H6 c k ⟨hc.1, hc.2.1, hc.2.2.1, hc.2.2.2.2.2.2.2.2.2.2⟩
    obtain rfl := Option.some.inj h; exact (g_H6.trans g_H5)
theorem fr_X7_pot {x1 : Int32} {H : Hp} {q : Int32 × Hp} (h : f_X7_pot x1 H = some q) (c k : Nat) (hc : c ≠ 33 ∧ c ≠ 34 ∧ c ≠ 35 ∧ c ≠ 36 ∧ c ≠ 37 ∧ ¬ (c = 32 ∧ k = 5) ∧ ¬ (c = 32 ∧ k = 6) ∧ ¬ (c = 7 ∧ k = 1)) : q.2 c k = H c k := by
  unfold f_X7_pot at h
  by_cases c4 : (H 7 0) = 0
  · replace h := (if_pos c4).symm.trans h
    obtain rfl := Option.some.inj h; exact rfl
  · replace h := (if_neg c4).symm.trans h
    obtain ⟨v1, -, h⟩ := bnd h
    by_cases c5 : v1 = 0
    · replace h := (if_pos c5).symm.trans h
      obtain rfl := Option.some.inj h; exact rfl
    · replace h := (if_neg c5).symm.trans h
      obtain ⟨H2, e_H2, h⟩ := bnd h
      have g_H2 := fr_X0_keep e_H2 c k ⟨hc.1, hc.2.1, hc.2.2.1, hc.2.2.2.1, hc.2.2.2.2.1, hc.2.2.2.2.2.1, hc.2.2.2.2.2.2.1⟩
      obtain ⟨H3, e_H3, h⟩ := bnd h
      have g_H3 := pf_fr (c := c) (k := k) e_H3 hc.2.2.2.2.2.2.2
      obtain rfl := Option.some.inj h; exact (g_H3.trans g_H2)
theorem fr_X7_become {x1 : Int32} {x2 : Int32} {H : Hp} {q : Int32 × Hp} (h : f_X7_become x1 x2 H = some q) (c k : Nat) (hc : c ≠ 33 ∧ c ≠ 34 ∧ c ≠ 35 ∧ c ≠ 36 ∧ c ≠ 37 ∧ c ≠ 8 ∧ ¬ (c = 32 ∧ k = 5) ∧ ¬ (c = 32 ∧ k = 6)) : q.2 c k = H c k := by
  unfold f_X7_become at h
  obtain ⟨v1, -, h⟩ := bnd h
  by_cases c6 : v1 = 0
  · replace h := (if_pos c6).symm.trans h
    obtain rfl := Option.some.inj h; exact rfl
  · replace h := (if_neg c6).symm.trans h
    obtain ⟨v2, -, h⟩ := bnd h
    by_cases c7 : v2 = 0
    · replace h := (if_pos c7).symm.trans h
      obtain rfl := Option.some.inj h; exact rfl
    · replace h := (if_neg c7).symm.trans h
      obtain ⟨v3, -, h⟩ := bnd h
      by_cases c8 : v3 = x2
      · replace h := (if_pos c8).symm.trans h
        obtain rfl := Option.some.inj h; exact rfl
      · replace h := (if_neg c8).symm.trans h
        obtain ⟨H4, e_H4, h⟩ := bnd h
        have g_H4 := fr_X0_keep e_H4 c k ⟨hc.1, hc.2.1, hc.2.2.1, hc.2.2.2.1, hc.2.2.2.2.1, hc.2.2.2.2.2.2.1, hc.2.2.2.2.2.2.2⟩
        obtain ⟨H5, e_H5, h⟩ := bnd h
        have g_H5 := as_fr (c := c) (k := k) e_H5 hc.2.2.2.2.2.1
        obtain rfl := Option.some.inj h; exact (g_H5.trans g_H4)
theorem fr_X7_one {x1 : Int32} {x2 : Int32} {H : Hp} {q : Int32 × Hp} (h : f_X7_one x1 x2 H = some q) (c k : Nat) (hc : c ≠ 33 ∧ c ≠ 34 ∧ c ≠ 35 ∧ c ≠ 36 ∧ c ≠ 37 ∧ c ≠ 9 ∧ ¬ (c = 32 ∧ k = 5) ∧ ¬ (c = 32 ∧ k = 6)) : q.2 c k = H c k := by
  unfold f_X7_one at h
  by_cases c7 : (H 7 0) = 0
  · replace h := (if_pos c7).symm.trans h
    obtain rfl := Option.some.inj h; exact rfl
  · replace h := (if_neg c7).symm.trans h
    obtain ⟨v1, -, h⟩ := bnd h
    by_cases c8 : v1 = 0
    · replace h := (if_pos c8).symm.trans h
      obtain rfl := Option.some.inj h; exact rfl
    · replace h := (if_neg c8).symm.trans h
      obtain ⟨v2, -, h⟩ := bnd h
      obtain ⟨v3, -, h⟩ := bnd h
      by_cases c9 : v2 = v3
      · replace h := (if_pos c9).symm.trans h
        obtain rfl := Option.some.inj h; exact rfl
      · replace h := (if_neg c9).symm.trans h
        obtain ⟨v4, -, h⟩ := bnd h
        obtain ⟨H5, e_H5, h⟩ := bnd h
        have g_H5 := fr_X0_keep e_H5 c k ⟨hc.1, hc.2.1, hc.2.2.1, hc.2.2.2.1, hc.2.2.2.2.1, hc.2.2.2.2.2.2.1, hc.2.2.2.2.2.2.2⟩
        obtain ⟨H6, e_H6, h⟩ := bnd h
        have g_H6 := fr_X4_rename e_H6 c k hc.2.2.2.2.2.1
        obtain rfl := Option.some.inj h; exact (g_H6.trans g_H5)
theorem fr_X2_lay_l26_i (c k : Nat) (hc : c ≠ 39 ∧ c ≠ 40) : ∀ (n : Nat) (x2 : Int32) (H : Hp) (q : Hp), f_X2_lay_l26 n x2 H = some q → q c k = H c k := by
  intro n
  induction n with
  | zero => intro x2 H q h; simp [f_X2_lay_l26] at h
  | succ n ih =>
    intro x2 H q h
    rw [f_X2_lay_l26] at h
    by_cases c25 : 60 ≤ x2
    · replace h := (if_pos c25).symm.trans h
      obtain rfl := Option.some.inj h
      rfl
    · replace h := (if_neg c25).symm.trans h
      obtain ⟨H4, e_H4, h⟩ := bnd h
      have g_H4 := as_fr (c := c) (k := k) e_H4 hc.1
      obtain ⟨H5, e_H5, h⟩ := bnd h
      have g_H5 := as_fr (c := c) (k := k) e_H5 hc.2
      exact (ih (x2 + 1) H5 q h).trans (g_H5.trans g_H4)
theorem fr_X2_lay_l26{n : Nat} {x2 : Int32} {H : Hp} {q : Hp} (h : f_X2_lay_l26 n x2 H = some q) (c k : Nat) (hc : c ≠ 39 ∧ c ≠ 40) : q c k = H c k := fr_X2_lay_l26_i c k hc n x2 H q h
theorem fr_X2_lay_l54_i (c k : Nat) (hc : c ≠ 39) : ∀ (n : Nat) (x2 : Int32) (H : Hp) (q : Hp), f_X2_lay_l54 n x2 H = some q → q c k = H c k := by
  intro n
  induction n with
  | zero => intro x2 H q h; simp [f_X2_lay_l54] at h
  | succ n ih =>
    intro x2 H q h
    rw [f_X2_lay_l54] at h
    by_cases c26 : (H 7 4) ≤ x2
    · replace h := (if_pos c26).symm.trans h
      obtain rfl := Option.some.inj h
      rfl
    · replace h := (if_neg c26).symm.trans h
      obtain ⟨v8, -, h⟩ := bnd h
      obtain ⟨v9, -, h⟩ := bnd h
      obtain ⟨v10, -, h⟩ := bnd h
      obtain ⟨v11, -, h⟩ := bnd h
      obtain ⟨v12, -, h⟩ := bnd h
      obtain ⟨H13, e_H13, h⟩ := bnd h
      have g_H13 := as_fr (c := c) (k := k) e_H13 hc
      exact (ih (x2 + 1) H13 q h).trans g_H13
theorem fr_X2_lay_l54{n : Nat} {x2 : Int32} {H : Hp} {q : Hp} (h : f_X2_lay_l54 n x2 H = some q) (c k : Nat) (hc : c ≠ 39) : q c k = H c k := fr_X2_lay_l54_i c k hc n x2 H q h
theorem fr_X2_lay_l105_i (c k : Nat) (hc : c ≠ 40) : ∀ (n : Nat) (x2 : Int32) (H : Hp) (q : Hp), f_X2_lay_l105 n x2 H = some q → q c k = H c k := by
  intro n
  induction n with
  | zero => intro x2 H q h; simp [f_X2_lay_l105] at h
  | succ n ih =>
    intro x2 H q h
    rw [f_X2_lay_l105] at h
    by_cases c27 : 60 ≤ x2
    · replace h := (if_pos c27).symm.trans h
      obtain rfl := Option.some.inj h
      rfl
    · replace h := (if_neg c27).symm.trans h
      obtain ⟨v16, -, h⟩ := bnd h
      obtain ⟨j20, e_j20, h⟩ := bnd h
      have g_j20 : j20 c k = H c k := by
        by_cases c28 : v16 ≤ 0
        · replace e_j20 := (if_pos c28).symm.trans e_j20
          obtain rfl := Option.some.inj e_j20
          rfl
        · replace e_j20 := (if_neg c28).symm.trans e_j20
          obtain ⟨v17, -, e_j20⟩ := bnd e_j20
          obtain ⟨v18, -, e_j20⟩ := bnd e_j20
          obtain ⟨H19, e_H19, e_j20⟩ := bnd e_j20
          have g_H19 := as_fr (c := c) (k := k) e_H19 hc
          obtain rfl := Option.some.inj e_j20
          exact g_H19
      exact (ih (x2 + 1) j20 q h).trans g_j20
theorem fr_X2_lay_l105{n : Nat} {x2 : Int32} {H : Hp} {q : Hp} (h : f_X2_lay_l105 n x2 H = some q) (c k : Nat) (hc : c ≠ 40) : q c k = H c k := fr_X2_lay_l105_i c k hc n x2 H q h
theorem fr_X2_lay {H : Hp} {q : Hp} (h : f_X2_lay H = some q) (c k : Nat) (hc : c ≠ 39 ∧ c ≠ 40 ∧ ¬ (c = 38 ∧ k = 10) ∧ ¬ (c = 38 ∧ k = 11) ∧ ¬ (c = 38 ∧ k = 12)) : q c k = H c k := by
  unfold f_X2_lay at h
  obtain ⟨H1, e_H1, h⟩ := bnd h
  have g_H1 := pf_fr (c := c) (k := k) e_H1 hc.2.2.1
  obtain ⟨H2, e_H2, h⟩ := bnd h
  have g_H2 := pf_fr (c := c) (k := k) e_H2 hc.2.2.2.1
  obtain ⟨H3, e_H3, h⟩ := bnd h
  have g_H3 := pf_fr (c := c) (k := k) e_H3 hc.2.2.2.2
  obtain ⟨l7, e_l7, h⟩ := bnd h
  have g_l7 := fr_X2_lay_l26 e_l7 c k ⟨hc.1, hc.2.1⟩
  obtain ⟨l15, e_l15, h⟩ := bnd h
  have g_l15 := fr_X2_lay_l54 e_l15 c k hc.1
  obtain ⟨l24, e_l24, h⟩ := bnd h
  have g_l24 := fr_X2_lay_l105 e_l24 c k hc.2.1
  obtain rfl := Option.some.inj h; exact (g_l24.trans (g_l15.trans (g_l7.trans (g_H3.trans (g_H2.trans g_H1)))))
theorem fr_X7_sum {x1 : Int32} {x2 : Int32} {H : Hp} {q : Int32 × Hp} (h : f_X7_sum x1 x2 H = some q) (c k : Nat) (hc : c ≠ 39 ∧ c ≠ 40 ∧ ¬ (c = 38 ∧ k = 10) ∧ ¬ (c = 38 ∧ k = 11) ∧ ¬ (c = 38 ∧ k = 12)) : q.2 c k = H c k := by
  unfold f_X7_sum at h
  obtain ⟨v1, -, h⟩ := bnd h
  by_cases c5 : v1 = 0
  · replace h := (if_pos c5).symm.trans h
    obtain rfl := Option.some.inj h; exact rfl
  · replace h := (if_neg c5).symm.trans h
    obtain ⟨v2, -, h⟩ := bnd h
    by_cases c6 : v2 = 0
    · replace h := (if_pos c6).symm.trans h
      obtain rfl := Option.some.inj h; exact rfl
    · replace h := (if_neg c6).symm.trans h
      obtain ⟨H3, e_H3, h⟩ := bnd h
      have g_H3 := fr_X2_lay e_H3 c k ⟨hc.1, hc.2.1, hc.2.2.1, hc.2.2.2.1, hc.2.2.2.2⟩
      obtain ⟨v4, -, h⟩ := bnd h
      obtain rfl := Option.some.inj h; exact g_H3
theorem fr_X7_overlap {x1 : Int32} {x2 : Int32} {H : Hp} {q : Int32 × Hp} (h : f_X7_overlap x1 x2 H = some q) (c k : Nat) (hc : c ≠ 39 ∧ c ≠ 40 ∧ ¬ (c = 38 ∧ k = 10) ∧ ¬ (c = 38 ∧ k = 11) ∧ ¬ (c = 38 ∧ k = 12)) : q.2 c k = H c k := by
  unfold f_X7_overlap at h
  by_cases c4 : (H 7 0) = 0
  · replace h := (if_pos c4).symm.trans h
    obtain rfl := Option.some.inj h; exact rfl
  · replace h := (if_neg c4).symm.trans h
    obtain ⟨v1, -, h⟩ := bnd h
    by_cases c5 : v1 = 0
    · replace h := (if_pos c5).symm.trans h
      obtain rfl := Option.some.inj h; exact rfl
    · replace h := (if_neg c5).symm.trans h
      obtain ⟨H2, e_H2, h⟩ := bnd h
      have g_H2 := fr_X2_lay e_H2 c k ⟨hc.1, hc.2.1, hc.2.2.1, hc.2.2.2.1, hc.2.2.2.2⟩
      obtain ⟨v3, -, h⟩ := bnd h
      obtain rfl := Option.some.inj h; exact g_H2
theorem fr_X7_term {x1 : Int32} {x2 : Int32} {x3 : Int32} {H : Hp} {q : Int32 × Hp} (h : f_X7_term x1 x2 x3 H = some q) (c k : Nat) (hc : c ≠ 39 ∧ c ≠ 40 ∧ ¬ (c = 38 ∧ k = 10) ∧ ¬ (c = 38 ∧ k = 11) ∧ ¬ (c = 38 ∧ k = 12)) : q.2 c k = H c k := by
  unfold f_X7_term at h
  obtain ⟨v1, -, h⟩ := bnd h
  by_cases c6 : v1 = 0
  · replace h := (if_pos c6).symm.trans h
    obtain rfl := Option.some.inj h; exact rfl
  · replace h := (if_neg c6).symm.trans h
    obtain ⟨v2, -, h⟩ := bnd h
    by_cases c7 : v2 = 0
    · replace h := (if_pos c7).symm.trans h
      obtain rfl := Option.some.inj h; exact rfl
    · replace h := (if_neg c7).symm.trans h
      obtain ⟨H3, e_H3, h⟩ := bnd h
      have g_H3 := fr_X2_lay e_H3 c k ⟨hc.1, hc.2.1, hc.2.2.1, hc.2.2.2.1, hc.2.2.2.2⟩
      obtain ⟨v4, -, h⟩ := bnd h
      obtain ⟨v5, -, h⟩ := bnd h
      obtain rfl := Option.some.inj h; exact g_H3
theorem fr_X2_weighPair_l17_i {x1 : Int32} {x2 : Int32} {x3 : Int32} {x4 : Int32} (c k : Nat) (hc : c ≠ 46) : ∀ (n : Nat) (x5 : Int32) (H : Hp) (q : Hp), f_X2_weighPair_l17 x1 x2 x3 x4 n x5 H = some q → q c k = H c k := by
  intro n
  induction n with
  | zero => intro x5 H q h; simp [f_X2_weighPair_l17] at h
  | succ n ih =>
    intro x5 H q h
    rw [f_X2_weighPair_l17] at h
    by_cases c7 : (H 38 10) ≤ x5
    · replace h := (if_pos c7).symm.trans h
      obtain rfl := Option.some.inj h
      rfl
    · replace h := (if_neg c7).symm.trans h
      obtain ⟨v2, -, h⟩ := bnd h
      obtain ⟨v3, -, h⟩ := bnd h
      obtain ⟨H4, e_H4, h⟩ := bnd h
      have g_H4 := as_fr (c := c) (k := k) e_H4 hc
      exact (ih (x5 + 1) H4 q h).trans g_H4
theorem fr_X2_weighPair_l17 {x1 : Int32} {x2 : Int32} {x3 : Int32} {x4 : Int32}{n : Nat} {x5 : Int32} {H : Hp} {q : Hp} (h : f_X2_weighPair_l17 x1 x2 x3 x4 n x5 H = some q) (c k : Nat) (hc : c ≠ 46) : q c k = H c k := fr_X2_weighPair_l17_i c k hc n x5 H q h
theorem fr_X2_weighPair {x1 : Int32} {x2 : Int32} {x3 : Int32} {H : Hp} {q : Hp} (h : f_X2_weighPair x1 x2 x3 H = some q) (c k : Nat) (hc : c ≠ 46) : q c k = H c k := by
  unfold f_X2_weighPair at h
  obtain ⟨v1, -, h⟩ := bnd h
  by_cases c8 : v1 = 0
  · replace h := (if_pos c8).symm.trans h
    obtain rfl := Option.some.inj h; exact rfl
  · replace h := (if_neg c8).symm.trans h
    obtain ⟨l6, e_l6, h⟩ := bnd h
    have g_l6 := fr_X2_weighPair_l17 e_l6 c k hc
    obtain rfl := Option.some.inj h; exact g_l6
theorem fr_X2_weigh_l26_i {x1 : Int32} {x2 : Int32} (c k : Nat) (hc : c ≠ 43 ∧ c ≠ 44 ∧ c ≠ 45) : ∀ (n : Nat) (x3 : Int32) (H : Hp) (q : Hp), f_X2_weigh_l26 x1 x2 n x3 H = some q → q c k = H c k := by
  intro n
  induction n with
  | zero => intro x3 H q h; simp [f_X2_weigh_l26] at h
  | succ n ih =>
    intro x3 H q h
    rw [f_X2_weigh_l26] at h
    by_cases c25 : (H 38 10) ≤ x3
    · replace h := (if_pos c25).symm.trans h
      obtain rfl := Option.some.inj h
      rfl
    · replace h := (if_neg c25).symm.trans h
      obtain ⟨v3, -, h⟩ := bnd h
      obtain ⟨v4, -, h⟩ := bnd h
      obtain ⟨H5, e_H5, h⟩ := bnd h
      have g_H5 := as_fr (c := c) (k := k) e_H5 hc.1
      obtain ⟨v6, -, h⟩ := bnd h
      obtain ⟨v7, -, h⟩ := bnd h
      obtain ⟨H8, e_H8, h⟩ := bnd h
      have g_H8 := as_fr (c := c) (k := k) e_H8 hc.2.1
      obtain ⟨v9, -, h⟩ := bnd h
      obtain ⟨v10, -, h⟩ := bnd h
      obtain ⟨H11, e_H11, h⟩ := bnd h
      have g_H11 := as_fr (c := c) (k := k) e_H11 hc.2.2
      exact (ih (x3 + 1) H11 q h).trans (g_H11.trans (g_H8.trans g_H5))
theorem fr_X2_weigh_l26 {x1 : Int32} {x2 : Int32}{n : Nat} {x3 : Int32} {H : Hp} {q : Hp} (h : f_X2_weigh_l26 x1 x2 n x3 H = some q) (c k : Nat) (hc : c ≠ 43 ∧ c ≠ 44 ∧ c ≠ 45) : q c k = H c k := fr_X2_weigh_l26_i c k hc n x3 H q h
theorem fr_X2_weigh_l110_i {x1 : Int32} {x2 : Int32} (c k : Nat) (hc : c ≠ 46) : ∀ (n : Nat) (x3 : Int32) (H : Hp) (q : Hp), f_X2_weigh_l110 x1 x2 n x3 H = some q → q c k = H c k := by
  intro n
  induction n with
  | zero => intro x3 H q h; simp [f_X2_weigh_l110] at h
  | succ n ih =>
    intro x3 H q h
    rw [f_X2_weigh_l110] at h
    by_cases c26 : 10 ≤ x3
    · replace h := (if_pos c26).symm.trans h
      obtain rfl := Option.some.inj h
      rfl
    · replace h := (if_neg c26).symm.trans h
      obtain ⟨v17, -, h⟩ := bnd h
      obtain ⟨j19, e_j19, h⟩ := bnd h
      have g_j19 : j19 c k = H c k := by
        by_cases c27 : v17 = 0
        · replace e_j19 := (if_pos c27).symm.trans e_j19
          obtain rfl := Option.some.inj e_j19
          rfl
        · replace e_j19 := (if_neg c27).symm.trans e_j19
          by_cases c28 : x3 = x1
          · replace e_j19 := (if_pos c28).symm.trans e_j19
            obtain rfl := Option.some.inj e_j19
            rfl
          · replace e_j19 := (if_neg c28).symm.trans e_j19
            obtain ⟨H18, e_H18, e_j19⟩ := bnd e_j19
            have g_H18 := fr_X2_weighPair e_H18 c k hc
            obtain rfl := Option.some.inj e_j19
            exact g_H18
      exact (ih (x3 + 1) j19 q h).trans g_j19
theorem fr_X2_weigh_l110 {x1 : Int32} {x2 : Int32}{n : Nat} {x3 : Int32} {H : Hp} {q : Hp} (h : f_X2_weigh_l110 x1 x2 n x3 H = some q) (c k : Nat) (hc : c ≠ 46) : q c k = H c k := fr_X2_weigh_l110_i c k hc n x3 H q h
theorem fr_X2_weigh {x1 : Int32} {x2 : Int32} {H : Hp} {q : Hp} (h : f_X2_weigh x1 x2 H = some q) (c k : Nat) (hc : c ≠ 41 ∧ c ≠ 43 ∧ c ≠ 44 ∧ c ≠ 45 ∧ c ≠ 46) : q c k = H c k := by
  unfold f_X2_weigh at h
  obtain ⟨v1, -, h⟩ := bnd h
  by_cases c29 : v1 = 0
  · replace h := (if_pos c29).symm.trans h
    obtain rfl := Option.some.inj h; exact rfl
  · replace h := (if_neg c29).symm.trans h
    obtain ⟨H2, e_H2, h⟩ := bnd h
    have g_H2 := as_fr (c := c) (k := k) e_H2 hc.1
    obtain ⟨l16, e_l16, h⟩ := bnd h
    have g_l16 := fr_X2_weigh_l26 e_l16 c k ⟨hc.2.1, hc.2.2.1, hc.2.2.2.1⟩
    obtain ⟨l24, e_l24, h⟩ := bnd h
    have g_l24 := fr_X2_weigh_l110 e_l24 c k hc.2.2.2.2
    obtain rfl := Option.some.inj h; exact (g_l24.trans (g_l16.trans g_H2))
theorem fr_X2_join {x1 : Int32} {H : Hp} {q : Hp} (h : f_X2_join x1 H = some q) (c k : Nat) (hc : c ≠ 41 ∧ c ≠ 43 ∧ c ≠ 44 ∧ c ≠ 45 ∧ c ≠ 46) : q c k = H c k := by
  unfold f_X2_join at h
  obtain ⟨H1, e_H1, h⟩ := bnd h
  have g_H1 := fr_X2_weigh e_H1 c k ⟨hc.1, hc.2.1, hc.2.2.1, hc.2.2.2.1, hc.2.2.2.2⟩
  obtain rfl := Option.some.inj h; exact g_H1
theorem fr_X2_load_l7_i (c k : Nat) (hc : c ≠ 42 ∧ c ≠ 43 ∧ c ≠ 44 ∧ c ≠ 45 ∧ c ≠ 46) : ∀ (n : Nat) (x2 : Int32) (H : Hp) (q : Hp), f_X2_load_l7 n x2 H = some q → q c k = H c k := by
  intro n
  induction n with
  | zero => intro x2 H q h; simp [f_X2_load_l7] at h
  | succ n ih =>
    intro x2 H q h
    rw [f_X2_load_l7] at h
    by_cases c16 : (H 38 10) ≤ x2
    · replace h := (if_pos c16).symm.trans h
      obtain rfl := Option.some.inj h
      rfl
    · replace h := (if_neg c16).symm.trans h
      obtain ⟨v2, -, h⟩ := bnd h
      obtain ⟨H3, e_H3, h⟩ := bnd h
      have g_H3 := as_fr (c := c) (k := k) e_H3 hc.1
      obtain ⟨H4, e_H4, h⟩ := bnd h
      have g_H4 := as_fr (c := c) (k := k) e_H4 hc.2.1
      obtain ⟨H5, e_H5, h⟩ := bnd h
      have g_H5 := as_fr (c := c) (k := k) e_H5 hc.2.2.1
      obtain ⟨H6, e_H6, h⟩ := bnd h
      have g_H6 := as_fr (c := c) (k := k) e_H6 hc.2.2.2.1
      obtain ⟨H7, e_H7, h⟩ := bnd h
      have g_H7 := as_fr (c := c) (k := k) e_H7 hc.2.2.2.2
      exact (ih (x2 + 1) H7 q h).trans (g_H7.trans (g_H6.trans (g_H5.trans (g_H4.trans g_H3))))
theorem fr_X2_load_l7{n : Nat} {x2 : Int32} {H : Hp} {q : Hp} (h : f_X2_load_l7 n x2 H = some q) (c k : Nat) (hc : c ≠ 42 ∧ c ≠ 43 ∧ c ≠ 44 ∧ c ≠ 45 ∧ c ≠ 46) : q c k = H c k := fr_X2_load_l7_i c k hc n x2 H q h
theorem fr_X2_load_l63_i (c k : Nat) (hc : c ≠ 41) : ∀ (n : Nat) (x2 : Int32) (H : Hp) (q : Hp), f_X2_load_l63 n x2 H = some q → q c k = H c k := by
  intro n
  induction n with
  | zero => intro x2 H q h; simp [f_X2_load_l63] at h
  | succ n ih =>
    intro x2 H q h
    rw [f_X2_load_l63] at h
    by_cases c17 : 10 ≤ x2
    · replace h := (if_pos c17).symm.trans h
      obtain rfl := Option.some.inj h
      rfl
    · replace h := (if_neg c17).symm.trans h
      obtain ⟨H10, e_H10, h⟩ := bnd h
      have g_H10 := as_fr (c := c) (k := k) e_H10 hc
      exact (ih (x2 + 1) H10 q h).trans g_H10
theorem fr_X2_load_l63{n : Nat} {x2 : Int32} {H : Hp} {q : Hp} (h : f_X2_load_l63 n x2 H = some q) (c k : Nat) (hc : c ≠ 41) : q c k = H c k := fr_X2_load_l63_i c k hc n x2 H q h
theorem fr_X2_load_l84_i (c k : Nat) (hc : c ≠ 41 ∧ c ≠ 43 ∧ c ≠ 44 ∧ c ≠ 45 ∧ c ≠ 46) : ∀ (n : Nat) (x2 : Int32) (H : Hp) (q : Hp), f_X2_load_l84 n x2 H = some q → q c k = H c k := by
  intro n
  induction n with
  | zero => intro x2 H q h; simp [f_X2_load_l84] at h
  | succ n ih =>
    intro x2 H q h
    rw [f_X2_load_l84] at h
    by_cases c18 : 10 ≤ x2
    · replace h := (if_pos c18).symm.trans h
      obtain rfl := Option.some.inj h
      rfl
    · replace h := (if_neg c18).symm.trans h
      obtain ⟨H13, e_H13, h⟩ := bnd h
      have g_H13 := fr_X2_join e_H13 c k ⟨hc.1, hc.2.1, hc.2.2.1, hc.2.2.2.1, hc.2.2.2.2⟩
      exact (ih (x2 + 1) H13 q h).trans g_H13
theorem fr_X2_load_l84{n : Nat} {x2 : Int32} {H : Hp} {q : Hp} (h : f_X2_load_l84 n x2 H = some q) (c k : Nat) (hc : c ≠ 41 ∧ c ≠ 43 ∧ c ≠ 44 ∧ c ≠ 45 ∧ c ≠ 46) : q c k = H c k := fr_X2_load_l84_i c k hc n x2 H q h
theorem fr_X2_load {H : Hp} {q : Hp} (h : f_X2_load H = some q) (c k : Nat) (hc : c ≠ 39 ∧ c ≠ 40 ∧ c ≠ 41 ∧ c ≠ 42 ∧ c ≠ 43 ∧ c ≠ 44 ∧ c ≠ 45 ∧ c ≠ 46 ∧ ¬ (c = 38 ∧ k = 10) ∧ ¬ (c = 38 ∧ k = 11) ∧ ¬ (c = 38 ∧ k = 12)) : q c k = H c k := by
  unfold f_X2_load at h
  obtain ⟨H1, e_H1, h⟩ := bnd h
  have g_H1 := fr_X2_lay e_H1 c k ⟨hc.1, hc.2.1, hc.2.2.2.2.2.2.2.2.1, hc.2.2.2.2.2.2.2.2.2.1, hc.2.2.2.2.2.2.2.2.2.2⟩
  obtain ⟨l9, e_l9, h⟩ := bnd h
  have g_l9 := fr_X2_load_l7 e_l9 c k ⟨hc.2.2.2.1, hc.2.2.2.2.1, hc.2.2.2.2.2.1, hc.2.2.2.2.2.2.1, hc.2.2.2.2.2.2.2.1⟩
  obtain ⟨l12, e_l12, h⟩ := bnd h
  have g_l12 := fr_X2_load_l63 e_l12 c k hc.2.2.1
  obtain ⟨l15, e_l15, h⟩ := bnd h
  have g_l15 := fr_X2_load_l84 e_l15 c k ⟨hc.2.2.1, hc.2.2.2.2.1, hc.2.2.2.2.2.1, hc.2.2.2.2.2.2.1, hc.2.2.2.2.2.2.2.1⟩
  obtain rfl := Option.some.inj h; exact (g_l15.trans (g_l12.trans (g_l9.trans g_H1)))
theorem fr_X2_share_l51_i {x1 : Int32} (c k : Nat) (hc : c ≠ 48) : ∀ (n : Nat) (x2 : Int32) (x3 : Int32) (H : Hp) (q : Int32 × Hp), f_X2_share_l51 x1 n x2 x3 H = some q → q.2 c k = H c k := by
  intro n
  induction n with
  | zero => intro x2 x3 H q h; simp [f_X2_share_l51] at h
  | succ n ih =>
    intro x2 x3 H q h
    rw [f_X2_share_l51] at h
    by_cases c22 : (H 38 10) ≤ x3
    · replace h := (if_pos c22).symm.trans h
      obtain rfl := Option.some.inj h
      rfl
    · replace h := (if_neg c22).symm.trans h
      obtain ⟨v1, -, h⟩ := bnd h
      have n23 : ¬ (H 38 13) = 0 := fun z => by rw [if_pos z] at h; cases h
      replace h := (if_neg n23).symm.trans h
      obtain ⟨H2, e_H2, h⟩ := bnd h
      have g_H2 := as_fr (c := c) (k := k) e_H2 hc
      obtain ⟨v3, -, h⟩ := bnd h
      exact (ih (x2 - v3) (x3 + 1) H2 q h).trans g_H2
theorem fr_X2_share_l51 {x1 : Int32}{n : Nat} {x2 : Int32} {x3 : Int32} {H : Hp} {q : Int32 × Hp} (h : f_X2_share_l51 x1 n x2 x3 H = some q) (c k : Nat) (hc : c ≠ 48) : q.2 c k = H c k := fr_X2_share_l51_i c k hc n x2 x3 H q h
theorem fr_X2_share_l95_i (c k : Nat) (hc : c ≠ 48) : ∀ (n : Nat) (x2 : Int32) (x3 : Int32) (H : Hp) (q : Hp), f_X2_share_l95 n x2 x3 H = some q → q c k = H c k := by
  intro n
  induction n with
  | zero => intro x2 x3 H q h; simp [f_X2_share_l95] at h
  | succ n ih =>
    intro x2 x3 H q h
    rw [f_X2_share_l95] at h
    by_cases c24 : (H 38 10) ≤ x3
    · replace h := (if_pos c24).symm.trans h
      obtain rfl := Option.some.inj h
      rfl
    · replace h := (if_neg c24).symm.trans h
      by_cases c25 : x2 ≤ 0
      · replace h := (if_pos c25).symm.trans h
        obtain rfl := Option.some.inj h
        rfl
      · replace h := (if_neg c25).symm.trans h
        obtain ⟨v7, -, h⟩ := bnd h
        obtain ⟨j10, e_j10, h⟩ := bnd h
        have g_j10 : j10.2 c k = H c k := by
          by_cases c26 : v7 ≤ 0
          · replace e_j10 := (if_pos c26).symm.trans e_j10
            obtain rfl := Option.some.inj e_j10
            rfl
          · replace e_j10 := (if_neg c26).symm.trans e_j10
            obtain ⟨v8, -, e_j10⟩ := bnd e_j10
            obtain ⟨H9, e_H9, e_j10⟩ := bnd e_j10
            have g_H9 := as_fr (c := c) (k := k) e_H9 hc
            obtain rfl := Option.some.inj e_j10
            exact g_H9
        exact (ih j10.1 (x3 + 1) j10.2 q h).trans g_j10
theorem fr_X2_share_l95{n : Nat} {x2 : Int32} {x3 : Int32} {H : Hp} {q : Hp} (h : f_X2_share_l95 n x2 x3 H = some q) (c k : Nat) (hc : c ≠ 48) : q c k = H c k := fr_X2_share_l95_i c k hc n x2 x3 H q h
theorem fr_X2_share_l10_i (c k : Nat) (hc : c ≠ 48) : ∀ (n : Nat) (x2 : Int32) (H : Hp) (q : Hp), f_X2_share_l10 n x2 H = some q → q c k = H c k := by
  intro n
  induction n with
  | zero => intro x2 H q h; simp [f_X2_share_l10] at h
  | succ n ih =>
    intro x2 H q h
    rw [f_X2_share_l10] at h
    by_cases c27 : (H 38 10) ≤ x2
    · replace h := (if_pos c27).symm.trans h
      obtain rfl := Option.some.inj h
      rfl
    · replace h := (if_neg c27).symm.trans h
      obtain ⟨v17, -, h⟩ := bnd h
      obtain ⟨H18, e_H18, h⟩ := bnd h
      have g_H18 := as_fr (c := c) (k := k) e_H18 hc
      exact (ih (x2 + 1) H18 q h).trans g_H18
theorem fr_X2_share_l10{n : Nat} {x2 : Int32} {H : Hp} {q : Hp} (h : f_X2_share_l10 n x2 H = some q) (c k : Nat) (hc : c ≠ 48) : q c k = H c k := fr_X2_share_l10_i c k hc n x2 H q h
theorem fr_X2_share {x1 : Int32} {H : Hp} {q : Hp} (h : f_X2_share x1 H = some q) (c k : Nat) (hc : c ≠ 48 ∧ ¬ (c = 38 ∧ k = 14)) : q c k = H c k := by
  unfold f_X2_share at h
  by_cases c28 : x1 < (H 38 13)
  · replace h := (if_pos c28).symm.trans h
    obtain ⟨l6, e_l6, h⟩ := bnd h
    have g_l6 := fr_X2_share_l51 e_l6 c k hc.1
    obtain ⟨l15, e_l15, h⟩ := bnd h
    have g_l15 := fr_X2_share_l95 e_l15 c k hc.1
    obtain ⟨H16, e_H16, h⟩ := bnd h
    have g_H16 := pf_fr (c := c) (k := k) e_H16 hc.2
    obtain rfl := Option.some.inj h; exact (g_H16.trans (g_l15.trans g_l6))
  · replace h := (if_neg c28).symm.trans h
    obtain ⟨l20, e_l20, h⟩ := bnd h
    have g_l20 := fr_X2_share_l10 e_l20 c k hc.1
    obtain ⟨H21, e_H21, h⟩ := bnd h
    have g_H21 := pf_fr (c := c) (k := k) e_H21 hc.2
    obtain rfl := Option.some.inj h; exact (g_H21.trans g_l20)
theorem fr_X2_settle_l7_i (c k : Nat) (hc : c ≠ 47 ∧ ¬ (c = 38 ∧ k = 13)) : ∀ (n : Nat) (x1 : Int32) (H : Hp) (q : Hp), f_X2_settle_l7 n x1 H = some q → q c k = H c k := by
  intro n
  induction n with
  | zero => intro x1 H q h; simp [f_X2_settle_l7] at h
  | succ n ih =>
    intro x1 H q h
    rw [f_X2_settle_l7] at h
    by_cases c9 : (H 38 10) ≤ x1
    · replace h := (if_pos c9).symm.trans h
      obtain rfl := Option.some.inj h
      rfl
    · replace h := (if_neg c9).symm.trans h
      obtain ⟨v2, -, h⟩ := bnd h
      obtain ⟨H3, e_H3, h⟩ := bnd h
      have g_H3 := as_fr (c := c) (k := k) e_H3 hc.1
      obtain ⟨v4, -, h⟩ := bnd h
      obtain ⟨H5, e_H5, h⟩ := bnd h
      have g_H5 := pf_fr (c := c) (k := k) e_H5 hc.2
      exact (ih (x1 + 1) H5 q h).trans (g_H5.trans g_H3)
theorem fr_X2_settle_l7{n : Nat} {x1 : Int32} {H : Hp} {q : Hp} (h : f_X2_settle_l7 n x1 H = some q) (c k : Nat) (hc : c ≠ 47 ∧ ¬ (c = 38 ∧ k = 13)) : q c k = H c k := fr_X2_settle_l7_i c k hc n x1 H q h
theorem fr_X2_settle {H : Hp} {q : Hp} (h : f_X2_settle H = some q) (c k : Nat) (hc : c ≠ 47 ∧ c ≠ 48 ∧ ¬ (c = 38 ∧ k = 13) ∧ ¬ (c = 38 ∧ k = 14)) : q c k = H c k := by
  unfold f_X2_settle at h
  obtain ⟨H1, e_H1, h⟩ := bnd h
  have g_H1 := pf_fr (c := c) (k := k) e_H1 hc.2.2.1
  obtain ⟨l7, e_l7, h⟩ := bnd h
  have g_l7 := fr_X2_settle_l7 e_l7 c k ⟨hc.1, hc.2.2.1⟩
  obtain ⟨H8, e_H8, h⟩ := bnd h
  have g_H8 := fr_X2_share e_H8 c k ⟨hc.2.1, hc.2.2.2⟩
  obtain rfl := Option.some.inj h; exact (g_H8.trans (g_l7.trans g_H1))
theorem fr_X7_project {x1 : Int32} {x2 : Int32} {H : Hp} {q : Int32 × Hp} (h : f_X7_project x1 x2 H = some q) (c k : Nat) (hc : c ≠ 39 ∧ c ≠ 40 ∧ c ≠ 41 ∧ c ≠ 42 ∧ c ≠ 43 ∧ c ≠ 44 ∧ c ≠ 45 ∧ c ≠ 46 ∧ c ≠ 47 ∧ c ≠ 48 ∧ ¬ (c = 38 ∧ k = 10) ∧ ¬ (c = 38 ∧ k = 11) ∧ ¬ (c = 38 ∧ k = 12) ∧ ¬ (c = 38 ∧ k = 13) ∧ ¬ (c = 38 ∧ k = 14)) : q.2 c k = H c k := by
  unfold f_X7_project at h
  obtain ⟨v1, -, h⟩ := bnd h
  by_cases c8 : v1 = 0
  · replace h := (if_pos c8).symm.trans h
    obtain rfl := Option.some.inj h; exact rfl
  · replace h := (if_neg c8).symm.trans h
    obtain ⟨v2, -, h⟩ := bnd h
    by_cases c9 : v2 = 0
    · replace h := (if_pos c9).symm.trans h
      obtain rfl := Option.some.inj h; exact rfl
    · replace h := (if_neg c9).symm.trans h
      obtain ⟨H3, e_H3, h⟩ := bnd h
      have g_H3 := fr_X2_load e_H3 c k ⟨hc.1, hc.2.1, hc.2.2.1, hc.2.2.2.1, hc.2.2.2.2.1, hc.2.2.2.2.2.1, hc.2.2.2.2.2.2.1, hc.2.2.2.2.2.2.2.1, hc.2.2.2.2.2.2.2.2.2.2.1, hc.2.2.2.2.2.2.2.2.2.2.2.1, hc.2.2.2.2.2.2.2.2.2.2.2.2.1⟩
      obtain ⟨H4, e_H4, h⟩ := bnd h
      have g_H4 := fr_X2_settle e_H4 c k ⟨hc.2.2.2.2.2.2.2.2.1, hc.2.2.2.2.2.2.2.2.2.1, hc.2.2.2.2.2.2.2.2.2.2.2.2.2.1, hc.2.2.2.2.2.2.2.2.2.2.2.2.2.2⟩
      by_cases s10 : x2 = 0
      · replace h := (if_pos s10).symm.trans h
        obtain ⟨v5, -, h⟩ := bnd h
        obtain rfl := Option.some.inj h; exact (g_H4.trans g_H3)
      · replace h := (if_neg s10).symm.trans h
        by_cases s11 : x2 = 1
        · replace h := (if_pos s11).symm.trans h
          obtain ⟨v6, -, h⟩ := bnd h
          obtain rfl := Option.some.inj h; exact (g_H4.trans g_H3)
        · replace h := (if_neg s11).symm.trans h
          obtain ⟨v7, -, h⟩ := bnd h
          obtain rfl := Option.some.inj h; exact (g_H4.trans g_H3)
theorem fr_X7_stand {x1 : Int32} {H : Hp} {q : Int32 × Hp} (h : f_X7_stand x1 H = some q) (c k : Nat) (hc : c ≠ 39 ∧ c ≠ 40 ∧ c ≠ 41 ∧ c ≠ 42 ∧ c ≠ 43 ∧ c ≠ 44 ∧ c ≠ 45 ∧ c ≠ 46 ∧ c ≠ 47 ∧ c ≠ 48 ∧ ¬ (c = 38 ∧ k = 10) ∧ ¬ (c = 38 ∧ k = 11) ∧ ¬ (c = 38 ∧ k = 12) ∧ ¬ (c = 38 ∧ k = 13) ∧ ¬ (c = 38 ∧ k = 14)) : q.2 c k = H c k := by
  unfold f_X7_stand at h
  by_cases c4 : (H 7 0) = 0
  · replace h := (if_pos c4).symm.trans h
    obtain rfl := Option.some.inj h; exact rfl
  · replace h := (if_neg c4).symm.trans h
    obtain ⟨H1, e_H1, h⟩ := bnd h
    have g_H1 := fr_X2_load e_H1 c k ⟨hc.1, hc.2.1, hc.2.2.1, hc.2.2.2.1, hc.2.2.2.2.1, hc.2.2.2.2.2.1, hc.2.2.2.2.2.2.1, hc.2.2.2.2.2.2.2.1, hc.2.2.2.2.2.2.2.2.2.2.1, hc.2.2.2.2.2.2.2.2.2.2.2.1, hc.2.2.2.2.2.2.2.2.2.2.2.2.1⟩
    obtain ⟨H2, e_H2, h⟩ := bnd h
    have g_H2 := fr_X2_settle e_H2 c k ⟨hc.2.2.2.2.2.2.2.2.1, hc.2.2.2.2.2.2.2.2.2.1, hc.2.2.2.2.2.2.2.2.2.2.2.2.2.1, hc.2.2.2.2.2.2.2.2.2.2.2.2.2.2⟩
    by_cases s5 : x1 = 0
    · replace h := (if_pos s5).symm.trans h
      obtain rfl := Option.some.inj h; exact (g_H2.trans g_H1)
    · replace h := (if_neg s5).symm.trans h
      by_cases s6 : x1 = 1
      · replace h := (if_pos s6).symm.trans h
        obtain rfl := Option.some.inj h; exact (g_H2.trans g_H1)
      · replace h := (if_neg s6).symm.trans h
        by_cases s7 : x1 = 2
        · replace h := (if_pos s7).symm.trans h
          obtain ⟨v3, -, h⟩ := bnd h
          obtain rfl := Option.some.inj h; exact (g_H2.trans g_H1)
        · replace h := (if_neg s7).symm.trans h
          by_cases s8 : x1 = 3
          · replace h := (if_pos s8).symm.trans h
            obtain rfl := Option.some.inj h; exact (g_H2.trans g_H1)
          · replace h := (if_neg s8).symm.trans h
            obtain rfl := Option.some.inj h; exact (g_H2.trans g_H1)
theorem fr_X2_add {x1 : Int32} {x2 : Int32} {x3 : Int32} {H : Hp} {q : Hp} (h : f_X2_add x1 x2 x3 H = some q) (c k : Nat) (hc : c ≠ 39 ∧ c ≠ 40 ∧ c ≠ 41 ∧ c ≠ 43 ∧ c ≠ 44 ∧ c ≠ 45 ∧ c ≠ 46) : q c k = H c k := by
  unfold f_X2_add at h
  by_cases c8 : x3 = 0
  · replace h := (if_pos c8).symm.trans h
    obtain rfl := Option.some.inj h; exact rfl
  · replace h := (if_neg c8).symm.trans h
    obtain ⟨H1, e_H1, h⟩ := bnd h
    have g_H1 := fr_X2_weigh e_H1 c k ⟨hc.2.2.1, hc.2.2.2.1, hc.2.2.2.2.1, hc.2.2.2.2.2.1, hc.2.2.2.2.2.2⟩
    obtain ⟨v2, -, h⟩ := bnd h
    obtain ⟨H3, e_H3, h⟩ := bnd h
    have g_H3 := as_fr (c := c) (k := k) e_H3 hc.1
    obtain ⟨v4, -, h⟩ := bnd h
    obtain ⟨v5, -, h⟩ := bnd h
    obtain ⟨H6, e_H6, h⟩ := bnd h
    have g_H6 := as_fr (c := c) (k := k) e_H6 hc.2.1
    obtain ⟨H7, e_H7, h⟩ := bnd h
    have g_H7 := fr_X2_weigh e_H7 c k ⟨hc.2.2.1, hc.2.2.2.1, hc.2.2.2.2.1, hc.2.2.2.2.2.1, hc.2.2.2.2.2.2⟩
    obtain rfl := Option.some.inj h; exact (g_H7.trans (g_H6.trans (g_H3.trans g_H1)))
theorem fr_X3_paidWith {x1 : Int32} {x2 : Int32} {x3 : Int32} {x4 : Int32} {H : Hp} {q : Int32 × Hp} (h : f_X3_paidWith x1 x2 x3 x4 H = some q) (c k : Nat) (hc : c ≠ 39 ∧ c ≠ 40 ∧ c ≠ 41 ∧ c ≠ 42 ∧ c ≠ 43 ∧ c ≠ 44 ∧ c ≠ 45 ∧ c ≠ 46 ∧ c ≠ 47 ∧ c ≠ 48 ∧ ¬ (c = 38 ∧ k = 10) ∧ ¬ (c = 38 ∧ k = 11) ∧ ¬ (c = 38 ∧ k = 12) ∧ ¬ (c = 38 ∧ k = 13) ∧ ¬ (c = 38 ∧ k = 14)) : q.2 c k = H c k := by
  unfold f_X3_paidWith at h
  obtain ⟨H1, e_H1, h⟩ := bnd h
  have g_H1 := fr_X2_load e_H1 c k ⟨hc.1, hc.2.1, hc.2.2.1, hc.2.2.2.1, hc.2.2.2.2.1, hc.2.2.2.2.2.1, hc.2.2.2.2.2.2.1, hc.2.2.2.2.2.2.2.1, hc.2.2.2.2.2.2.2.2.2.2.1, hc.2.2.2.2.2.2.2.2.2.2.2.1, hc.2.2.2.2.2.2.2.2.2.2.2.2.1⟩
  obtain ⟨v2, -, h⟩ := bnd h
  obtain ⟨H3, e_H3, h⟩ := bnd h
  have g_H3 := fr_X2_add e_H3 c k ⟨hc.1, hc.2.1, hc.2.2.1, hc.2.2.2.2.1, hc.2.2.2.2.2.1, hc.2.2.2.2.2.2.1, hc.2.2.2.2.2.2.2.1⟩
  obtain ⟨H4, e_H4, h⟩ := bnd h
  have g_H4 := fr_X2_settle e_H4 c k ⟨hc.2.2.2.2.2.2.2.2.1, hc.2.2.2.2.2.2.2.2.2.1, hc.2.2.2.2.2.2.2.2.2.2.2.2.2.1, hc.2.2.2.2.2.2.2.2.2.2.2.2.2.2⟩
  obtain ⟨v5, -, h⟩ := bnd h
  obtain rfl := Option.some.inj h; exact (g_H4.trans (g_H3.trans g_H1))
theorem fr_X7_paidIf {x1 : Int32} {x2 : Int32} {x3 : Int32} {x4 : Int32} {H : Hp} {q : Int32 × Hp} (h : f_X7_paidIf x1 x2 x3 x4 H = some q) (c k : Nat) (hc : c ≠ 39 ∧ c ≠ 40 ∧ c ≠ 41 ∧ c ≠ 42 ∧ c ≠ 43 ∧ c ≠ 44 ∧ c ≠ 45 ∧ c ≠ 46 ∧ c ≠ 47 ∧ c ≠ 48 ∧ ¬ (c = 38 ∧ k = 10) ∧ ¬ (c = 38 ∧ k = 11) ∧ ¬ (c = 38 ∧ k = 12) ∧ ¬ (c = 38 ∧ k = 13) ∧ ¬ (c = 38 ∧ k = 14)) : q.2 c k = H c k := by
  unfold f_X7_paidIf at h
  obtain ⟨v1, -, h⟩ := bnd h
  by_cases c7 : v1 = 0
  · replace h := (if_pos c7).symm.trans h
    obtain rfl := Option.some.inj h; exact rfl
  · replace h := (if_neg c7).symm.trans h
    obtain ⟨v2, -, h⟩ := bnd h
    by_cases c8 : v2 = 0
    · replace h := (if_pos c8).symm.trans h
      obtain rfl := Option.some.inj h; exact rfl
    · replace h := (if_neg c8).symm.trans h
      obtain ⟨v3, -, h⟩ := bnd h
      by_cases c9 : v3 = 0
      · replace h := (if_pos c9).symm.trans h
        obtain rfl := Option.some.inj h; exact rfl
      · replace h := (if_neg c9).symm.trans h
        obtain ⟨v4, -, h⟩ := bnd h
        by_cases c10 : v4 = 0
        · replace h := (if_pos c10).symm.trans h
          obtain rfl := Option.some.inj h; exact rfl
        · replace h := (if_neg c10).symm.trans h
          by_cases c11 : x3 ≤ 0
          · replace h := (if_pos c11).symm.trans h
            obtain ⟨q5, e_q5, h⟩ := bnd h
            have g_q5 := fr_X3_paidWith e_q5 c k ⟨hc.1, hc.2.1, hc.2.2.1, hc.2.2.2.1, hc.2.2.2.2.1, hc.2.2.2.2.2.1, hc.2.2.2.2.2.2.1, hc.2.2.2.2.2.2.2.1, hc.2.2.2.2.2.2.2.2.1, hc.2.2.2.2.2.2.2.2.2.1, hc.2.2.2.2.2.2.2.2.2.2.1, hc.2.2.2.2.2.2.2.2.2.2.2.1, hc.2.2.2.2.2.2.2.2.2.2.2.2.1, hc.2.2.2.2.2.2.2.2.2.2.2.2.2.1, hc.2.2.2.2.2.2.2.2.2.2.2.2.2.2⟩
            obtain rfl := Option.some.inj h; exact g_q5
          · replace h := (if_neg c11).symm.trans h
            by_cases c12 : (H 7 4) < 20
            · replace h := (if_pos c12).symm.trans h
              obtain ⟨q6, e_q6, h⟩ := bnd h
              have g_q6 := fr_X3_paidWith e_q6 c k ⟨hc.1, hc.2.1, hc.2.2.1, hc.2.2.2.1, hc.2.2.2.2.1, hc.2.2.2.2.2.1, hc.2.2.2.2.2.2.1, hc.2.2.2.2.2.2.2.1, hc.2.2.2.2.2.2.2.2.1, hc.2.2.2.2.2.2.2.2.2.1, hc.2.2.2.2.2.2.2.2.2.2.1, hc.2.2.2.2.2.2.2.2.2.2.2.1, hc.2.2.2.2.2.2.2.2.2.2.2.2.1, hc.2.2.2.2.2.2.2.2.2.2.2.2.2.1, hc.2.2.2.2.2.2.2.2.2.2.2.2.2.2⟩
              obtain rfl := Option.some.inj h; exact g_q6
            · replace h := (if_neg c12).symm.trans h
              obtain rfl := Option.some.inj h; exact rfl
theorem fr_X3_bestTarget_l56_i {x2 : Int32} {x4 : Int32} (c k : Nat) (hc : c ≠ 39 ∧ c ≠ 40 ∧ c ≠ 41 ∧ c ≠ 43 ∧ c ≠ 44 ∧ c ≠ 45 ∧ c ≠ 46 ∧ c ≠ 47 ∧ c ≠ 48 ∧ ¬ (c = 38 ∧ k = 13) ∧ ¬ (c = 38 ∧ k = 14)) : ∀ (n : Nat) (x5 : Int32) (x6 : Int32) (x7 : Int32) (H : Hp) (q : Int32 × Int32 × Hp), f_X3_bestTarget_l56 x2 x4 n x5 x6 x7 H = some q → q.2.2 c k = H c k := by
  intro n
  induction n with
  | zero => intro x5 x6 x7 H q h; simp [f_X3_bestTarget_l56] at h
  | succ n ih =>
    intro x5 x6 x7 H q h
    rw [f_X3_bestTarget_l56] at h
    by_cases c17 : (H 7 3) ≤ x7
    · replace h := (if_pos c17).symm.trans h
      obtain rfl := Option.some.inj h
      rfl
    · replace h := (if_neg c17).symm.trans h
      obtain ⟨H5, e_H5, h⟩ := bnd h
      have g_H5 := fr_X2_add e_H5 c k ⟨hc.1, hc.2.1, hc.2.2.1, hc.2.2.2.1, hc.2.2.2.2.1, hc.2.2.2.2.2.1, hc.2.2.2.2.2.2.1⟩
      obtain ⟨H6, e_H6, h⟩ := bnd h
      have g_H6 := fr_X2_settle e_H6 c k ⟨hc.2.2.2.2.2.2.2.1, hc.2.2.2.2.2.2.2.2.1, hc.2.2.2.2.2.2.2.2.2.1, hc.2.2.2.2.2.2.2.2.2.2⟩
      obtain ⟨H7, e_H7, h⟩ := bnd h
      have g_H7 := fr_X2_add e_H7 c k ⟨hc.1, hc.2.1, hc.2.2.1, hc.2.2.2.1, hc.2.2.2.2.1, hc.2.2.2.2.2.1, hc.2.2.2.2.2.2.1⟩
      obtain ⟨v8, -, h⟩ := bnd h
      obtain ⟨v9, -, h⟩ := bnd h
      exact (ih (if x7 = 0 then x7 else (if (v8 - v9) ≤ x6 then x5 else x7)) (if x7 = 0 then (v8 - v9) else (if (v8 - v9) ≤ x6 then x6 else (v8 - v9))) (x7 + 1) H7 q h).trans (g_H7.trans (g_H6.trans g_H5))
theorem fr_X3_bestTarget_l56 {x2 : Int32} {x4 : Int32}{n : Nat} {x5 : Int32} {x6 : Int32} {x7 : Int32} {H : Hp} {q : Int32 × Int32 × Hp} (h : f_X3_bestTarget_l56 x2 x4 n x5 x6 x7 H = some q) (c k : Nat) (hc : c ≠ 39 ∧ c ≠ 40 ∧ c ≠ 41 ∧ c ≠ 43 ∧ c ≠ 44 ∧ c ≠ 45 ∧ c ≠ 46 ∧ c ≠ 47 ∧ c ≠ 48 ∧ ¬ (c = 38 ∧ k = 13) ∧ ¬ (c = 38 ∧ k = 14)) : q.2.2 c k = H c k := fr_X3_bestTarget_l56_i c k hc n x5 x6 x7 H q h
theorem fr_X3_bestTarget {x1 : Int32} {x2 : Int32} {x3 : Int32} {H : Hp} {q : Int32 × Hp} (h : f_X3_bestTarget x1 x2 x3 H = some q) (c k : Nat) (hc : c ≠ 39 ∧ c ≠ 40 ∧ c ≠ 41 ∧ c ≠ 42 ∧ c ≠ 43 ∧ c ≠ 44 ∧ c ≠ 45 ∧ c ≠ 46 ∧ c ≠ 47 ∧ c ≠ 48 ∧ c ≠ 56 ∧ ¬ (c = 38 ∧ k = 10) ∧ ¬ (c = 38 ∧ k = 11) ∧ ¬ (c = 38 ∧ k = 12) ∧ ¬ (c = 38 ∧ k = 13) ∧ ¬ (c = 38 ∧ k = 14)) : q.2 c k = H c k := by
  unfold f_X3_bestTarget at h
  obtain ⟨v1, -, h⟩ := bnd h
  obtain ⟨H2, e_H2, h⟩ := bnd h
  have g_H2 := fr_X2_load e_H2 c k ⟨hc.1, hc.2.1, hc.2.2.1, hc.2.2.2.1, hc.2.2.2.2.1, hc.2.2.2.2.2.1, hc.2.2.2.2.2.2.1, hc.2.2.2.2.2.2.2.1, hc.2.2.2.2.2.2.2.2.2.2.2.1, hc.2.2.2.2.2.2.2.2.2.2.2.2.1, hc.2.2.2.2.2.2.2.2.2.2.2.2.2.1⟩
  obtain ⟨H3, e_H3, h⟩ := bnd h
  have g_H3 := fr_X2_settle e_H3 c k ⟨hc.2.2.2.2.2.2.2.2.1, hc.2.2.2.2.2.2.2.2.2.1, hc.2.2.2.2.2.2.2.2.2.2.2.2.2.2.1, hc.2.2.2.2.2.2.2.2.2.2.2.2.2.2.2⟩
  obtain ⟨H4, e_H4, h⟩ := bnd h
  have g_H4 := ac_fr (c := c) (k := k) e_H4 hc.2.2.2.2.2.2.2.2.2.2.1
  obtain ⟨l16, e_l16, h⟩ := bnd h
  have g_l16 := fr_X3_bestTarget_l56 e_l16 c k ⟨hc.1, hc.2.1, hc.2.2.1, hc.2.2.2.2.1, hc.2.2.2.2.2.1, hc.2.2.2.2.2.2.1, hc.2.2.2.2.2.2.2.1, hc.2.2.2.2.2.2.2.2.1, hc.2.2.2.2.2.2.2.2.2.1, hc.2.2.2.2.2.2.2.2.2.2.2.2.2.2.1, hc.2.2.2.2.2.2.2.2.2.2.2.2.2.2.2⟩
  obtain rfl := Option.some.inj h; exact (g_l16.trans (g_H4.trans (g_H3.trans g_H2)))
theorem fr_X7_best {x1 : Int32} {x2 : Int32} {x3 : Int32} {H : Hp} {q : Int32 × Hp} (h : f_X7_best x1 x2 x3 H = some q) (c k : Nat) (hc : c ≠ 39 ∧ c ≠ 40 ∧ c ≠ 41 ∧ c ≠ 42 ∧ c ≠ 43 ∧ c ≠ 44 ∧ c ≠ 45 ∧ c ≠ 46 ∧ c ≠ 47 ∧ c ≠ 48 ∧ c ≠ 56 ∧ ¬ (c = 38 ∧ k = 10) ∧ ¬ (c = 38 ∧ k = 11) ∧ ¬ (c = 38 ∧ k = 12) ∧ ¬ (c = 38 ∧ k = 13) ∧ ¬ (c = 38 ∧ k = 14)) : q.2 c k = H c k := by
  unfold f_X7_best at h
  by_cases c5 : (H 7 0) = 0
  · replace h := (if_pos c5).symm.trans h
    obtain rfl := Option.some.inj h; exact rfl
  · replace h := (if_neg c5).symm.trans h
    obtain ⟨v1, -, h⟩ := bnd h
    by_cases c6 : v1 = 0
    · replace h := (if_pos c6).symm.trans h
      obtain rfl := Option.some.inj h; exact rfl
    · replace h := (if_neg c6).symm.trans h
      obtain ⟨v2, -, h⟩ := bnd h
      by_cases c7 : v2 = 0
      · replace h := (if_pos c7).symm.trans h
        obtain rfl := Option.some.inj h; exact rfl
      · replace h := (if_neg c7).symm.trans h
        obtain ⟨v3, -, h⟩ := bnd h
        by_cases c8 : v3 = 0
        · replace h := (if_pos c8).symm.trans h
          obtain rfl := Option.some.inj h; exact rfl
        · replace h := (if_neg c8).symm.trans h
          by_cases c9 : (H 7 4) < 20
          · replace h := (if_pos c9).symm.trans h
            obtain ⟨q4, e_q4, h⟩ := bnd h
            have g_q4 := fr_X3_bestTarget e_q4 c k ⟨hc.1, hc.2.1, hc.2.2.1, hc.2.2.2.1, hc.2.2.2.2.1, hc.2.2.2.2.2.1, hc.2.2.2.2.2.2.1, hc.2.2.2.2.2.2.2.1, hc.2.2.2.2.2.2.2.2.1, hc.2.2.2.2.2.2.2.2.2.1, hc.2.2.2.2.2.2.2.2.2.2.1, hc.2.2.2.2.2.2.2.2.2.2.2.1, hc.2.2.2.2.2.2.2.2.2.2.2.2.1, hc.2.2.2.2.2.2.2.2.2.2.2.2.2.1, hc.2.2.2.2.2.2.2.2.2.2.2.2.2.2.1, hc.2.2.2.2.2.2.2.2.2.2.2.2.2.2.2⟩
            obtain rfl := Option.some.inj h; exact g_q4
          · replace h := (if_neg c9).symm.trans h
            obtain rfl := Option.some.inj h; exact rfl
theorem fr_X3_leastCoins_l25_i {x2 : Int32} {x3 : Int32} {x4 : Int32} (c k : Nat) (hc : c ≠ 39 ∧ c ≠ 40 ∧ c ≠ 41 ∧ c ≠ 43 ∧ c ≠ 44 ∧ c ≠ 45 ∧ c ≠ 46) : ∀ (n : Nat) (x5 : Int32) (H : Hp) (q : (Hp) ⊕ (Int32 × Hp)), f_X3_leastCoins_l25 x2 x3 x4 n x5 H = some q → (∀ t, q = .inl t → t c k = H c k) ∧ (∀ r, q = .inr r → r.2 c k = H c k) := by
  intro n
  induction n with
  | zero => intro x5 H q h; simp [f_X3_leastCoins_l25] at h
  | succ n ih =>
    intro x5 H q h
    rw [f_X3_leastCoins_l25] at h
    by_cases c9 : 99 < x5
    · replace h := (if_pos c9).symm.trans h
      obtain rfl := Option.some.inj h
      exact ⟨fun t ht => (by cases ht; exact rfl), fun r hr => (by cases hr)⟩
    · replace h := (if_neg c9).symm.trans h
      obtain ⟨H3, e_H3, h⟩ := bnd h
      have g_H3 := fr_X2_add e_H3 c k ⟨hc.1, hc.2.1, hc.2.2.1, hc.2.2.2.1, hc.2.2.2.2.1, hc.2.2.2.2.2.1, hc.2.2.2.2.2.2⟩
      obtain ⟨v4, -, h⟩ := bnd h
      by_cases c10 : v4 < x3
      · replace h := (if_pos c10).symm.trans h
        have z := ih (x5 + 1) H3 q h
        exact ⟨fun t ht => (z.1 t ht).trans g_H3, fun r hr => (z.2 r hr).trans g_H3⟩
      · replace h := (if_neg c10).symm.trans h
        obtain rfl := Option.some.inj h; exact ⟨fun t ht => (by cases ht), fun r hr => (by cases hr; exact g_H3)⟩
theorem fr_X3_leastCoins_l25 {x2 : Int32} {x3 : Int32} {x4 : Int32}{n : Nat} {x5 : Int32} {H : Hp} {q : (Hp) ⊕ (Int32 × Hp)} (h : f_X3_leastCoins_l25 x2 x3 x4 n x5 H = some q) (c k : Nat) (hc : c ≠ 39 ∧ c ≠ 40 ∧ c ≠ 41 ∧ c ≠ 43 ∧ c ≠ 44 ∧ c ≠ 45 ∧ c ≠ 46) : (∀ t, q = .inl t → t c k = H c k) ∧ (∀ r, q = .inr r → r.2 c k = H c k) := fr_X3_leastCoins_l25_i c k hc n x5 H q h
theorem fr_X3_leastCoins {x1 : Int32} {x2 : Int32} {x3 : Int32} {H : Hp} {q : Int32 × Hp} (h : f_X3_leastCoins x1 x2 x3 H = some q) (c k : Nat) (hc : c ≠ 39 ∧ c ≠ 40 ∧ c ≠ 41 ∧ c ≠ 42 ∧ c ≠ 43 ∧ c ≠ 44 ∧ c ≠ 45 ∧ c ≠ 46 ∧ ¬ (c = 38 ∧ k = 10) ∧ ¬ (c = 38 ∧ k = 11) ∧ ¬ (c = 38 ∧ k = 12)) : q.2 c k = H c k := by
  unfold f_X3_leastCoins at h
  obtain ⟨v1, -, h⟩ := bnd h
  obtain ⟨H2, e_H2, h⟩ := bnd h
  have g_H2 := fr_X2_load e_H2 c k ⟨hc.1, hc.2.1, hc.2.2.1, hc.2.2.2.1, hc.2.2.2.2.1, hc.2.2.2.2.2.1, hc.2.2.2.2.2.2.1, hc.2.2.2.2.2.2.2.1, hc.2.2.2.2.2.2.2.2.1, hc.2.2.2.2.2.2.2.2.2.1, hc.2.2.2.2.2.2.2.2.2.2⟩
  obtain ⟨l7, e_l7, h⟩ := bnd h
  have g_l7 := fr_X3_leastCoins_l25 e_l7 c k ⟨hc.1, hc.2.1, hc.2.2.1, hc.2.2.2.2.1, hc.2.2.2.2.2.1, hc.2.2.2.2.2.2.1, hc.2.2.2.2.2.2.2.1⟩
  cases l7 with
  | inl t8 =>
    rw [Sum.elim_inl] at h
    obtain rfl := Option.some.inj h; exact ((g_l7.1 _ rfl).trans g_H2)
  | inr r =>
    rw [Sum.elim_inr] at h
    obtain rfl := Option.some.inj h; exact ((g_l7.2 _ rfl).trans g_H2)
theorem fr_X7_least {x1 : Int32} {x2 : Int32} {x3 : Int32} {H : Hp} {q : Int32 × Hp} (h : f_X7_least x1 x2 x3 H = some q) (c k : Nat) (hc : c ≠ 39 ∧ c ≠ 40 ∧ c ≠ 41 ∧ c ≠ 42 ∧ c ≠ 43 ∧ c ≠ 44 ∧ c ≠ 45 ∧ c ≠ 46 ∧ ¬ (c = 38 ∧ k = 10) ∧ ¬ (c = 38 ∧ k = 11) ∧ ¬ (c = 38 ∧ k = 12)) : q.2 c k = H c k := by
  unfold f_X7_least at h
  obtain ⟨v1, -, h⟩ := bnd h
  by_cases c5 : v1 = 0
  · replace h := (if_pos c5).symm.trans h
    obtain rfl := Option.some.inj h; exact rfl
  · replace h := (if_neg c5).symm.trans h
    obtain ⟨v2, -, h⟩ := bnd h
    by_cases c6 : v2 = 0
    · replace h := (if_pos c6).symm.trans h
      obtain rfl := Option.some.inj h; exact rfl
    · replace h := (if_neg c6).symm.trans h
      obtain ⟨v3, -, h⟩ := bnd h
      by_cases c7 : v3 = 0
      · replace h := (if_pos c7).symm.trans h
        obtain rfl := Option.some.inj h; exact rfl
      · replace h := (if_neg c7).symm.trans h
        by_cases c8 : (H 7 4) < 20
        · replace h := (if_pos c8).symm.trans h
          obtain ⟨q4, e_q4, h⟩ := bnd h
          have g_q4 := fr_X3_leastCoins e_q4 c k ⟨hc.1, hc.2.1, hc.2.2.1, hc.2.2.2.1, hc.2.2.2.2.1, hc.2.2.2.2.2.1, hc.2.2.2.2.2.2.1, hc.2.2.2.2.2.2.2.1, hc.2.2.2.2.2.2.2.2.1, hc.2.2.2.2.2.2.2.2.2.1, hc.2.2.2.2.2.2.2.2.2.2⟩
          obtain rfl := Option.some.inj h; exact g_q4
        · replace h := (if_neg c8).symm.trans h
          obtain rfl := Option.some.inj h; exact rfl
theorem fr_X2_leave {x1 : Int32} {H : Hp} {q : Hp} (h : f_X2_leave x1 H = some q) (c k : Nat) (hc : c ≠ 41 ∧ c ≠ 43 ∧ c ≠ 44 ∧ c ≠ 45 ∧ c ≠ 46) : q c k = H c k := by
  unfold f_X2_leave at h
  obtain ⟨H1, e_H1, h⟩ := bnd h
  have g_H1 := fr_X2_weigh e_H1 c k ⟨hc.1, hc.2.1, hc.2.2.1, hc.2.2.2.1, hc.2.2.2.2⟩
  obtain rfl := Option.some.inj h; exact g_H1
theorem fr_X3_mostMissed_l21_i {x1 : Int32} (c k : Nat) (hc : c ≠ 41 ∧ c ≠ 43 ∧ c ≠ 44 ∧ c ≠ 45 ∧ c ≠ 46 ∧ c ≠ 47 ∧ c ≠ 48 ∧ ¬ (c = 38 ∧ k = 13) ∧ ¬ (c = 38 ∧ k = 14)) : ∀ (n : Nat) (x3 : Int32) (x4 : Int32) (x5 : Int32) (H : Hp) (q : Int32 × Int32 × Hp), f_X3_mostMissed_l21 x1 n x3 x4 x5 H = some q → q.2.2 c k = H c k := by
  intro n
  induction n with
  | zero => intro x3 x4 x5 H q h; simp [f_X3_mostMissed_l21] at h
  | succ n ih =>
    intro x3 x4 x5 H q h
    rw [f_X3_mostMissed_l21] at h
    by_cases c16 : 10 ≤ x5
    · replace h := (if_pos c16).symm.trans h
      obtain rfl := Option.some.inj h
      rfl
    · replace h := (if_neg c16).symm.trans h
      obtain ⟨v2, -, h⟩ := bnd h
      obtain ⟨j9, e_j9, h⟩ := bnd h
      have g_j9 : j9.2.2 c k = H c k := by
        by_cases c17 : v2 = 0
        · replace e_j9 := (if_pos c17).symm.trans e_j9
          obtain rfl := Option.some.inj e_j9
          rfl
        · replace e_j9 := (if_neg c17).symm.trans e_j9
          obtain ⟨H3, e_H3, e_j9⟩ := bnd e_j9
          have g_H3 := fr_X2_leave e_H3 c k ⟨hc.1, hc.2.1, hc.2.2.1, hc.2.2.2.1, hc.2.2.2.2.1⟩
          obtain ⟨H4, e_H4, e_j9⟩ := bnd e_j9
          have g_H4 := fr_X2_settle e_H4 c k ⟨hc.2.2.2.2.2.1, hc.2.2.2.2.2.2.1, hc.2.2.2.2.2.2.2.1, hc.2.2.2.2.2.2.2.2⟩
          obtain ⟨H5, e_H5, e_j9⟩ := bnd e_j9
          have g_H5 := fr_X2_join e_H5 c k ⟨hc.1, hc.2.1, hc.2.2.1, hc.2.2.2.1, hc.2.2.2.2.1⟩
          by_cases c18 : x3 = (-1000000)
          · replace e_j9 := (if_pos c18).symm.trans e_j9
            obtain ⟨v6, -, e_j9⟩ := bnd e_j9
            obtain rfl := Option.some.inj e_j9
            exact (g_H5.trans (g_H4.trans g_H3))
          · replace e_j9 := (if_neg c18).symm.trans e_j9
            obtain ⟨v7, -, e_j9⟩ := bnd e_j9
            by_cases c19 : x4 ≤ v7
            · replace e_j9 := (if_pos c19).symm.trans e_j9
              obtain rfl := Option.some.inj e_j9
              exact (g_H5.trans (g_H4.trans g_H3))
            · replace e_j9 := (if_neg c19).symm.trans e_j9
              obtain ⟨v8, -, e_j9⟩ := bnd e_j9
              obtain rfl := Option.some.inj e_j9
              exact (g_H5.trans (g_H4.trans g_H3))
      exact (ih j9.1 j9.2.1 (x5 + 1) j9.2.2 q h).trans g_j9
theorem fr_X3_mostMissed_l21 {x1 : Int32}{n : Nat} {x3 : Int32} {x4 : Int32} {x5 : Int32} {H : Hp} {q : Int32 × Int32 × Hp} (h : f_X3_mostMissed_l21 x1 n x3 x4 x5 H = some q) (c k : Nat) (hc : c ≠ 41 ∧ c ≠ 43 ∧ c ≠ 44 ∧ c ≠ 45 ∧ c ≠ 46 ∧ c ≠ 47 ∧ c ≠ 48 ∧ ¬ (c = 38 ∧ k = 13) ∧ ¬ (c = 38 ∧ k = 14)) : q.2.2 c k = H c k := fr_X3_mostMissed_l21_i c k hc n x3 x4 x5 H q h
theorem fr_X3_mostMissed {x1 : Int32} {x2 : Int32} {H : Hp} {q : Int32 × Hp} (h : f_X3_mostMissed x1 x2 H = some q) (c k : Nat) (hc : c ≠ 39 ∧ c ≠ 40 ∧ c ≠ 41 ∧ c ≠ 42 ∧ c ≠ 43 ∧ c ≠ 44 ∧ c ≠ 45 ∧ c ≠ 46 ∧ c ≠ 47 ∧ c ≠ 48 ∧ ¬ (c = 38 ∧ k = 10) ∧ ¬ (c = 38 ∧ k = 11) ∧ ¬ (c = 38 ∧ k = 12) ∧ ¬ (c = 38 ∧ k = 13) ∧ ¬ (c = 38 ∧ k = 14)) : q.2 c k = H c k := by
  unfold f_X3_mostMissed at h
  obtain ⟨H1, e_H1, h⟩ := bnd h
  have g_H1 := fr_X2_load e_H1 c k ⟨hc.1, hc.2.1, hc.2.2.1, hc.2.2.2.1, hc.2.2.2.2.1, hc.2.2.2.2.2.1, hc.2.2.2.2.2.2.1, hc.2.2.2.2.2.2.2.1, hc.2.2.2.2.2.2.2.2.2.2.1, hc.2.2.2.2.2.2.2.2.2.2.2.1, hc.2.2.2.2.2.2.2.2.2.2.2.2.1⟩
  obtain ⟨l15, e_l15, h⟩ := bnd h
  have g_l15 := fr_X3_mostMissed_l21 e_l15 c k ⟨hc.2.2.1, hc.2.2.2.2.1, hc.2.2.2.2.2.1, hc.2.2.2.2.2.2.1, hc.2.2.2.2.2.2.2.1, hc.2.2.2.2.2.2.2.2.1, hc.2.2.2.2.2.2.2.2.2.1, hc.2.2.2.2.2.2.2.2.2.2.2.2.2.1, hc.2.2.2.2.2.2.2.2.2.2.2.2.2.2⟩
  obtain rfl := Option.some.inj h; exact (g_l15.trans g_H1)
theorem fr_X7_missed {x1 : Int32} {x2 : Int32} {H : Hp} {q : Int32 × Hp} (h : f_X7_missed x1 x2 H = some q) (c k : Nat) (hc : c ≠ 39 ∧ c ≠ 40 ∧ c ≠ 41 ∧ c ≠ 42 ∧ c ≠ 43 ∧ c ≠ 44 ∧ c ≠ 45 ∧ c ≠ 46 ∧ c ≠ 47 ∧ c ≠ 48 ∧ ¬ (c = 38 ∧ k = 10) ∧ ¬ (c = 38 ∧ k = 11) ∧ ¬ (c = 38 ∧ k = 12) ∧ ¬ (c = 38 ∧ k = 13) ∧ ¬ (c = 38 ∧ k = 14)) : q.2 c k = H c k := by
  unfold f_X7_missed at h
  obtain ⟨v1, -, h⟩ := bnd h
  by_cases c4 : v1 = 0
  · replace h := (if_pos c4).symm.trans h
    obtain rfl := Option.some.inj h; exact rfl
  · replace h := (if_neg c4).symm.trans h
    obtain ⟨v2, -, h⟩ := bnd h
    by_cases c5 : v2 = 0
    · replace h := (if_pos c5).symm.trans h
      obtain rfl := Option.some.inj h; exact rfl
    · replace h := (if_neg c5).symm.trans h
      obtain ⟨q3, e_q3, h⟩ := bnd h
      have g_q3 := fr_X3_mostMissed e_q3 c k ⟨hc.1, hc.2.1, hc.2.2.1, hc.2.2.2.1, hc.2.2.2.2.1, hc.2.2.2.2.2.1, hc.2.2.2.2.2.2.1, hc.2.2.2.2.2.2.2.1, hc.2.2.2.2.2.2.2.2.1, hc.2.2.2.2.2.2.2.2.2.1, hc.2.2.2.2.2.2.2.2.2.2.1, hc.2.2.2.2.2.2.2.2.2.2.2.1, hc.2.2.2.2.2.2.2.2.2.2.2.2.1, hc.2.2.2.2.2.2.2.2.2.2.2.2.2.1, hc.2.2.2.2.2.2.2.2.2.2.2.2.2.2⟩
      obtain rfl := Option.some.inj h; exact g_q3
theorem fr_X3_likestRing {x1 : Int32} {H : Hp} {q : Int32 × Hp} (h : f_X3_likestRing x1 H = some q) (c k : Nat) (hc : c ≠ 39 ∧ c ≠ 40 ∧ ¬ (c = 38 ∧ k = 10) ∧ ¬ (c = 38 ∧ k = 11) ∧ ¬ (c = 38 ∧ k = 12)) : q.2 c k = H c k := by
  unfold f_X3_likestRing at h
  obtain ⟨H1, e_H1, h⟩ := bnd h
  have g_H1 := fr_X2_lay e_H1 c k ⟨hc.1, hc.2.1, hc.2.2.1, hc.2.2.2.1, hc.2.2.2.2⟩
  obtain ⟨l11, -, h⟩ := bnd h
  by_cases c12 : l11.2.2 = 0
  · replace h := (if_pos c12).symm.trans h
    obtain rfl := Option.some.inj h; exact g_H1
  · replace h := (if_neg c12).symm.trans h
    by_cases c13 : x1 = 2
    · replace h := (if_pos c13).symm.trans h
      obtain rfl := Option.some.inj h; exact g_H1
    · replace h := (if_neg c13).symm.trans h
      obtain rfl := Option.some.inj h; exact g_H1
theorem fr_X7_ring {x1 : Int32} {H : Hp} {q : Int32 × Hp} (h : f_X7_ring x1 H = some q) (c k : Nat) (hc : c ≠ 39 ∧ c ≠ 40 ∧ ¬ (c = 38 ∧ k = 10) ∧ ¬ (c = 38 ∧ k = 11) ∧ ¬ (c = 38 ∧ k = 12)) : q.2 c k = H c k := by
  unfold f_X7_ring at h
  by_cases c4 : (H 7 0) = 0
  · replace h := (if_pos c4).symm.trans h
    obtain rfl := Option.some.inj h; exact rfl
  · replace h := (if_neg c4).symm.trans h
    obtain ⟨v1, -, h⟩ := bnd h
    obtain ⟨j3, e_j3, h⟩ := bnd h
    have g_j3 : j3.2 c k = H c k := by
      by_cases c5 : v1 = 0
      · replace e_j3 := (if_pos c5).symm.trans e_j3
        obtain rfl := Option.some.inj e_j3
        rfl
      · replace e_j3 := (if_neg c5).symm.trans e_j3
        obtain ⟨q2, e_q2, e_j3⟩ := bnd e_j3
        have g_q2 := fr_X3_likestRing e_q2 c k ⟨hc.1, hc.2.1, hc.2.2.1, hc.2.2.2.1, hc.2.2.2.2⟩
        obtain rfl := Option.some.inj e_j3
        exact g_q2
    obtain rfl := Option.some.inj h; exact g_j3
theorem fr_X3_bestHalves_l43_i {x2 : Int32} {x3 : Int32} {x4 : Int32} {x6 : Int32} (c k : Nat) (hc : c ≠ 39 ∧ c ≠ 40 ∧ c ≠ 41 ∧ c ≠ 43 ∧ c ≠ 44 ∧ c ≠ 45 ∧ c ≠ 46 ∧ c ≠ 47 ∧ c ≠ 48 ∧ ¬ (c = 38 ∧ k = 13) ∧ ¬ (c = 38 ∧ k = 14)) : ∀ (n : Nat) (x7 : Int32) (x8 : Int32) (x9 : Int32) (H : Hp) (q : Int32 × Int32 × Hp), f_X3_bestHalves_l43 x2 x3 x4 x6 n x7 x8 x9 H = some q → q.2.2 c k = H c k := by
  intro n
  induction n with
  | zero => intro x7 x8 x9 H q h; simp [f_X3_bestHalves_l43] at h
  | succ n ih =>
    intro x7 x8 x9 H q h
    rw [f_X3_bestHalves_l43] at h
    by_cases c22 : x2 < x9
    · replace h := (if_pos c22).symm.trans h
      obtain rfl := Option.some.inj h
      rfl
    · replace h := (if_neg c22).symm.trans h
      obtain ⟨H4, e_H4, h⟩ := bnd h
      have g_H4 := fr_X2_settle e_H4 c k ⟨hc.2.2.2.2.2.2.2.1, hc.2.2.2.2.2.2.2.2.1, hc.2.2.2.2.2.2.2.2.2.1, hc.2.2.2.2.2.2.2.2.2.2⟩
      obtain ⟨v5, -, h⟩ := bnd h
      obtain ⟨j7, -, h⟩ := bnd h
      obtain ⟨j10, e_j10, h⟩ := bnd h
      have g_j10 : j10 c k = H c k := by
        by_cases c23 : x2 ≤ x9
        · replace e_j10 := (if_pos c23).symm.trans e_j10
          obtain rfl := Option.some.inj e_j10
          exact g_H4
        · replace e_j10 := (if_neg c23).symm.trans e_j10
          obtain ⟨H8, e_H8, e_j10⟩ := bnd e_j10
          have g_H8 := fr_X2_add e_H8 c k ⟨hc.1, hc.2.1, hc.2.2.1, hc.2.2.2.1, hc.2.2.2.2.1, hc.2.2.2.2.2.1, hc.2.2.2.2.2.2.1⟩
          obtain ⟨H9, e_H9, e_j10⟩ := bnd e_j10
          have g_H9 := fr_X2_add e_H9 c k ⟨hc.1, hc.2.1, hc.2.2.1, hc.2.2.2.1, hc.2.2.2.2.1, hc.2.2.2.2.2.1, hc.2.2.2.2.2.2.1⟩
          obtain rfl := Option.some.inj e_j10
          exact (g_H9.trans (g_H8.trans g_H4))
      exact (ih (if x9 = 0 then x9 else (if (v5 + j7) ≤ x8 then x7 else x9)) (if x9 = 0 then (v5 + j7) else (if (v5 + j7) ≤ x8 then x8 else (v5 + j7))) (x9 + 1) j10 q h).trans g_j10
theorem fr_X3_bestHalves_l43 {x2 : Int32} {x3 : Int32} {x4 : Int32} {x6 : Int32}{n : Nat} {x7 : Int32} {x8 : Int32} {x9 : Int32} {H : Hp} {q : Int32 × Int32 × Hp} (h : f_X3_bestHalves_l43 x2 x3 x4 x6 n x7 x8 x9 H = some q) (c k : Nat) (hc : c ≠ 39 ∧ c ≠ 40 ∧ c ≠ 41 ∧ c ≠ 43 ∧ c ≠ 44 ∧ c ≠ 45 ∧ c ≠ 46 ∧ c ≠ 47 ∧ c ≠ 48 ∧ ¬ (c = 38 ∧ k = 13) ∧ ¬ (c = 38 ∧ k = 14)) : q.2.2 c k = H c k := fr_X3_bestHalves_l43_i c k hc n x7 x8 x9 H q h
theorem fr_X3_bestHalves {x1 : Int32} {x2 : Int32} {x3 : Int32} {x4 : Int32} {x5 : Int32} {H : Hp} {q : Int32 × Hp} (h : f_X3_bestHalves x1 x2 x3 x4 x5 H = some q) (c k : Nat) (hc : c ≠ 39 ∧ c ≠ 40 ∧ c ≠ 41 ∧ c ≠ 42 ∧ c ≠ 43 ∧ c ≠ 44 ∧ c ≠ 45 ∧ c ≠ 46 ∧ c ≠ 47 ∧ c ≠ 48 ∧ ¬ (c = 38 ∧ k = 10) ∧ ¬ (c = 38 ∧ k = 11) ∧ ¬ (c = 38 ∧ k = 12) ∧ ¬ (c = 38 ∧ k = 13) ∧ ¬ (c = 38 ∧ k = 14)) : q.2 c k = H c k := by
  unfold f_X3_bestHalves at h
  obtain ⟨v1, -, h⟩ := bnd h
  obtain ⟨H2, e_H2, h⟩ := bnd h
  have g_H2 := fr_X2_load e_H2 c k ⟨hc.1, hc.2.1, hc.2.2.1, hc.2.2.2.1, hc.2.2.2.2.1, hc.2.2.2.2.2.1, hc.2.2.2.2.2.2.1, hc.2.2.2.2.2.2.2.1, hc.2.2.2.2.2.2.2.2.2.2.1, hc.2.2.2.2.2.2.2.2.2.2.2.1, hc.2.2.2.2.2.2.2.2.2.2.2.2.1⟩
  obtain ⟨H3, e_H3, h⟩ := bnd h
  have g_H3 := fr_X2_add e_H3 c k ⟨hc.1, hc.2.1, hc.2.2.1, hc.2.2.2.2.1, hc.2.2.2.2.2.1, hc.2.2.2.2.2.2.1, hc.2.2.2.2.2.2.2.1⟩
  obtain ⟨l21, e_l21, h⟩ := bnd h
  have g_l21 := fr_X3_bestHalves_l43 e_l21 c k ⟨hc.1, hc.2.1, hc.2.2.1, hc.2.2.2.2.1, hc.2.2.2.2.2.1, hc.2.2.2.2.2.2.1, hc.2.2.2.2.2.2.2.1, hc.2.2.2.2.2.2.2.2.1, hc.2.2.2.2.2.2.2.2.2.1, hc.2.2.2.2.2.2.2.2.2.2.2.2.2.1, hc.2.2.2.2.2.2.2.2.2.2.2.2.2.2⟩
  obtain rfl := Option.some.inj h; exact (g_l21.trans (g_H3.trans g_H2))
theorem fr_X7_halves {x1 : Int32} {x2 : Int32} {x3 : Int32} {x4 : Int32} {x5 : Int32} {H : Hp} {q : Int32 × Hp} (h : f_X7_halves x1 x2 x3 x4 x5 H = some q) (c k : Nat) (hc : c ≠ 39 ∧ c ≠ 40 ∧ c ≠ 41 ∧ c ≠ 42 ∧ c ≠ 43 ∧ c ≠ 44 ∧ c ≠ 45 ∧ c ≠ 46 ∧ c ≠ 47 ∧ c ≠ 48 ∧ ¬ (c = 38 ∧ k = 10) ∧ ¬ (c = 38 ∧ k = 11) ∧ ¬ (c = 38 ∧ k = 12) ∧ ¬ (c = 38 ∧ k = 13) ∧ ¬ (c = 38 ∧ k = 14)) : q.2 c k = H c k := by
  unfold f_X7_halves at h
  obtain ⟨v1, -, h⟩ := bnd h
  by_cases c7 : v1 = 0
  · replace h := (if_pos c7).symm.trans h
    obtain rfl := Option.some.inj h; exact rfl
  · replace h := (if_neg c7).symm.trans h
    obtain ⟨v2, -, h⟩ := bnd h
    by_cases c8 : v2 = 0
    · replace h := (if_pos c8).symm.trans h
      obtain rfl := Option.some.inj h; exact rfl
    · replace h := (if_neg c8).symm.trans h
      obtain ⟨v3, -, h⟩ := bnd h
      by_cases c9 : v3 = 0
      · replace h := (if_pos c9).symm.trans h
        obtain rfl := Option.some.inj h; exact rfl
      · replace h := (if_neg c9).symm.trans h
        obtain ⟨v4, -, h⟩ := bnd h
        by_cases c10 : v4 = 0
        · replace h := (if_pos c10).symm.trans h
          obtain rfl := Option.some.inj h; exact rfl
        · replace h := (if_neg c10).symm.trans h
          obtain ⟨v5, -, h⟩ := bnd h
          by_cases c11 : v5 = 0
          · replace h := (if_pos c11).symm.trans h
            obtain rfl := Option.some.inj h; exact rfl
          · replace h := (if_neg c11).symm.trans h
            by_cases c12 : (H 7 4) ≤ 18
            · replace h := (if_pos c12).symm.trans h
              obtain ⟨q6, e_q6, h⟩ := bnd h
              have g_q6 := fr_X3_bestHalves e_q6 c k ⟨hc.1, hc.2.1, hc.2.2.1, hc.2.2.2.1, hc.2.2.2.2.1, hc.2.2.2.2.2.1, hc.2.2.2.2.2.2.1, hc.2.2.2.2.2.2.2.1, hc.2.2.2.2.2.2.2.2.1, hc.2.2.2.2.2.2.2.2.2.1, hc.2.2.2.2.2.2.2.2.2.2.1, hc.2.2.2.2.2.2.2.2.2.2.2.1, hc.2.2.2.2.2.2.2.2.2.2.2.2.1, hc.2.2.2.2.2.2.2.2.2.2.2.2.2.1, hc.2.2.2.2.2.2.2.2.2.2.2.2.2.2⟩
              obtain rfl := Option.some.inj h; exact g_q6
            · replace h := (if_neg c12).symm.trans h
              obtain rfl := Option.some.inj h; exact rfl
theorem fr_X3_setsPaid {x1 : Int32} {x2 : Int32} {H : Hp} {q : Int32 × Hp} (h : f_X3_setsPaid x1 x2 H = some q) (c k : Nat) (hc : c ≠ 39 ∧ c ≠ 40 ∧ c ≠ 41 ∧ c ≠ 42 ∧ c ≠ 43 ∧ c ≠ 44 ∧ c ≠ 45 ∧ c ≠ 46 ∧ c ≠ 47 ∧ c ≠ 48 ∧ ¬ (c = 38 ∧ k = 10) ∧ ¬ (c = 38 ∧ k = 11) ∧ ¬ (c = 38 ∧ k = 12) ∧ ¬ (c = 38 ∧ k = 13) ∧ ¬ (c = 38 ∧ k = 14)) : q.2 c k = H c k := by
  unfold f_X3_setsPaid at h
  obtain ⟨H1, e_H1, h⟩ := bnd h
  have g_H1 := fr_X2_load e_H1 c k ⟨hc.1, hc.2.1, hc.2.2.1, hc.2.2.2.1, hc.2.2.2.2.1, hc.2.2.2.2.2.1, hc.2.2.2.2.2.2.1, hc.2.2.2.2.2.2.2.1, hc.2.2.2.2.2.2.2.2.2.2.1, hc.2.2.2.2.2.2.2.2.2.2.2.1, hc.2.2.2.2.2.2.2.2.2.2.2.2.1⟩
  obtain ⟨H2, e_H2, h⟩ := bnd h
  have g_H2 := fr_X2_settle e_H2 c k ⟨hc.2.2.2.2.2.2.2.2.1, hc.2.2.2.2.2.2.2.2.2.1, hc.2.2.2.2.2.2.2.2.2.2.2.2.2.1, hc.2.2.2.2.2.2.2.2.2.2.2.2.2.2⟩
  obtain ⟨l10, -, h⟩ := bnd h
  by_cases c11 : x2 = 0
  · replace h := (if_pos c11).symm.trans h
    obtain rfl := Option.some.inj h; exact (g_H2.trans g_H1)
  · replace h := (if_neg c11).symm.trans h
    by_cases c12 : x2 = 2
    · replace h := (if_pos c12).symm.trans h
      obtain rfl := Option.some.inj h; exact (g_H2.trans g_H1)
    · replace h := (if_neg c12).symm.trans h
      obtain rfl := Option.some.inj h; exact (g_H2.trans g_H1)
theorem fr_X7_sets {x1 : Int32} {x2 : Int32} {H : Hp} {q : Int32 × Hp} (h : f_X7_sets x1 x2 H = some q) (c k : Nat) (hc : c ≠ 39 ∧ c ≠ 40 ∧ c ≠ 41 ∧ c ≠ 42 ∧ c ≠ 43 ∧ c ≠ 44 ∧ c ≠ 45 ∧ c ≠ 46 ∧ c ≠ 47 ∧ c ≠ 48 ∧ ¬ (c = 38 ∧ k = 10) ∧ ¬ (c = 38 ∧ k = 11) ∧ ¬ (c = 38 ∧ k = 12) ∧ ¬ (c = 38 ∧ k = 13) ∧ ¬ (c = 38 ∧ k = 14)) : q.2 c k = H c k := by
  unfold f_X7_sets at h
  by_cases c4 : (H 7 0) = 0
  · replace h := (if_pos c4).symm.trans h
    obtain rfl := Option.some.inj h; exact rfl
  · replace h := (if_neg c4).symm.trans h
    obtain ⟨v1, -, h⟩ := bnd h
    by_cases c5 : v1 = 0
    · replace h := (if_pos c5).symm.trans h
      obtain rfl := Option.some.inj h; exact rfl
    · replace h := (if_neg c5).symm.trans h
      obtain ⟨v2, -, h⟩ := bnd h
      by_cases c6 : v2 = 0
      · replace h := (if_pos c6).symm.trans h
        obtain rfl := Option.some.inj h; exact rfl
      · replace h := (if_neg c6).symm.trans h
        obtain ⟨q3, e_q3, h⟩ := bnd h
        have g_q3 := fr_X3_setsPaid e_q3 c k ⟨hc.1, hc.2.1, hc.2.2.1, hc.2.2.2.1, hc.2.2.2.2.1, hc.2.2.2.2.2.1, hc.2.2.2.2.2.2.1, hc.2.2.2.2.2.2.2.1, hc.2.2.2.2.2.2.2.2.1, hc.2.2.2.2.2.2.2.2.2.1, hc.2.2.2.2.2.2.2.2.2.2.1, hc.2.2.2.2.2.2.2.2.2.2.2.1, hc.2.2.2.2.2.2.2.2.2.2.2.2.1, hc.2.2.2.2.2.2.2.2.2.2.2.2.2.1, hc.2.2.2.2.2.2.2.2.2.2.2.2.2.2⟩
        obtain rfl := Option.some.inj h; exact g_q3
theorem fr_X3_turnsFrom_i (c k : Nat) (hc : c ≠ 39 ∧ c ≠ 40 ∧ c ≠ 41 ∧ c ≠ 43 ∧ c ≠ 44 ∧ c ≠ 45 ∧ c ≠ 46 ∧ c ≠ 47 ∧ c ≠ 48 ∧ ¬ (c = 38 ∧ k = 13) ∧ ¬ (c = 38 ∧ k = 14)) : ∀ (n : Nat) (x1 : Int32) (x2 : Int32) (x3 : Int32) (x4 : Int32) (x5 : Int32) (H : Hp) (q : Int32 × Hp), f_X3_turnsFrom n x1 x2 x3 x4 x5 H = some q → q.2 c k = H c k := by
  intro n
  induction n with
  | zero => intro x1 x2 x3 x4 x5 H q h; simp [f_X3_turnsFrom] at h
  | succ n ih =>
    intro x1 x2 x3 x4 x5 H q h
    rw [f_X3_turnsFrom] at h
    by_cases c14 : x3 ≤ 0
    · replace h := (if_pos c14).symm.trans h
      obtain ⟨H1, e_H1, h⟩ := bnd h
      have g_H1 := fr_X2_settle e_H1 c k ⟨hc.2.2.2.2.2.2.2.1, hc.2.2.2.2.2.2.2.2.1, hc.2.2.2.2.2.2.2.2.2.1, hc.2.2.2.2.2.2.2.2.2.2⟩
      obtain ⟨v2, -, h⟩ := bnd h
      obtain ⟨v3, -, h⟩ := bnd h
      obtain rfl := Option.some.inj h; exact g_H1
    · replace h := (if_neg c14).symm.trans h
      by_cases c15 : x3 ≤ 4
      · replace h := (if_pos c15).symm.trans h
        obtain ⟨q4, e_q4, h⟩ := bnd h
        have g_q4 := ih x2 x1 (x3 - 1) x4 ((if x5 = 0 then 1 else 0) : Int32) H _ e_q4
        obtain ⟨H5, e_H5, h⟩ := bnd h
        have g_H5 := fr_X2_add e_H5 c k ⟨hc.1, hc.2.1, hc.2.2.1, hc.2.2.2.1, hc.2.2.2.2.1, hc.2.2.2.2.2.1, hc.2.2.2.2.2.2.1⟩
        obtain ⟨q6, e_q6, h⟩ := bnd h
        have g_q6 := ih x2 x1 (x3 - 1) x4 ((if x5 = 0 then 1 else 0) : Int32) H5 _ e_q6
        obtain ⟨H7, e_H7, h⟩ := bnd h
        have g_H7 := fr_X2_add e_H7 c k ⟨hc.1, hc.2.1, hc.2.2.1, hc.2.2.2.1, hc.2.2.2.2.1, hc.2.2.2.2.2.1, hc.2.2.2.2.2.2.1⟩
        obtain ⟨H8, e_H8, h⟩ := bnd h
        have g_H8 := fr_X2_add e_H8 c k ⟨hc.1, hc.2.1, hc.2.2.1, hc.2.2.2.1, hc.2.2.2.2.1, hc.2.2.2.2.2.1, hc.2.2.2.2.2.2.1⟩
        obtain ⟨q9, e_q9, h⟩ := bnd h
        have g_q9 := ih x2 x1 (x3 - 1) x4 ((if x5 = 0 then 1 else 0) : Int32) H8 _ e_q9
        obtain ⟨H10, e_H10, h⟩ := bnd h
        have g_H10 := fr_X2_add e_H10 c k ⟨hc.1, hc.2.1, hc.2.2.1, hc.2.2.2.1, hc.2.2.2.2.1, hc.2.2.2.2.2.1, hc.2.2.2.2.2.2.1⟩
        obtain rfl := Option.some.inj h; exact (g_H10.trans (g_q9.trans (g_H8.trans (g_H7.trans (g_q6.trans (g_H5.trans g_q4))))))
      · replace h := (if_neg c15).symm.trans h
        obtain ⟨H11, e_H11, h⟩ := bnd h
        have g_H11 := fr_X2_settle e_H11 c k ⟨hc.2.2.2.2.2.2.2.1, hc.2.2.2.2.2.2.2.2.1, hc.2.2.2.2.2.2.2.2.2.1, hc.2.2.2.2.2.2.2.2.2.2⟩
        obtain ⟨v12, -, h⟩ := bnd h
        obtain ⟨v13, -, h⟩ := bnd h
        obtain rfl := Option.some.inj h; exact g_H11
theorem fr_X3_turnsFrom {n : Nat} {x1 : Int32} {x2 : Int32} {x3 : Int32} {x4 : Int32} {x5 : Int32} {H : Hp} {q : Int32 × Hp} (h : f_X3_turnsFrom n x1 x2 x3 x4 x5 H = some q) (c k : Nat) (hc : c ≠ 39 ∧ c ≠ 40 ∧ c ≠ 41 ∧ c ≠ 43 ∧ c ≠ 44 ∧ c ≠ 45 ∧ c ≠ 46 ∧ c ≠ 47 ∧ c ≠ 48 ∧ ¬ (c = 38 ∧ k = 13) ∧ ¬ (c = 38 ∧ k = 14)) : q.2 c k = H c k := fr_X3_turnsFrom_i c k hc n x1 x2 x3 x4 x5 H q h
theorem fr_X3_outcomeOfTurns {x1 : Int32} {x2 : Int32} {x3 : Int32} {x4 : Int32} {H : Hp} {q : Int32 × Hp} (h : f_X3_outcomeOfTurns x1 x2 x3 x4 H = some q) (c k : Nat) (hc : c ≠ 39 ∧ c ≠ 40 ∧ c ≠ 41 ∧ c ≠ 42 ∧ c ≠ 43 ∧ c ≠ 44 ∧ c ≠ 45 ∧ c ≠ 46 ∧ c ≠ 47 ∧ c ≠ 48 ∧ ¬ (c = 38 ∧ k = 10) ∧ ¬ (c = 38 ∧ k = 11) ∧ ¬ (c = 38 ∧ k = 12) ∧ ¬ (c = 38 ∧ k = 13) ∧ ¬ (c = 38 ∧ k = 14)) : q.2 c k = H c k := by
  unfold f_X3_outcomeOfTurns at h
  obtain ⟨H1, e_H1, h⟩ := bnd h
  have g_H1 := fr_X2_load e_H1 c k ⟨hc.1, hc.2.1, hc.2.2.1, hc.2.2.2.1, hc.2.2.2.2.1, hc.2.2.2.2.2.1, hc.2.2.2.2.2.2.1, hc.2.2.2.2.2.2.2.1, hc.2.2.2.2.2.2.2.2.2.2.1, hc.2.2.2.2.2.2.2.2.2.2.2.1, hc.2.2.2.2.2.2.2.2.2.2.2.2.1⟩
  obtain ⟨v2, -, h⟩ := bnd h
  obtain ⟨v3, -, h⟩ := bnd h
  obtain ⟨q4, e_q4, h⟩ := bnd h
  have g_q4 := fr_X3_turnsFrom e_q4 c k ⟨hc.1, hc.2.1, hc.2.2.1, hc.2.2.2.2.1, hc.2.2.2.2.2.1, hc.2.2.2.2.2.2.1, hc.2.2.2.2.2.2.2.1, hc.2.2.2.2.2.2.2.2.1, hc.2.2.2.2.2.2.2.2.2.1, hc.2.2.2.2.2.2.2.2.2.2.2.2.2.1, hc.2.2.2.2.2.2.2.2.2.2.2.2.2.2⟩
  obtain rfl := Option.some.inj h; exact (g_q4.trans g_H1)
theorem fr_X7_byTurns {x1 : Int32} {x2 : Int32} {x3 : Int32} {x4 : Int32} {H : Hp} {q : Int32 × Hp} (h : f_X7_byTurns x1 x2 x3 x4 H = some q) (c k : Nat) (hc : c ≠ 39 ∧ c ≠ 40 ∧ c ≠ 41 ∧ c ≠ 42 ∧ c ≠ 43 ∧ c ≠ 44 ∧ c ≠ 45 ∧ c ≠ 46 ∧ c ≠ 47 ∧ c ≠ 48 ∧ ¬ (c = 38 ∧ k = 10) ∧ ¬ (c = 38 ∧ k = 11) ∧ ¬ (c = 38 ∧ k = 12) ∧ ¬ (c = 38 ∧ k = 13) ∧ ¬ (c = 38 ∧ k = 14)) : q.2 c k = H c k := by
  unfold f_X7_byTurns at h
  by_cases c5 : (H 7 0) = 0
  · replace h := (if_pos c5).symm.trans h
    obtain rfl := Option.some.inj h; exact rfl
  · replace h := (if_neg c5).symm.trans h
    obtain ⟨v1, -, h⟩ := bnd h
    by_cases c6 : v1 = 0
    · replace h := (if_pos c6).symm.trans h
      obtain rfl := Option.some.inj h; exact rfl
    · replace h := (if_neg c6).symm.trans h
      obtain ⟨v2, -, h⟩ := bnd h
      by_cases c7 : v2 = 0
      · replace h := (if_pos c7).symm.trans h
        obtain rfl := Option.some.inj h; exact rfl
      · replace h := (if_neg c7).symm.trans h
        obtain ⟨v3, -, h⟩ := bnd h
        by_cases c8 : v3 = 0
        · replace h := (if_pos c8).symm.trans h
          obtain rfl := Option.some.inj h; exact rfl
        · replace h := (if_neg c8).symm.trans h
          by_cases c9 : (H 7 4) ≤ 16
          · replace h := (if_pos c9).symm.trans h
            obtain ⟨q4, e_q4, h⟩ := bnd h
            have g_q4 := fr_X3_outcomeOfTurns e_q4 c k ⟨hc.1, hc.2.1, hc.2.2.1, hc.2.2.2.1, hc.2.2.2.2.1, hc.2.2.2.2.2.1, hc.2.2.2.2.2.2.1, hc.2.2.2.2.2.2.2.1, hc.2.2.2.2.2.2.2.2.1, hc.2.2.2.2.2.2.2.2.2.1, hc.2.2.2.2.2.2.2.2.2.2.1, hc.2.2.2.2.2.2.2.2.2.2.2.1, hc.2.2.2.2.2.2.2.2.2.2.2.2.1, hc.2.2.2.2.2.2.2.2.2.2.2.2.2.1, hc.2.2.2.2.2.2.2.2.2.2.2.2.2.2⟩
            obtain rfl := Option.some.inj h; exact g_q4
          · replace h := (if_neg c9).symm.trans h
            obtain rfl := Option.some.inj h; exact rfl
theorem fr_X3_expect_l3_i {x2 : Int32} {x3 : Int32} (c k : Nat) (hc : c ≠ 57) : ∀ (n : Nat) (x4 : Int32) (H : Hp) (q : Hp), f_X3_expect_l3 x2 x3 n x4 H = some q → q c k = H c k := by
  intro n
  induction n with
  | zero => intro x4 H q h; simp [f_X3_expect_l3] at h
  | succ n ih =>
    intro x4 H q h
    rw [f_X3_expect_l3] at h
    by_cases c5 : (H 7 3) ≤ x4
    · replace h := (if_pos c5).symm.trans h
      obtain rfl := Option.some.inj h
      rfl
    · replace h := (if_neg c5).symm.trans h
      obtain ⟨v1, -, h⟩ := bnd h
      obtain ⟨H2, e_H2, h⟩ := bnd h
      have g_H2 := as_fr (c := c) (k := k) e_H2 hc
      exact (ih (x4 + 1) H2 q h).trans g_H2
theorem fr_X3_expect_l3 {x2 : Int32} {x3 : Int32}{n : Nat} {x4 : Int32} {H : Hp} {q : Hp} (h : f_X3_expect_l3 x2 x3 n x4 H = some q) (c k : Nat) (hc : c ≠ 57) : q c k = H c k := fr_X3_expect_l3_i c k hc n x4 H q h
theorem fr_X3_expect {x2 : Int32} {x3 : Int32} {H : Hp} {q : Hp} (h : f_X3_expect x2 x3 H = some q) (c k : Nat) (hc : c ≠ 57) : q c k = H c k := by
  unfold f_X3_expect at h
  obtain ⟨l4, e_l4, h⟩ := bnd h
  have g_l4 := fr_X3_expect_l3 e_l4 c k hc
  obtain rfl := Option.some.inj h; exact g_l4
theorem fr_X3_fittingPots_l22_i {x1 : Int32} (c k : Nat) (hc : c ≠ 48 ∧ ¬ (c = 38 ∧ k = 14)) : ∀ (n : Nat) (x2 : Int32) (x3 : Int32) (H : Hp) (q : (Int32 × Hp) ⊕ (Int32 × Hp)), f_X3_fittingPots_l22 x1 n x2 x3 H = some q → (∀ t, q = .inl t → t.2 c k = H c k) ∧ (∀ r, q = .inr r → r.2 c k = H c k) := by
  intro n
  induction n with
  | zero => intro x2 x3 H q h; simp [f_X3_fittingPots_l22] at h
  | succ n ih =>
    intro x2 x3 H q h
    rw [f_X3_fittingPots_l22] at h
    by_cases c10 : 999 < x3
    · replace h := (if_pos c10).symm.trans h
      obtain rfl := Option.some.inj h
      exact ⟨fun t ht => (by cases ht; exact rfl), fun r hr => (by cases hr)⟩
    · replace h := (if_neg c10).symm.trans h
      obtain ⟨H3, e_H3, h⟩ := bnd h
      have g_H3 := fr_X2_share e_H3 c k ⟨hc.1, hc.2⟩
      obtain ⟨v4, -, h⟩ := bnd h
      by_cases c11 : v4 = 0
      · replace h := (if_pos c11).symm.trans h
        have z := ih x2 (x3 + 1) H3 q h
        exact ⟨fun t ht => (z.1 t ht).trans g_H3, fun r hr => (z.2 r hr).trans g_H3⟩
      · replace h := (if_neg c11).symm.trans h
        by_cases c12 : x1 = 0
        · replace h := (if_pos c12).symm.trans h
          have z := ih (x2 + 1) (x3 + 1) H3 q h
          exact ⟨fun t ht => (z.1 t ht).trans g_H3, fun r hr => (z.2 r hr).trans g_H3⟩
        · replace h := (if_neg c12).symm.trans h
          obtain rfl := Option.some.inj h; exact ⟨fun t ht => (by cases ht), fun r hr => (by cases hr; exact g_H3)⟩
theorem fr_X3_fittingPots_l22 {x1 : Int32}{n : Nat} {x2 : Int32} {x3 : Int32} {H : Hp} {q : (Int32 × Hp) ⊕ (Int32 × Hp)} (h : f_X3_fittingPots_l22 x1 n x2 x3 H = some q) (c k : Nat) (hc : c ≠ 48 ∧ ¬ (c = 38 ∧ k = 14)) : (∀ t, q = .inl t → t.2 c k = H c k) ∧ (∀ r, q = .inr r → r.2 c k = H c k) := fr_X3_fittingPots_l22_i c k hc n x2 x3 H q h
theorem fr_X3_fittingPots {x1 : Int32} {H : Hp} {q : Int32 × Hp} (h : f_X3_fittingPots x1 H = some q) (c k : Nat) (hc : c ≠ 39 ∧ c ≠ 40 ∧ c ≠ 41 ∧ c ≠ 42 ∧ c ≠ 43 ∧ c ≠ 44 ∧ c ≠ 45 ∧ c ≠ 46 ∧ c ≠ 47 ∧ c ≠ 48 ∧ ¬ (c = 38 ∧ k = 10) ∧ ¬ (c = 38 ∧ k = 11) ∧ ¬ (c = 38 ∧ k = 12) ∧ ¬ (c = 38 ∧ k = 13) ∧ ¬ (c = 38 ∧ k = 14)) : q.2 c k = H c k := by
  unfold f_X3_fittingPots at h
  obtain ⟨H1, e_H1, h⟩ := bnd h
  have g_H1 := fr_X2_load e_H1 c k ⟨hc.1, hc.2.1, hc.2.2.1, hc.2.2.2.1, hc.2.2.2.2.1, hc.2.2.2.2.2.1, hc.2.2.2.2.2.2.1, hc.2.2.2.2.2.2.2.1, hc.2.2.2.2.2.2.2.2.2.2.1, hc.2.2.2.2.2.2.2.2.2.2.2.1, hc.2.2.2.2.2.2.2.2.2.2.2.2.1⟩
  obtain ⟨H2, e_H2, h⟩ := bnd h
  have g_H2 := fr_X2_settle e_H2 c k ⟨hc.2.2.2.2.2.2.2.2.1, hc.2.2.2.2.2.2.2.2.2.1, hc.2.2.2.2.2.2.2.2.2.2.2.2.2.1, hc.2.2.2.2.2.2.2.2.2.2.2.2.2.2⟩
  obtain ⟨l8, e_l8, h⟩ := bnd h
  have g_l8 := fr_X3_fittingPots_l22 e_l8 c k ⟨hc.2.2.2.2.2.2.2.2.2.1, hc.2.2.2.2.2.2.2.2.2.2.2.2.2.2⟩
  cases l8 with
  | inl t9 =>
    rw [Sum.elim_inl] at h
    obtain rfl := Option.some.inj h; exact ((g_l8.1 _ rfl).trans (g_H2.trans g_H1))
  | inr r =>
    rw [Sum.elim_inr] at h
    obtain rfl := Option.some.inj h; exact ((g_l8.2 _ rfl).trans (g_H2.trans g_H1))
theorem fr_X3_fittingKinds_l15_i {x1 : Int32} (c k : Nat) (hc : c ≠ 42 ∧ c ≠ 47 ∧ c ≠ 48 ∧ ¬ (c = 38 ∧ k = 13) ∧ ¬ (c = 38 ∧ k = 14)) : ∀ (n : Nat) (x2 : Int32) (x3 : Int32) (H : Hp) (q : Int32 × Hp), f_X3_fittingKinds_l15 x1 n x2 x3 H = some q → q.2 c k = H c k := by
  intro n
  induction n with
  | zero => intro x2 x3 H q h; simp [f_X3_fittingKinds_l15] at h
  | succ n ih =>
    intro x2 x3 H q h
    rw [f_X3_fittingKinds_l15] at h
    by_cases c10 : 5 < x3
    · replace h := (if_pos c10).symm.trans h
      obtain rfl := Option.some.inj h
      rfl
    · replace h := (if_neg c10).symm.trans h
      obtain ⟨H2, e_H2, h⟩ := bnd h
      have g_H2 := as_fr (c := c) (k := k) e_H2 hc.1
      obtain ⟨H3, e_H3, h⟩ := bnd h
      have g_H3 := fr_X2_settle e_H3 c k ⟨hc.2.1, hc.2.2.1, hc.2.2.2.1, hc.2.2.2.2⟩
      obtain ⟨v4, -, h⟩ := bnd h
      exact (ih (if v4 = 0 then x2 else (x2 ||| ((1 : Int32) <<< (x3 &&& 31)))) (x3 + 1) H3 q h).trans (g_H3.trans g_H2)
theorem fr_X3_fittingKinds_l15 {x1 : Int32}{n : Nat} {x2 : Int32} {x3 : Int32} {H : Hp} {q : Int32 × Hp} (h : f_X3_fittingKinds_l15 x1 n x2 x3 H = some q) (c k : Nat) (hc : c ≠ 42 ∧ c ≠ 47 ∧ c ≠ 48 ∧ ¬ (c = 38 ∧ k = 13) ∧ ¬ (c = 38 ∧ k = 14)) : q.2 c k = H c k := fr_X3_fittingKinds_l15_i c k hc n x2 x3 H q h
theorem fr_X3_fittingKinds {x1 : Int32} {H : Hp} {q : Int32 × Hp} (h : f_X3_fittingKinds x1 H = some q) (c k : Nat) (hc : c ≠ 39 ∧ c ≠ 40 ∧ c ≠ 41 ∧ c ≠ 42 ∧ c ≠ 43 ∧ c ≠ 44 ∧ c ≠ 45 ∧ c ≠ 46 ∧ c ≠ 47 ∧ c ≠ 48 ∧ ¬ (c = 38 ∧ k = 10) ∧ ¬ (c = 38 ∧ k = 11) ∧ ¬ (c = 38 ∧ k = 12) ∧ ¬ (c = 38 ∧ k = 13) ∧ ¬ (c = 38 ∧ k = 14)) : q.2 c k = H c k := by
  unfold f_X3_fittingKinds at h
  obtain ⟨H1, e_H1, h⟩ := bnd h
  have g_H1 := fr_X2_load e_H1 c k ⟨hc.1, hc.2.1, hc.2.2.1, hc.2.2.2.1, hc.2.2.2.2.1, hc.2.2.2.2.2.1, hc.2.2.2.2.2.2.1, hc.2.2.2.2.2.2.2.1, hc.2.2.2.2.2.2.2.2.2.2.1, hc.2.2.2.2.2.2.2.2.2.2.2.1, hc.2.2.2.2.2.2.2.2.2.2.2.2.1⟩
  obtain ⟨l9, e_l9, h⟩ := bnd h
  have g_l9 := fr_X3_fittingKinds_l15 e_l9 c k ⟨hc.2.2.2.1, hc.2.2.2.2.2.2.2.2.1, hc.2.2.2.2.2.2.2.2.2.1, hc.2.2.2.2.2.2.2.2.2.2.2.2.2.1, hc.2.2.2.2.2.2.2.2.2.2.2.2.2.2⟩
  obtain rfl := Option.some.inj h; exact (g_l9.trans g_H1)
theorem fr_X3_fittingCoins_l67_i {x2 : Int32} {x4 : Int32} {x5 : Int32} (c k : Nat) (hc : c ≠ 39 ∧ c ≠ 40 ∧ c ≠ 41 ∧ c ≠ 43 ∧ c ≠ 44 ∧ c ≠ 45 ∧ c ≠ 46 ∧ c ≠ 47 ∧ c ≠ 48 ∧ ¬ (c = 38 ∧ k = 13) ∧ ¬ (c = 38 ∧ k = 14)) : ∀ (n : Nat) (x3 : Int32) (x6 : Int32) (H : Hp) (q : (Int32 × Hp) ⊕ (Int32 × Hp)), f_X3_fittingCoins_l67 x2 x4 x5 n x3 x6 H = some q → (∀ t, q = .inl t → t.2 c k = H c k) ∧ (∀ r, q = .inr r → r.2 c k = H c k) := by
  intro n
  induction n with
  | zero => intro x3 x6 H q h; simp [f_X3_fittingCoins_l67] at h
  | succ n ih =>
    intro x3 x6 H q h
    rw [f_X3_fittingCoins_l67] at h
    by_cases c15 : 99 < x6
    · replace h := (if_pos c15).symm.trans h
      obtain rfl := Option.some.inj h
      exact ⟨fun t ht => (by cases ht; exact rfl), fun r hr => (by cases hr)⟩
    · replace h := (if_neg c15).symm.trans h
      obtain ⟨H7, e_H7, h⟩ := bnd h
      have g_H7 := fr_X2_add e_H7 c k ⟨hc.1, hc.2.1, hc.2.2.1, hc.2.2.2.1, hc.2.2.2.2.1, hc.2.2.2.2.2.1, hc.2.2.2.2.2.2.1⟩
      obtain ⟨H8, e_H8, h⟩ := bnd h
      have g_H8 := fr_X2_settle e_H8 c k ⟨hc.2.2.2.2.2.2.2.1, hc.2.2.2.2.2.2.2.2.1, hc.2.2.2.2.2.2.2.2.2.1, hc.2.2.2.2.2.2.2.2.2.2⟩
      obtain ⟨v9, -, h⟩ := bnd h
      by_cases c16 : v9 = 0
      · replace h := (if_pos c16).symm.trans h
        have z := ih x3 (x6 + 1) H8 q h
        exact ⟨fun t ht => (z.1 t ht).trans (g_H8.trans g_H7), fun r hr => (z.2 r hr).trans (g_H8.trans g_H7)⟩
      · replace h := (if_neg c16).symm.trans h
        by_cases c17 : x2 = 0
        · replace h := (if_pos c17).symm.trans h
          have z := ih (x3 + 1) (x6 + 1) H8 q h
          exact ⟨fun t ht => (z.1 t ht).trans (g_H8.trans g_H7), fun r hr => (z.2 r hr).trans (g_H8.trans g_H7)⟩
        · replace h := (if_neg c17).symm.trans h
          obtain rfl := Option.some.inj h; exact ⟨fun t ht => (by cases ht), fun r hr => (by cases hr; exact (g_H8.trans g_H7))⟩
theorem fr_X3_fittingCoins_l67 {x2 : Int32} {x4 : Int32} {x5 : Int32}{n : Nat} {x3 : Int32} {x6 : Int32} {H : Hp} {q : (Int32 × Hp) ⊕ (Int32 × Hp)} (h : f_X3_fittingCoins_l67 x2 x4 x5 n x3 x6 H = some q) (c k : Nat) (hc : c ≠ 39 ∧ c ≠ 40 ∧ c ≠ 41 ∧ c ≠ 43 ∧ c ≠ 44 ∧ c ≠ 45 ∧ c ≠ 46 ∧ c ≠ 47 ∧ c ≠ 48 ∧ ¬ (c = 38 ∧ k = 13) ∧ ¬ (c = 38 ∧ k = 14)) : (∀ t, q = .inl t → t.2 c k = H c k) ∧ (∀ r, q = .inr r → r.2 c k = H c k) := fr_X3_fittingCoins_l67_i c k hc n x3 x6 H q h
theorem fr_X3_fittingCoins {x1 : Int32} {x2 : Int32} {H : Hp} {q : Int32 × Hp} (h : f_X3_fittingCoins x1 x2 H = some q) (c k : Nat) (hc : c ≠ 39 ∧ c ≠ 40 ∧ c ≠ 41 ∧ c ≠ 42 ∧ c ≠ 43 ∧ c ≠ 44 ∧ c ≠ 45 ∧ c ≠ 46 ∧ c ≠ 47 ∧ c ≠ 48 ∧ ¬ (c = 38 ∧ k = 10) ∧ ¬ (c = 38 ∧ k = 11) ∧ ¬ (c = 38 ∧ k = 12) ∧ ¬ (c = 38 ∧ k = 13) ∧ ¬ (c = 38 ∧ k = 14)) : q.2 c k = H c k := by
  unfold f_X3_fittingCoins at h
  obtain ⟨v1, -, h⟩ := bnd h
  obtain ⟨v2, -, h⟩ := bnd h
  obtain ⟨v3, -, h⟩ := bnd h
  obtain ⟨H4, e_H4, h⟩ := bnd h
  have g_H4 := fr_X2_load e_H4 c k ⟨hc.1, hc.2.1, hc.2.2.1, hc.2.2.2.1, hc.2.2.2.2.1, hc.2.2.2.2.2.1, hc.2.2.2.2.2.2.1, hc.2.2.2.2.2.2.2.1, hc.2.2.2.2.2.2.2.2.2.2.1, hc.2.2.2.2.2.2.2.2.2.2.2.1, hc.2.2.2.2.2.2.2.2.2.2.2.2.1⟩
  obtain ⟨v5, -, h⟩ := bnd h
  obtain ⟨H6, e_H6, h⟩ := bnd h
  have g_H6 := fr_X2_add e_H6 c k ⟨hc.1, hc.2.1, hc.2.2.1, hc.2.2.2.2.1, hc.2.2.2.2.2.1, hc.2.2.2.2.2.2.1, hc.2.2.2.2.2.2.2.1⟩
  obtain ⟨l13, e_l13, h⟩ := bnd h
  have g_l13 := fr_X3_fittingCoins_l67 e_l13 c k ⟨hc.1, hc.2.1, hc.2.2.1, hc.2.2.2.2.1, hc.2.2.2.2.2.1, hc.2.2.2.2.2.2.1, hc.2.2.2.2.2.2.2.1, hc.2.2.2.2.2.2.2.2.1, hc.2.2.2.2.2.2.2.2.2.1, hc.2.2.2.2.2.2.2.2.2.2.2.2.2.1, hc.2.2.2.2.2.2.2.2.2.2.2.2.2.2⟩
  cases l13 with
  | inl t14 =>
    rw [Sum.elim_inl] at h
    obtain rfl := Option.some.inj h; exact ((g_l13.1 _ rfl).trans (g_H6.trans g_H4))
  | inr r =>
    rw [Sum.elim_inr] at h
    obtain rfl := Option.some.inj h; exact ((g_l13.2 _ rfl).trans (g_H6.trans g_H4))
theorem fr_X7_who {x1 : Int32} {x2 : Int32} {x3 : Int32} {x4 : Int32} {H : Hp} {q : Int32 × Hp} (h : f_X7_who x1 x2 x3 x4 H = some q) (c k : Nat) (hc : c ≠ 39 ∧ c ≠ 40 ∧ c ≠ 41 ∧ c ≠ 42 ∧ c ≠ 43 ∧ c ≠ 44 ∧ c ≠ 45 ∧ c ≠ 46 ∧ c ≠ 47 ∧ c ≠ 48 ∧ c ≠ 57 ∧ ¬ (c = 0 ∧ k = 10) ∧ ¬ (c = 38 ∧ k = 10) ∧ ¬ (c = 38 ∧ k = 11) ∧ ¬ (c = 38 ∧ k = 12) ∧ ¬ (c = 38 ∧ k = 13) ∧ ¬ (c = 38 ∧ k = 14)) : q.2 c k = H c k := by
  unfold f_X7_who at h
  by_cases c58 : (H 7 0) = 0
  · replace h := (if_pos c58).symm.trans h
    obtain rfl := Option.some.inj h; exact rfl
  · replace h := (if_neg c58).symm.trans h
    obtain ⟨v1, -, h⟩ := bnd h
    by_cases c59 : v1 = 0
    · replace h := (if_pos c59).symm.trans h
      obtain rfl := Option.some.inj h; exact rfl
    · replace h := (if_neg c59).symm.trans h
      obtain ⟨v2, -, h⟩ := bnd h
      by_cases c60 : v2 = 0
      · replace h := (if_pos c60).symm.trans h
        obtain rfl := Option.some.inj h; exact rfl
      · replace h := (if_neg c60).symm.trans h
        by_cases c61 : x2 = 2
        · replace h := (if_pos c61).symm.trans h
          obtain ⟨v3, -, h⟩ := bnd h
          by_cases c62 : v3 = 0
          · replace h := (if_pos c62).symm.trans h
            obtain rfl := Option.some.inj h; exact rfl
          · replace h := (if_neg c62).symm.trans h
            by_cases c63 : x2 ≤ 2
            · replace h := (if_pos c63).symm.trans h
              obtain ⟨v4, -, h⟩ := bnd h
              by_cases c64 : v4 = 0
              · replace h := (if_pos c64).symm.trans h
                obtain ⟨v5, -, h⟩ := bnd h
                by_cases c65 : v5 = 0
                · replace h := (if_pos c65).symm.trans h
                  obtain ⟨q6, e_q6, h⟩ := bnd h
                  have g_q6 := fr_X7_found e_q6 c k hc.2.2.2.2.2.2.2.2.2.2.2.1
                  obtain rfl := Option.some.inj h; exact g_q6
                · replace h := (if_neg c65).symm.trans h
                  obtain ⟨H7, e_H7, h⟩ := bnd h
                  have g_H7 := fr_X3_expect e_H7 c k hc.2.2.2.2.2.2.2.2.2.2.1
                  by_cases s66 : x2 = 0
                  · replace h := (if_pos s66).symm.trans h
                    obtain ⟨q8, e_q8, h⟩ := bnd h
                    have g_q8 := fr_X3_fittingPots e_q8 c k ⟨hc.1, hc.2.1, hc.2.2.1, hc.2.2.2.1, hc.2.2.2.2.1, hc.2.2.2.2.2.1, hc.2.2.2.2.2.2.1, hc.2.2.2.2.2.2.2.1, hc.2.2.2.2.2.2.2.2.1, hc.2.2.2.2.2.2.2.2.2.1, hc.2.2.2.2.2.2.2.2.2.2.2.2.1, hc.2.2.2.2.2.2.2.2.2.2.2.2.2.1, hc.2.2.2.2.2.2.2.2.2.2.2.2.2.2.1, hc.2.2.2.2.2.2.2.2.2.2.2.2.2.2.2.1, hc.2.2.2.2.2.2.2.2.2.2.2.2.2.2.2.2⟩
                    obtain ⟨q9, e_q9, h⟩ := bnd h
                    have g_q9 := fr_X7_unmarred e_q9 c k hc.2.2.2.2.2.2.2.2.2.2.2.1
                    obtain rfl := Option.some.inj h; exact (g_q9.trans (g_q8.trans g_H7))
                  · replace h := (if_neg s66).symm.trans h
                    by_cases s67 : x2 = 1
                    · replace h := (if_pos s67).symm.trans h
                      obtain ⟨q10, e_q10, h⟩ := bnd h
                      have g_q10 := fr_X3_fittingPots e_q10 c k ⟨hc.1, hc.2.1, hc.2.2.1, hc.2.2.2.1, hc.2.2.2.2.1, hc.2.2.2.2.2.1, hc.2.2.2.2.2.2.1, hc.2.2.2.2.2.2.2.1, hc.2.2.2.2.2.2.2.2.1, hc.2.2.2.2.2.2.2.2.2.1, hc.2.2.2.2.2.2.2.2.2.2.2.2.1, hc.2.2.2.2.2.2.2.2.2.2.2.2.2.1, hc.2.2.2.2.2.2.2.2.2.2.2.2.2.2.1, hc.2.2.2.2.2.2.2.2.2.2.2.2.2.2.2.1, hc.2.2.2.2.2.2.2.2.2.2.2.2.2.2.2.2⟩
                      obtain ⟨q11, e_q11, h⟩ := bnd h
                      have g_q11 := fr_X7_unmarred e_q11 c k hc.2.2.2.2.2.2.2.2.2.2.2.1
                      obtain rfl := Option.some.inj h; exact (g_q11.trans (g_q10.trans g_H7))
                    · replace h := (if_neg s67).symm.trans h
                      by_cases s68 : x2 = 2
                      · replace h := (if_pos s68).symm.trans h
                        obtain ⟨q12, e_q12, h⟩ := bnd h
                        have g_q12 := fr_X3_fittingKinds e_q12 c k ⟨hc.1, hc.2.1, hc.2.2.1, hc.2.2.2.1, hc.2.2.2.2.1, hc.2.2.2.2.2.1, hc.2.2.2.2.2.2.1, hc.2.2.2.2.2.2.2.1, hc.2.2.2.2.2.2.2.2.1, hc.2.2.2.2.2.2.2.2.2.1, hc.2.2.2.2.2.2.2.2.2.2.2.2.1, hc.2.2.2.2.2.2.2.2.2.2.2.2.2.1, hc.2.2.2.2.2.2.2.2.2.2.2.2.2.2.1, hc.2.2.2.2.2.2.2.2.2.2.2.2.2.2.2.1, hc.2.2.2.2.2.2.2.2.2.2.2.2.2.2.2.2⟩
                        obtain ⟨q13, e_q13, h⟩ := bnd h
                        have g_q13 := fr_X7_unmarred e_q13 c k hc.2.2.2.2.2.2.2.2.2.2.2.1
                        obtain rfl := Option.some.inj h; exact (g_q13.trans (g_q12.trans g_H7))
                      · replace h := (if_neg s68).symm.trans h
                        obtain ⟨q14, e_q14, h⟩ := bnd h
                        have g_q14 := fr_X3_fittingCoins e_q14 c k ⟨hc.1, hc.2.1, hc.2.2.1, hc.2.2.2.1, hc.2.2.2.2.1, hc.2.2.2.2.2.1, hc.2.2.2.2.2.2.1, hc.2.2.2.2.2.2.2.1, hc.2.2.2.2.2.2.2.2.1, hc.2.2.2.2.2.2.2.2.2.1, hc.2.2.2.2.2.2.2.2.2.2.2.2.1, hc.2.2.2.2.2.2.2.2.2.2.2.2.2.1, hc.2.2.2.2.2.2.2.2.2.2.2.2.2.2.1, hc.2.2.2.2.2.2.2.2.2.2.2.2.2.2.2.1, hc.2.2.2.2.2.2.2.2.2.2.2.2.2.2.2.2⟩
                        obtain ⟨q15, e_q15, h⟩ := bnd h
                        have g_q15 := fr_X7_unmarred e_q15 c k hc.2.2.2.2.2.2.2.2.2.2.2.1
                        obtain rfl := Option.some.inj h; exact (g_q15.trans (g_q14.trans g_H7))
              · replace h := (if_neg c64).symm.trans h
                obtain ⟨q16, e_q16, h⟩ := bnd h
                have g_q16 := fr_X7_found e_q16 c k hc.2.2.2.2.2.2.2.2.2.2.2.1
                obtain rfl := Option.some.inj h; exact g_q16
            · replace h := (if_neg c63).symm.trans h
              obtain ⟨v17, -, h⟩ := bnd h
              by_cases c69 : v17 = 0
              · replace h := (if_pos c69).symm.trans h
                obtain rfl := Option.some.inj h; exact rfl
              · replace h := (if_neg c69).symm.trans h
                obtain ⟨v18, -, h⟩ := bnd h
                by_cases c70 : v18 = 0
                · replace h := (if_pos c70).symm.trans h
                  obtain ⟨v19, -, h⟩ := bnd h
                  by_cases c71 : v19 = 0
                  · replace h := (if_pos c71).symm.trans h
                    obtain ⟨q20, e_q20, h⟩ := bnd h
                    have g_q20 := fr_X7_found e_q20 c k hc.2.2.2.2.2.2.2.2.2.2.2.1
                    obtain rfl := Option.some.inj h; exact g_q20
                  · replace h := (if_neg c71).symm.trans h
                    obtain ⟨H21, e_H21, h⟩ := bnd h
                    have g_H21 := fr_X3_expect e_H21 c k hc.2.2.2.2.2.2.2.2.2.2.1
                    by_cases s72 : x2 = 0
                    · replace h := (if_pos s72).symm.trans h
                      obtain ⟨q22, e_q22, h⟩ := bnd h
                      have g_q22 := fr_X3_fittingPots e_q22 c k ⟨hc.1, hc.2.1, hc.2.2.1, hc.2.2.2.1, hc.2.2.2.2.1, hc.2.2.2.2.2.1, hc.2.2.2.2.2.2.1, hc.2.2.2.2.2.2.2.1, hc.2.2.2.2.2.2.2.2.1, hc.2.2.2.2.2.2.2.2.2.1, hc.2.2.2.2.2.2.2.2.2.2.2.2.1, hc.2.2.2.2.2.2.2.2.2.2.2.2.2.1, hc.2.2.2.2.2.2.2.2.2.2.2.2.2.2.1, hc.2.2.2.2.2.2.2.2.2.2.2.2.2.2.2.1, hc.2.2.2.2.2.2.2.2.2.2.2.2.2.2.2.2⟩
                      obtain ⟨q23, e_q23, h⟩ := bnd h
                      have g_q23 := fr_X7_unmarred e_q23 c k hc.2.2.2.2.2.2.2.2.2.2.2.1
                      obtain rfl := Option.some.inj h; exact (g_q23.trans (g_q22.trans g_H21))
                    · replace h := (if_neg s72).symm.trans h
                      by_cases s73 : x2 = 1
                      · replace h := (if_pos s73).symm.trans h
                        obtain ⟨q24, e_q24, h⟩ := bnd h
                        have g_q24 := fr_X3_fittingPots e_q24 c k ⟨hc.1, hc.2.1, hc.2.2.1, hc.2.2.2.1, hc.2.2.2.2.1, hc.2.2.2.2.2.1, hc.2.2.2.2.2.2.1, hc.2.2.2.2.2.2.2.1, hc.2.2.2.2.2.2.2.2.1, hc.2.2.2.2.2.2.2.2.2.1, hc.2.2.2.2.2.2.2.2.2.2.2.2.1, hc.2.2.2.2.2.2.2.2.2.2.2.2.2.1, hc.2.2.2.2.2.2.2.2.2.2.2.2.2.2.1, hc.2.2.2.2.2.2.2.2.2.2.2.2.2.2.2.1, hc.2.2.2.2.2.2.2.2.2.2.2.2.2.2.2.2⟩
                        obtain ⟨q25, e_q25, h⟩ := bnd h
                        have g_q25 := fr_X7_unmarred e_q25 c k hc.2.2.2.2.2.2.2.2.2.2.2.1
                        obtain rfl := Option.some.inj h; exact (g_q25.trans (g_q24.trans g_H21))
                      · replace h := (if_neg s73).symm.trans h
                        by_cases s74 : x2 = 2
                        · replace h := (if_pos s74).symm.trans h
                          obtain ⟨q26, e_q26, h⟩ := bnd h
                          have g_q26 := fr_X3_fittingKinds e_q26 c k ⟨hc.1, hc.2.1, hc.2.2.1, hc.2.2.2.1, hc.2.2.2.2.1, hc.2.2.2.2.2.1, hc.2.2.2.2.2.2.1, hc.2.2.2.2.2.2.2.1, hc.2.2.2.2.2.2.2.2.1, hc.2.2.2.2.2.2.2.2.2.1, hc.2.2.2.2.2.2.2.2.2.2.2.2.1, hc.2.2.2.2.2.2.2.2.2.2.2.2.2.1, hc.2.2.2.2.2.2.2.2.2.2.2.2.2.2.1, hc.2.2.2.2.2.2.2.2.2.2.2.2.2.2.2.1, hc.2.2.2.2.2.2.2.2.2.2.2.2.2.2.2.2⟩
                          obtain ⟨q27, e_q27, h⟩ := bnd h
                          have g_q27 := fr_X7_unmarred e_q27 c k hc.2.2.2.2.2.2.2.2.2.2.2.1
                          obtain rfl := Option.some.inj h; exact (g_q27.trans (g_q26.trans g_H21))
                        · replace h := (if_neg s74).symm.trans h
                          obtain ⟨q28, e_q28, h⟩ := bnd h
                          have g_q28 := fr_X3_fittingCoins e_q28 c k ⟨hc.1, hc.2.1, hc.2.2.1, hc.2.2.2.1, hc.2.2.2.2.1, hc.2.2.2.2.2.1, hc.2.2.2.2.2.2.1, hc.2.2.2.2.2.2.2.1, hc.2.2.2.2.2.2.2.2.1, hc.2.2.2.2.2.2.2.2.2.1, hc.2.2.2.2.2.2.2.2.2.2.2.2.1, hc.2.2.2.2.2.2.2.2.2.2.2.2.2.1, hc.2.2.2.2.2.2.2.2.2.2.2.2.2.2.1, hc.2.2.2.2.2.2.2.2.2.2.2.2.2.2.2.1, hc.2.2.2.2.2.2.2.2.2.2.2.2.2.2.2.2⟩
                          obtain ⟨q29, e_q29, h⟩ := bnd h
                          have g_q29 := fr_X7_unmarred e_q29 c k hc.2.2.2.2.2.2.2.2.2.2.2.1
                          obtain rfl := Option.some.inj h; exact (g_q29.trans (g_q28.trans g_H21))
                · replace h := (if_neg c70).symm.trans h
                  obtain ⟨q30, e_q30, h⟩ := bnd h
                  have g_q30 := fr_X7_found e_q30 c k hc.2.2.2.2.2.2.2.2.2.2.2.1
                  obtain rfl := Option.some.inj h; exact g_q30
        · replace h := (if_neg c61).symm.trans h
          by_cases c75 : x2 ≤ 2
          · replace h := (if_pos c75).symm.trans h
            obtain ⟨v31, -, h⟩ := bnd h
            by_cases c76 : v31 = 0
            · replace h := (if_pos c76).symm.trans h
              obtain ⟨v32, -, h⟩ := bnd h
              by_cases c77 : v32 = 0
              · replace h := (if_pos c77).symm.trans h
                obtain ⟨q33, e_q33, h⟩ := bnd h
                have g_q33 := fr_X7_found e_q33 c k hc.2.2.2.2.2.2.2.2.2.2.2.1
                obtain rfl := Option.some.inj h; exact g_q33
              · replace h := (if_neg c77).symm.trans h
                obtain ⟨H34, e_H34, h⟩ := bnd h
                have g_H34 := fr_X3_expect e_H34 c k hc.2.2.2.2.2.2.2.2.2.2.1
                by_cases s78 : x2 = 0
                · replace h := (if_pos s78).symm.trans h
                  obtain ⟨q35, e_q35, h⟩ := bnd h
                  have g_q35 := fr_X3_fittingPots e_q35 c k ⟨hc.1, hc.2.1, hc.2.2.1, hc.2.2.2.1, hc.2.2.2.2.1, hc.2.2.2.2.2.1, hc.2.2.2.2.2.2.1, hc.2.2.2.2.2.2.2.1, hc.2.2.2.2.2.2.2.2.1, hc.2.2.2.2.2.2.2.2.2.1, hc.2.2.2.2.2.2.2.2.2.2.2.2.1, hc.2.2.2.2.2.2.2.2.2.2.2.2.2.1, hc.2.2.2.2.2.2.2.2.2.2.2.2.2.2.1, hc.2.2.2.2.2.2.2.2.2.2.2.2.2.2.2.1, hc.2.2.2.2.2.2.2.2.2.2.2.2.2.2.2.2⟩
                  obtain ⟨q36, e_q36, h⟩ := bnd h
                  have g_q36 := fr_X7_unmarred e_q36 c k hc.2.2.2.2.2.2.2.2.2.2.2.1
                  obtain rfl := Option.some.inj h; exact (g_q36.trans (g_q35.trans g_H34))
                · replace h := (if_neg s78).symm.trans h
                  by_cases s79 : x2 = 1
                  · replace h := (if_pos s79).symm.trans h
                    obtain ⟨q37, e_q37, h⟩ := bnd h
                    have g_q37 := fr_X3_fittingPots e_q37 c k ⟨hc.1, hc.2.1, hc.2.2.1, hc.2.2.2.1, hc.2.2.2.2.1, hc.2.2.2.2.2.1, hc.2.2.2.2.2.2.1, hc.2.2.2.2.2.2.2.1, hc.2.2.2.2.2.2.2.2.1, hc.2.2.2.2.2.2.2.2.2.1, hc.2.2.2.2.2.2.2.2.2.2.2.2.1, hc.2.2.2.2.2.2.2.2.2.2.2.2.2.1, hc.2.2.2.2.2.2.2.2.2.2.2.2.2.2.1, hc.2.2.2.2.2.2.2.2.2.2.2.2.2.2.2.1, hc.2.2.2.2.2.2.2.2.2.2.2.2.2.2.2.2⟩
                    obtain ⟨q38, e_q38, h⟩ := bnd h
                    have g_q38 := fr_X7_unmarred e_q38 c k hc.2.2.2.2.2.2.2.2.2.2.2.1
                    obtain rfl := Option.some.inj h; exact (g_q38.trans (g_q37.trans g_H34))
                  · replace h := (if_neg s79).symm.trans h
                    by_cases s80 : x2 = 2
                    · replace h := (if_pos s80).symm.trans h
                      obtain ⟨q39, e_q39, h⟩ := bnd h
                      have g_q39 := fr_X3_fittingKinds e_q39 c k ⟨hc.1, hc.2.1, hc.2.2.1, hc.2.2.2.1, hc.2.2.2.2.1, hc.2.2.2.2.2.1, hc.2.2.2.2.2.2.1, hc.2.2.2.2.2.2.2.1, hc.2.2.2.2.2.2.2.2.1, hc.2.2.2.2.2.2.2.2.2.1, hc.2.2.2.2.2.2.2.2.2.2.2.2.1, hc.2.2.2.2.2.2.2.2.2.2.2.2.2.1, hc.2.2.2.2.2.2.2.2.2.2.2.2.2.2.1, hc.2.2.2.2.2.2.2.2.2.2.2.2.2.2.2.1, hc.2.2.2.2.2.2.2.2.2.2.2.2.2.2.2.2⟩
                      obtain ⟨q40, e_q40, h⟩ := bnd h
                      have g_q40 := fr_X7_unmarred e_q40 c k hc.2.2.2.2.2.2.2.2.2.2.2.1
                      obtain rfl := Option.some.inj h; exact (g_q40.trans (g_q39.trans g_H34))
                    · replace h := (if_neg s80).symm.trans h
                      obtain ⟨q41, e_q41, h⟩ := bnd h
                      have g_q41 := fr_X3_fittingCoins e_q41 c k ⟨hc.1, hc.2.1, hc.2.2.1, hc.2.2.2.1, hc.2.2.2.2.1, hc.2.2.2.2.2.1, hc.2.2.2.2.2.2.1, hc.2.2.2.2.2.2.2.1, hc.2.2.2.2.2.2.2.2.1, hc.2.2.2.2.2.2.2.2.2.1, hc.2.2.2.2.2.2.2.2.2.2.2.2.1, hc.2.2.2.2.2.2.2.2.2.2.2.2.2.1, hc.2.2.2.2.2.2.2.2.2.2.2.2.2.2.1, hc.2.2.2.2.2.2.2.2.2.2.2.2.2.2.2.1, hc.2.2.2.2.2.2.2.2.2.2.2.2.2.2.2.2⟩
                      obtain ⟨q42, e_q42, h⟩ := bnd h
                      have g_q42 := fr_X7_unmarred e_q42 c k hc.2.2.2.2.2.2.2.2.2.2.2.1
                      obtain rfl := Option.some.inj h; exact (g_q42.trans (g_q41.trans g_H34))
            · replace h := (if_neg c76).symm.trans h
              obtain ⟨q43, e_q43, h⟩ := bnd h
              have g_q43 := fr_X7_found e_q43 c k hc.2.2.2.2.2.2.2.2.2.2.2.1
              obtain rfl := Option.some.inj h; exact g_q43
          · replace h := (if_neg c75).symm.trans h
            obtain ⟨v44, -, h⟩ := bnd h
            by_cases c81 : v44 = 0
            · replace h := (if_pos c81).symm.trans h
              obtain rfl := Option.some.inj h; exact rfl
            · replace h := (if_neg c81).symm.trans h
              obtain ⟨v45, -, h⟩ := bnd h
              by_cases c82 : v45 = 0
              · replace h := (if_pos c82).symm.trans h
                obtain ⟨v46, -, h⟩ := bnd h
                by_cases c83 : v46 = 0
                · replace h := (if_pos c83).symm.trans h
                  obtain ⟨q47, e_q47, h⟩ := bnd h
                  have g_q47 := fr_X7_found e_q47 c k hc.2.2.2.2.2.2.2.2.2.2.2.1
                  obtain rfl := Option.some.inj h; exact g_q47
                · replace h := (if_neg c83).symm.trans h
                  obtain ⟨H48, e_H48, h⟩ := bnd h
                  have g_H48 := fr_X3_expect e_H48 c k hc.2.2.2.2.2.2.2.2.2.2.1
                  by_cases s84 : x2 = 0
                  · replace h := (if_pos s84).symm.trans h
                    obtain ⟨q49, e_q49, h⟩ := bnd h
                    have g_q49 := fr_X3_fittingPots e_q49 c k ⟨hc.1, hc.2.1, hc.2.2.1, hc.2.2.2.1, hc.2.2.2.2.1, hc.2.2.2.2.2.1, hc.2.2.2.2.2.2.1, hc.2.2.2.2.2.2.2.1, hc.2.2.2.2.2.2.2.2.1, hc.2.2.2.2.2.2.2.2.2.1, hc.2.2.2.2.2.2.2.2.2.2.2.2.1, hc.2.2.2.2.2.2.2.2.2.2.2.2.2.1, hc.2.2.2.2.2.2.2.2.2.2.2.2.2.2.1, hc.2.2.2.2.2.2.2.2.2.2.2.2.2.2.2.1, hc.2.2.2.2.2.2.2.2.2.2.2.2.2.2.2.2⟩
                    obtain ⟨q50, e_q50, h⟩ := bnd h
                    have g_q50 := fr_X7_unmarred e_q50 c k hc.2.2.2.2.2.2.2.2.2.2.2.1
                    obtain rfl := Option.some.inj h; exact (g_q50.trans (g_q49.trans g_H48))
                  · replace h := (if_neg s84).symm.trans h
                    by_cases s85 : x2 = 1
                    · replace h := (if_pos s85).symm.trans h
                      obtain ⟨q51, e_q51, h⟩ := bnd h
                      have g_q51 := fr_X3_fittingPots e_q51 c k ⟨hc.1, hc.2.1, hc.2.2.1, hc.2.2.2.1, hc.2.2.2.2.1, hc.2.2.2.2.2.1, hc.2.2.2.2.2.2.1, hc.2.2.2.2.2.2.2.1, hc.2.2.2.2.2.2.2.2.1, hc.2.2.2.2.2.2.2.2.2.1, hc.2.2.2.2.2.2.2.2.2.2.2.2.1, hc.2.2.2.2.2.2.2.2.2.2.2.2.2.1, hc.2.2.2.2.2.2.2.2.2.2.2.2.2.2.1, hc.2.2.2.2.2.2.2.2.2.2.2.2.2.2.2.1, hc.2.2.2.2.2.2.2.2.2.2.2.2.2.2.2.2⟩
                      obtain ⟨q52, e_q52, h⟩ := bnd h
                      have g_q52 := fr_X7_unmarred e_q52 c k hc.2.2.2.2.2.2.2.2.2.2.2.1
                      obtain rfl := Option.some.inj h; exact (g_q52.trans (g_q51.trans g_H48))
                    · replace h := (if_neg s85).symm.trans h
                      by_cases s86 : x2 = 2
                      · replace h := (if_pos s86).symm.trans h
                        obtain ⟨q53, e_q53, h⟩ := bnd h
                        have g_q53 := fr_X3_fittingKinds e_q53 c k ⟨hc.1, hc.2.1, hc.2.2.1, hc.2.2.2.1, hc.2.2.2.2.1, hc.2.2.2.2.2.1, hc.2.2.2.2.2.2.1, hc.2.2.2.2.2.2.2.1, hc.2.2.2.2.2.2.2.2.1, hc.2.2.2.2.2.2.2.2.2.1, hc.2.2.2.2.2.2.2.2.2.2.2.2.1, hc.2.2.2.2.2.2.2.2.2.2.2.2.2.1, hc.2.2.2.2.2.2.2.2.2.2.2.2.2.2.1, hc.2.2.2.2.2.2.2.2.2.2.2.2.2.2.2.1, hc.2.2.2.2.2.2.2.2.2.2.2.2.2.2.2.2⟩
                        obtain ⟨q54, e_q54, h⟩ := bnd h
                        have g_q54 := fr_X7_unmarred e_q54 c k hc.2.2.2.2.2.2.2.2.2.2.2.1
                        obtain rfl := Option.some.inj h; exact (g_q54.trans (g_q53.trans g_H48))
                      · replace h := (if_neg s86).symm.trans h
                        obtain ⟨q55, e_q55, h⟩ := bnd h
                        have g_q55 := fr_X3_fittingCoins e_q55 c k ⟨hc.1, hc.2.1, hc.2.2.1, hc.2.2.2.1, hc.2.2.2.2.1, hc.2.2.2.2.2.1, hc.2.2.2.2.2.2.1, hc.2.2.2.2.2.2.2.1, hc.2.2.2.2.2.2.2.2.1, hc.2.2.2.2.2.2.2.2.2.1, hc.2.2.2.2.2.2.2.2.2.2.2.2.1, hc.2.2.2.2.2.2.2.2.2.2.2.2.2.1, hc.2.2.2.2.2.2.2.2.2.2.2.2.2.2.1, hc.2.2.2.2.2.2.2.2.2.2.2.2.2.2.2.1, hc.2.2.2.2.2.2.2.2.2.2.2.2.2.2.2.2⟩
                        obtain ⟨q56, e_q56, h⟩ := bnd h
                        have g_q56 := fr_X7_unmarred e_q56 c k hc.2.2.2.2.2.2.2.2.2.2.2.1
                        obtain rfl := Option.some.inj h; exact (g_q56.trans (g_q55.trans g_H48))
              · replace h := (if_neg c82).symm.trans h
                obtain ⟨q57, e_q57, h⟩ := bnd h
                have g_q57 := fr_X7_found e_q57 c k hc.2.2.2.2.2.2.2.2.2.2.2.1
                obtain rfl := Option.some.inj h; exact g_q57
theorem fr_X3_casesPaid_i (c k : Nat) (hc : c ≠ 41 ∧ c ≠ 43 ∧ c ≠ 44 ∧ c ≠ 45 ∧ c ≠ 46 ∧ c ≠ 47 ∧ c ≠ 48 ∧ ¬ (c = 38 ∧ k = 13) ∧ ¬ (c = 38 ∧ k = 14)) : ∀ (n : Nat) (x1 : Int32) (x2 : Int32) (x3 : Int32) (x4 : Int32) (H : Hp) (q : Int64 × Hp), f_X3_casesPaid n x1 x2 x3 x4 H = some q → q.2 c k = H c k := by
  intro n
  induction n with
  | zero => intro x1 x2 x3 x4 H q h; simp [f_X3_casesPaid] at h
  | succ n ih =>
    intro x1 x2 x3 x4 H q h
    rw [f_X3_casesPaid] at h
    by_cases c11 : x1 < 10
    · replace h := (if_pos c11).symm.trans h
      obtain ⟨v1, -, h⟩ := bnd h
      by_cases c12 : v1 = 0
      · replace h := (if_pos c12).symm.trans h
        obtain ⟨q2, e_q2, h⟩ := bnd h
        have g_q2 := ih (x1 + 1) x2 x3 x4 H _ e_q2
        obtain rfl := Option.some.inj h; exact g_q2
      · replace h := (if_neg c12).symm.trans h
        obtain ⟨j4, e_j4, h⟩ := bnd h
        have g_j4 : j4.2 c k = H c k := by
          by_cases c13 : 10 ≤ x4
          · replace e_j4 := (if_pos c13).symm.trans e_j4
            obtain rfl := Option.some.inj e_j4
            rfl
          · replace e_j4 := (if_neg c13).symm.trans e_j4
            obtain ⟨q3, e_q3, e_j4⟩ := bnd e_j4
            have g_q3 := ih (x1 + 1) x2 x3 x4 H _ e_q3
            obtain rfl := Option.some.inj e_j4
            exact g_q3
        obtain ⟨j8, e_j8, h⟩ := bnd h
        have g_j8 : j8.2 c k = H c k := by
          by_cases c14 : x4 ≤ 0
          · replace e_j8 := (if_pos c14).symm.trans e_j8
            obtain rfl := Option.some.inj e_j8
            exact g_j4
          · replace e_j8 := (if_neg c14).symm.trans e_j8
            obtain ⟨H5, e_H5, e_j8⟩ := bnd e_j8
            have g_H5 := fr_X2_leave e_H5 c k ⟨hc.1, hc.2.1, hc.2.2.1, hc.2.2.2.1, hc.2.2.2.2.1⟩
            obtain ⟨q6, e_q6, e_j8⟩ := bnd e_j8
            have g_q6 := ih (x1 + 1) x2 x3 x4 H5 _ e_q6
            obtain ⟨H7, e_H7, e_j8⟩ := bnd e_j8
            have g_H7 := fr_X2_join e_H7 c k ⟨hc.1, hc.2.1, hc.2.2.1, hc.2.2.2.1, hc.2.2.2.2.1⟩
            obtain rfl := Option.some.inj e_j8
            exact (g_H7.trans (g_q6.trans (g_H5.trans g_j4)))
        obtain rfl := Option.some.inj h; exact g_j8
    · replace h := (if_neg c11).symm.trans h
      obtain ⟨H9, e_H9, h⟩ := bnd h
      have g_H9 := fr_X2_settle e_H9 c k ⟨hc.2.2.2.2.2.1, hc.2.2.2.2.2.2.1, hc.2.2.2.2.2.2.2.1, hc.2.2.2.2.2.2.2.2⟩
      obtain ⟨v10, -, h⟩ := bnd h
      obtain rfl := Option.some.inj h; exact g_H9
theorem fr_X3_casesPaid {n : Nat} {x1 : Int32} {x2 : Int32} {x3 : Int32} {x4 : Int32} {H : Hp} {q : Int64 × Hp} (h : f_X3_casesPaid n x1 x2 x3 x4 H = some q) (c k : Nat) (hc : c ≠ 41 ∧ c ≠ 43 ∧ c ≠ 44 ∧ c ≠ 45 ∧ c ≠ 46 ∧ c ≠ 47 ∧ c ≠ 48 ∧ ¬ (c = 38 ∧ k = 13) ∧ ¬ (c = 38 ∧ k = 14)) : q.2 c k = H c k := fr_X3_casesPaid_i c k hc n x1 x2 x3 x4 H q h
theorem fr_X3_chance {x1 : Int32} {x2 : Int32} {x3 : Int32} {x4 : Int32} {H : Hp} {q : Int64 × Hp} (h : f_X3_chance x1 x2 x3 x4 H = some q) (c k : Nat) (hc : c ≠ 39 ∧ c ≠ 40 ∧ c ≠ 41 ∧ c ≠ 42 ∧ c ≠ 43 ∧ c ≠ 44 ∧ c ≠ 45 ∧ c ≠ 46 ∧ c ≠ 47 ∧ c ≠ 48 ∧ ¬ (c = 38 ∧ k = 10) ∧ ¬ (c = 38 ∧ k = 11) ∧ ¬ (c = 38 ∧ k = 12) ∧ ¬ (c = 38 ∧ k = 13) ∧ ¬ (c = 38 ∧ k = 14)) : q.2 c k = H c k := by
  unfold f_X3_chance at h
  obtain ⟨H1, e_H1, h⟩ := bnd h
  have g_H1 := fr_X2_load e_H1 c k ⟨hc.1, hc.2.1, hc.2.2.1, hc.2.2.2.1, hc.2.2.2.2.1, hc.2.2.2.2.2.1, hc.2.2.2.2.2.2.1, hc.2.2.2.2.2.2.2.1, hc.2.2.2.2.2.2.2.2.2.2.1, hc.2.2.2.2.2.2.2.2.2.2.2.1, hc.2.2.2.2.2.2.2.2.2.2.2.2.1⟩
  obtain ⟨q2, e_q2, h⟩ := bnd h
  have g_q2 := fr_X3_casesPaid e_q2 c k ⟨hc.2.2.1, hc.2.2.2.2.1, hc.2.2.2.2.2.1, hc.2.2.2.2.2.2.1, hc.2.2.2.2.2.2.2.1, hc.2.2.2.2.2.2.2.2.1, hc.2.2.2.2.2.2.2.2.2.1, hc.2.2.2.2.2.2.2.2.2.2.2.2.2.1, hc.2.2.2.2.2.2.2.2.2.2.2.2.2.2⟩
  obtain ⟨l8, -, h⟩ := bnd h
  obtain ⟨v9, -, h⟩ := bnd h
  by_cases c10 : 0 < v9
  · replace h := (if_pos c10).symm.trans h
    have n11 : ¬ v9 = 0 := fun z => by rw [if_pos z] at h; cases h
    replace h := (if_neg n11).symm.trans h
    obtain rfl := Option.some.inj h; exact (g_q2.trans g_H1)
  · replace h := (if_neg c10).symm.trans h
    obtain rfl := Option.some.inj h; exact (g_q2.trans g_H1)
theorem fr_X7_likely {x1 : Int32} {x2 : Int32} {x3 : Int32} {x4 : Int32} {H : Hp} {q : Int64 × Hp} (h : f_X7_likely x1 x2 x3 x4 H = some q) (c k : Nat) (hc : c ≠ 39 ∧ c ≠ 40 ∧ c ≠ 41 ∧ c ≠ 42 ∧ c ≠ 43 ∧ c ≠ 44 ∧ c ≠ 45 ∧ c ≠ 46 ∧ c ≠ 47 ∧ c ≠ 48 ∧ ¬ (c = 38 ∧ k = 10) ∧ ¬ (c = 38 ∧ k = 11) ∧ ¬ (c = 38 ∧ k = 12) ∧ ¬ (c = 38 ∧ k = 13) ∧ ¬ (c = 38 ∧ k = 14)) : q.2 c k = H c k := by
  unfold f_X7_likely at h
  obtain ⟨v1, -, h⟩ := bnd h
  by_cases c6 : v1 = 0
  · replace h := (if_pos c6).symm.trans h
    obtain rfl := Option.some.inj h; exact rfl
  · replace h := (if_neg c6).symm.trans h
    obtain ⟨v2, -, h⟩ := bnd h
    by_cases c7 : v2 = 0
    · replace h := (if_pos c7).symm.trans h
      obtain rfl := Option.some.inj h; exact rfl
    · replace h := (if_neg c7).symm.trans h
      obtain ⟨v3, -, h⟩ := bnd h
      by_cases c8 : v3 = 0
      · replace h := (if_pos c8).symm.trans h
        obtain rfl := Option.some.inj h; exact rfl
      · replace h := (if_neg c8).symm.trans h
        obtain ⟨v4, -, h⟩ := bnd h
        by_cases c9 : v4 = 0
        · replace h := (if_pos c9).symm.trans h
          obtain rfl := Option.some.inj h; exact rfl
        · replace h := (if_neg c9).symm.trans h
          obtain ⟨q5, e_q5, h⟩ := bnd h
          have g_q5 := fr_X3_chance e_q5 c k ⟨hc.1, hc.2.1, hc.2.2.1, hc.2.2.2.1, hc.2.2.2.2.1, hc.2.2.2.2.2.1, hc.2.2.2.2.2.2.1, hc.2.2.2.2.2.2.2.1, hc.2.2.2.2.2.2.2.2.1, hc.2.2.2.2.2.2.2.2.2.1, hc.2.2.2.2.2.2.2.2.2.2.1, hc.2.2.2.2.2.2.2.2.2.2.2.1, hc.2.2.2.2.2.2.2.2.2.2.2.2.1, hc.2.2.2.2.2.2.2.2.2.2.2.2.2.1, hc.2.2.2.2.2.2.2.2.2.2.2.2.2.2⟩
          obtain rfl := Option.some.inj h; exact g_q5
theorem fr_X3_redraw {x1 : Int64} {H : Hp} {q : Hp} (h : f_X3_redraw x1 H = some q) (c k : Nat) (hc : c ≠ 39 ∧ c ≠ 40 ∧ c ≠ 41 ∧ c ≠ 43 ∧ c ≠ 44 ∧ c ≠ 45 ∧ c ≠ 46 ∧ c ≠ 53 ∧ c ≠ 54 ∧ c ≠ 55) : q c k = H c k := by
  unfold f_X3_redraw at h
  by_cases c14 : (H 50 4) ≤ 0
  · replace h := (if_pos c14).symm.trans h
    obtain rfl := Option.some.inj h; exact rfl
  · replace h := (if_neg c14).symm.trans h
    by_cases c15 : 0 < (H 50 3)
    · replace h := (if_pos c15).symm.trans h
      have n16 : ¬ (H 50 4).toInt64 = 0 := fun z => by rw [if_pos z] at h; cases h
      replace h := (if_neg n16).symm.trans h
      obtain ⟨v1, -, h⟩ := bnd h
      obtain ⟨v2, -, h⟩ := bnd h
      obtain ⟨v3, -, h⟩ := bnd h
      obtain ⟨v4, -, h⟩ := bnd h
      obtain ⟨H5, e_H5, h⟩ := bnd h
      have g_H5 := fr_X2_add e_H5 c k ⟨hc.1, hc.2.1, hc.2.2.1, hc.2.2.2.1, hc.2.2.2.2.1, hc.2.2.2.2.2.1, hc.2.2.2.2.2.2.1⟩
      obtain ⟨H6, e_H6, h⟩ := bnd h
      have g_H6 := as_fr (c := c) (k := k) e_H6 hc.2.2.2.2.2.2.2.1
      have n17 : ¬ (H6 50 3).toInt64 = 0 := fun z => by rw [if_pos z] at h; cases h
      replace h := (if_neg n17).symm.trans h
      obtain ⟨H7, e_H7, h⟩ := bnd h
      have g_H7 := as_fr (c := c) (k := k) e_H7 hc.2.2.2.2.2.2.2.2.1
      obtain ⟨H8, e_H8, h⟩ := bnd h
      have g_H8 := as_fr (c := c) (k := k) e_H8 hc.2.2.2.2.2.2.2.2.2
      obtain ⟨v9, -, h⟩ := bnd h
      obtain ⟨v10, -, h⟩ := bnd h
      obtain ⟨v11, -, h⟩ := bnd h
      obtain ⟨v12, -, h⟩ := bnd h
      obtain ⟨H13, e_H13, h⟩ := bnd h
      have g_H13 := fr_X2_add e_H13 c k ⟨hc.1, hc.2.1, hc.2.2.1, hc.2.2.2.1, hc.2.2.2.2.1, hc.2.2.2.2.2.1, hc.2.2.2.2.2.2.1⟩
      obtain rfl := Option.some.inj h; exact (g_H13.trans (g_H8.trans (g_H7.trans (g_H6.trans g_H5))))
    · replace h := (if_neg c15).symm.trans h
      obtain rfl := Option.some.inj h; exact rfl
theorem fr_X3_years_l39_i {x1 : Int32} (c k : Nat) (hc : c ≠ 39 ∧ c ≠ 40 ∧ c ≠ 41 ∧ c ≠ 43 ∧ c ≠ 44 ∧ c ≠ 45 ∧ c ≠ 46 ∧ c ≠ 47 ∧ c ≠ 48 ∧ c ≠ 53 ∧ c ≠ 54 ∧ c ≠ 55 ∧ ¬ (c = 38 ∧ k = 13) ∧ ¬ (c = 38 ∧ k = 14)) : ∀ (n : Nat) (x4 : Int32) (x5 : Int64) (x7 : Int32) (H : Hp) (q : Int32 × Hp), f_X3_years_l39 x1 n x4 x5 x7 H = some q → q.2 c k = H c k := by
  intro n
  induction n with
  | zero => intro x4 x5 x7 H q h; simp [f_X3_years_l39] at h
  | succ n ih =>
    intro x4 x5 x7 H q h
    rw [f_X3_years_l39] at h
    by_cases c9 : x1 ≤ x7
    · replace h := (if_pos c9).symm.trans h
      obtain rfl := Option.some.inj h
      rfl
    · replace h := (if_neg c9).symm.trans h
      obtain ⟨H4, e_H4, h⟩ := bnd h
      have g_H4 := fr_X3_redraw e_H4 c k ⟨hc.1, hc.2.1, hc.2.2.1, hc.2.2.2.1, hc.2.2.2.2.1, hc.2.2.2.2.2.1, hc.2.2.2.2.2.2.1, hc.2.2.2.2.2.2.2.2.2.1, hc.2.2.2.2.2.2.2.2.2.2.1, hc.2.2.2.2.2.2.2.2.2.2.2.1⟩
      obtain ⟨H5, e_H5, h⟩ := bnd h
      have g_H5 := fr_X2_settle e_H5 c k ⟨hc.2.2.2.2.2.2.2.1, hc.2.2.2.2.2.2.2.2.1, hc.2.2.2.2.2.2.2.2.2.2.2.2.1, hc.2.2.2.2.2.2.2.2.2.2.2.2.2⟩
      obtain ⟨v6, -, h⟩ := bnd h
      exact (ih (x4 + v6) ((x5 * 16807) - (x5 * 16807) / 2147483647 * 2147483647) (x7 + 1) H5 q h).trans (g_H5.trans g_H4)
theorem fr_X3_years_l39 {x1 : Int32}{n : Nat} {x4 : Int32} {x5 : Int64} {x7 : Int32} {H : Hp} {q : Int32 × Hp} (h : f_X3_years_l39 x1 n x4 x5 x7 H = some q) (c k : Nat) (hc : c ≠ 39 ∧ c ≠ 40 ∧ c ≠ 41 ∧ c ≠ 43 ∧ c ≠ 44 ∧ c ≠ 45 ∧ c ≠ 46 ∧ c ≠ 47 ∧ c ≠ 48 ∧ c ≠ 53 ∧ c ≠ 54 ∧ c ≠ 55 ∧ ¬ (c = 38 ∧ k = 13) ∧ ¬ (c = 38 ∧ k = 14)) : q.2 c k = H c k := fr_X3_years_l39_i c k hc n x4 x5 x7 H q h
theorem fr_X3_years {x1 : Int32} {x2 : Int32} {x3 : Int32} {H : Hp} {q : Int32 × Hp} (h : f_X3_years x1 x2 x3 H = some q) (c k : Nat) (hc : c ≠ 39 ∧ c ≠ 40 ∧ c ≠ 41 ∧ c ≠ 42 ∧ c ≠ 43 ∧ c ≠ 44 ∧ c ≠ 45 ∧ c ≠ 46 ∧ c ≠ 47 ∧ c ≠ 48 ∧ c ≠ 51 ∧ c ≠ 52 ∧ c ≠ 53 ∧ c ≠ 54 ∧ c ≠ 55 ∧ ¬ (c = 38 ∧ k = 10) ∧ ¬ (c = 38 ∧ k = 11) ∧ ¬ (c = 38 ∧ k = 12) ∧ ¬ (c = 38 ∧ k = 13) ∧ ¬ (c = 38 ∧ k = 14) ∧ ¬ (c = 50 ∧ k = 0) ∧ ¬ (c = 50 ∧ k = 1) ∧ ¬ (c = 50 ∧ k = 2) ∧ ¬ (c = 50 ∧ k = 3) ∧ ¬ (c = 50 ∧ k = 4)) : q.2 c k = H c k := by
  unfold f_X3_years at h
  obtain ⟨H1, e_H1, h⟩ := bnd h
  have g_H1 := fr_X4_becomeLike e_H1 c k ⟨hc.2.2.2.2.2.2.2.2.2.2.1, hc.2.2.2.2.2.2.2.2.2.2.2.1, hc.2.2.2.2.2.2.2.2.2.2.2.2.1, hc.2.2.2.2.2.2.2.2.2.2.2.2.2.1, hc.2.2.2.2.2.2.2.2.2.2.2.2.2.2.1, hc.2.2.2.2.2.2.2.2.2.2.2.2.2.2.2.2.2.2.2.2.1, hc.2.2.2.2.2.2.2.2.2.2.2.2.2.2.2.2.2.2.2.2.2.1, hc.2.2.2.2.2.2.2.2.2.2.2.2.2.2.2.2.2.2.2.2.2.2.1, hc.2.2.2.2.2.2.2.2.2.2.2.2.2.2.2.2.2.2.2.2.2.2.2.1, hc.2.2.2.2.2.2.2.2.2.2.2.2.2.2.2.2.2.2.2.2.2.2.2.2⟩
  obtain ⟨H2, e_H2, h⟩ := bnd h
  have g_H2 := fr_X2_load e_H2 c k ⟨hc.1, hc.2.1, hc.2.2.1, hc.2.2.2.1, hc.2.2.2.2.1, hc.2.2.2.2.2.1, hc.2.2.2.2.2.2.1, hc.2.2.2.2.2.2.2.1, hc.2.2.2.2.2.2.2.2.2.2.2.2.2.2.2.1, hc.2.2.2.2.2.2.2.2.2.2.2.2.2.2.2.2.1, hc.2.2.2.2.2.2.2.2.2.2.2.2.2.2.2.2.2.1⟩
  obtain ⟨H3, e_H3, h⟩ := bnd h
  have g_H3 := fr_X2_settle e_H3 c k ⟨hc.2.2.2.2.2.2.2.2.1, hc.2.2.2.2.2.2.2.2.2.1, hc.2.2.2.2.2.2.2.2.2.2.2.2.2.2.2.2.2.2.1, hc.2.2.2.2.2.2.2.2.2.2.2.2.2.2.2.2.2.2.2.1⟩
  obtain ⟨l8, e_l8, h⟩ := bnd h
  have g_l8 := fr_X3_years_l39 e_l8 c k ⟨hc.1, hc.2.1, hc.2.2.1, hc.2.2.2.2.1, hc.2.2.2.2.2.1, hc.2.2.2.2.2.2.1, hc.2.2.2.2.2.2.2.1, hc.2.2.2.2.2.2.2.2.1, hc.2.2.2.2.2.2.2.2.2.1, hc.2.2.2.2.2.2.2.2.2.2.2.2.1, hc.2.2.2.2.2.2.2.2.2.2.2.2.2.1, hc.2.2.2.2.2.2.2.2.2.2.2.2.2.2.1, hc.2.2.2.2.2.2.2.2.2.2.2.2.2.2.2.2.2.2.1, hc.2.2.2.2.2.2.2.2.2.2.2.2.2.2.2.2.2.2.2.1⟩
  obtain rfl := Option.some.inj h; exact (g_l8.trans (g_H3.trans (g_H2.trans g_H1)))
theorem fr_X7_drawn {x1 : Int32} {x2 : Int32} {x3 : Int32} {H : Hp} {q : Int32 × Hp} (h : f_X7_drawn x1 x2 x3 H = some q) (c k : Nat) (hc : c ≠ 39 ∧ c ≠ 40 ∧ c ≠ 41 ∧ c ≠ 42 ∧ c ≠ 43 ∧ c ≠ 44 ∧ c ≠ 45 ∧ c ≠ 46 ∧ c ≠ 47 ∧ c ≠ 48 ∧ c ≠ 51 ∧ c ≠ 52 ∧ c ≠ 53 ∧ c ≠ 54 ∧ c ≠ 55 ∧ ¬ (c = 38 ∧ k = 10) ∧ ¬ (c = 38 ∧ k = 11) ∧ ¬ (c = 38 ∧ k = 12) ∧ ¬ (c = 38 ∧ k = 13) ∧ ¬ (c = 38 ∧ k = 14) ∧ ¬ (c = 50 ∧ k = 0) ∧ ¬ (c = 50 ∧ k = 1) ∧ ¬ (c = 50 ∧ k = 2) ∧ ¬ (c = 50 ∧ k = 3) ∧ ¬ (c = 50 ∧ k = 4)) : q.2 c k = H c k := by
  unfold f_X7_drawn at h
  by_cases c5 : (H 7 0) = 0
  · replace h := (if_pos c5).symm.trans h
    obtain rfl := Option.some.inj h; exact rfl
  · replace h := (if_neg c5).symm.trans h
    obtain ⟨v1, -, h⟩ := bnd h
    by_cases c6 : v1 = 0
    · replace h := (if_pos c6).symm.trans h
      obtain rfl := Option.some.inj h; exact rfl
    · replace h := (if_neg c6).symm.trans h
      obtain ⟨v2, -, h⟩ := bnd h
      by_cases c7 : v2 = 0
      · replace h := (if_pos c7).symm.trans h
        obtain rfl := Option.some.inj h; exact rfl
      · replace h := (if_neg c7).symm.trans h
        obtain ⟨v3, -, h⟩ := bnd h
        by_cases c8 : v3 = 0
        · replace h := (if_pos c8).symm.trans h
          obtain rfl := Option.some.inj h; exact rfl
        · replace h := (if_neg c8).symm.trans h
          obtain ⟨q4, e_q4, h⟩ := bnd h
          have g_q4 := fr_X3_years e_q4 c k ⟨hc.1, hc.2.1, hc.2.2.1, hc.2.2.2.1, hc.2.2.2.2.1, hc.2.2.2.2.2.1, hc.2.2.2.2.2.2.1, hc.2.2.2.2.2.2.2.1, hc.2.2.2.2.2.2.2.2.1, hc.2.2.2.2.2.2.2.2.2.1, hc.2.2.2.2.2.2.2.2.2.2.1, hc.2.2.2.2.2.2.2.2.2.2.2.1, hc.2.2.2.2.2.2.2.2.2.2.2.2.1, hc.2.2.2.2.2.2.2.2.2.2.2.2.2.1, hc.2.2.2.2.2.2.2.2.2.2.2.2.2.2.1, hc.2.2.2.2.2.2.2.2.2.2.2.2.2.2.2.1, hc.2.2.2.2.2.2.2.2.2.2.2.2.2.2.2.2.1, hc.2.2.2.2.2.2.2.2.2.2.2.2.2.2.2.2.2.1, hc.2.2.2.2.2.2.2.2.2.2.2.2.2.2.2.2.2.2.1, hc.2.2.2.2.2.2.2.2.2.2.2.2.2.2.2.2.2.2.2.1, hc.2.2.2.2.2.2.2.2.2.2.2.2.2.2.2.2.2.2.2.2.1, hc.2.2.2.2.2.2.2.2.2.2.2.2.2.2.2.2.2.2.2.2.2.1, hc.2.2.2.2.2.2.2.2.2.2.2.2.2.2.2.2.2.2.2.2.2.2.1, hc.2.2.2.2.2.2.2.2.2.2.2.2.2.2.2.2.2.2.2.2.2.2.2.1, hc.2.2.2.2.2.2.2.2.2.2.2.2.2.2.2.2.2.2.2.2.2.2.2.2⟩
          obtain rfl := Option.some.inj h; exact g_q4
theorem fr_X7_image {x1 : Int32} {H : Hp} {q : Int32 × Hp} (h : f_X7_image x1 H = some q) (c k : Nat) (hc : c ≠ 21 ∧ c ≠ 22 ∧ c ≠ 23 ∧ c ≠ 24 ∧ c ≠ 25 ∧ c ≠ 27 ∧ c ≠ 28 ∧ c ≠ 29 ∧ c ≠ 30 ∧ c ≠ 31 ∧ ¬ (c = 20 ∧ k = 0) ∧ ¬ (c = 20 ∧ k = 1) ∧ ¬ (c = 20 ∧ k = 2) ∧ ¬ (c = 20 ∧ k = 3) ∧ ¬ (c = 20 ∧ k = 4) ∧ ¬ (c = 26 ∧ k = 0) ∧ ¬ (c = 26 ∧ k = 1) ∧ ¬ (c = 26 ∧ k = 2) ∧ ¬ (c = 26 ∧ k = 3) ∧ ¬ (c = 26 ∧ k = 4)) : q.2 c k = H c k := by
  unfold f_X7_image at h
  obtain ⟨v1, -, h⟩ := bnd h
  by_cases c4 : v1 = 0
  · replace h := (if_pos c4).symm.trans h
    obtain rfl := Option.some.inj h; exact rfl
  · replace h := (if_neg c4).symm.trans h
    by_cases c5 : (H 7 0) = 0
    · replace h := (if_pos c5).symm.trans h
      obtain rfl := Option.some.inj h; exact rfl
    · replace h := (if_neg c5).symm.trans h
      by_cases s6 : x1 = 0
      · replace h := (if_pos s6).symm.trans h
        obtain ⟨H2, e_H2, h⟩ := bnd h
        have g_H2 := fr_X4_becomeLike e_H2 c k ⟨hc.1, hc.2.1, hc.2.2.1, hc.2.2.2.1, hc.2.2.2.2.1, hc.2.2.2.2.2.2.2.2.2.2.1, hc.2.2.2.2.2.2.2.2.2.2.2.1, hc.2.2.2.2.2.2.2.2.2.2.2.2.1, hc.2.2.2.2.2.2.2.2.2.2.2.2.2.1, hc.2.2.2.2.2.2.2.2.2.2.2.2.2.2.1⟩
        obtain rfl := Option.some.inj h; exact g_H2
      · replace h := (if_neg s6).symm.trans h
        by_cases s7 : x1 = 1
        · replace h := (if_pos s7).symm.trans h
          obtain ⟨H3, e_H3, h⟩ := bnd h
          have g_H3 := fr_X4_becomeLike e_H3 c k ⟨hc.2.2.2.2.2.1, hc.2.2.2.2.2.2.1, hc.2.2.2.2.2.2.2.1, hc.2.2.2.2.2.2.2.2.1, hc.2.2.2.2.2.2.2.2.2.1, hc.2.2.2.2.2.2.2.2.2.2.2.2.2.2.2.1, hc.2.2.2.2.2.2.2.2.2.2.2.2.2.2.2.2.1, hc.2.2.2.2.2.2.2.2.2.2.2.2.2.2.2.2.2.1, hc.2.2.2.2.2.2.2.2.2.2.2.2.2.2.2.2.2.2.1, hc.2.2.2.2.2.2.2.2.2.2.2.2.2.2.2.2.2.2.2⟩
          obtain rfl := Option.some.inj h; exact g_H3
        · replace h := (if_neg s7).symm.trans h
          cases h
theorem fr_X7_restore {x1 : Int32} {H : Hp} {q : Int32 × Hp} (h : f_X7_restore x1 H = some q) (c k : Nat) (hc : c ≠ 10 ∧ c ≠ 11 ∧ c ≠ 12 ∧ c ≠ 8 ∧ c ≠ 9 ∧ ¬ (c = 32 ∧ k = 6) ∧ ¬ (c = 7 ∧ k = 0) ∧ ¬ (c = 7 ∧ k = 1) ∧ ¬ (c = 7 ∧ k = 2) ∧ ¬ (c = 7 ∧ k = 3) ∧ ¬ (c = 7 ∧ k = 4)) : q.2 c k = H c k := by
  unfold f_X7_restore at h
  obtain ⟨v1, -, h⟩ := bnd h
  by_cases c10 : v1 = 0
  · replace h := (if_pos c10).symm.trans h
    obtain rfl := Option.some.inj h; exact rfl
  · replace h := (if_neg c10).symm.trans h
    by_cases s11 : x1 = 0
    · replace h := (if_pos s11).symm.trans h
      by_cases c12 : (H 20 0) = 0
      · replace h := (if_pos c12).symm.trans h
        obtain rfl := Option.some.inj h; exact rfl
      · replace h := (if_neg c12).symm.trans h
        by_cases s13 : x1 = 0
        · replace h := (if_pos s13).symm.trans h
          obtain ⟨H2, e_H2, h⟩ := bnd h
          have g_H2 := fr_X4_becomeLike e_H2 c k ⟨hc.2.2.2.1, hc.2.2.2.2.1, hc.1, hc.2.1, hc.2.2.1, hc.2.2.2.2.2.2.1, hc.2.2.2.2.2.2.2.1, hc.2.2.2.2.2.2.2.2.1, hc.2.2.2.2.2.2.2.2.2.1, hc.2.2.2.2.2.2.2.2.2.2⟩
          obtain ⟨H3, e_H3, h⟩ := bnd h
          have g_H3 := fr_X0_forgetAll e_H3 c k hc.2.2.2.2.2.1
          obtain rfl := Option.some.inj h; exact (g_H3.trans g_H2)
        · replace h := (if_neg s13).symm.trans h
          by_cases s14 : x1 = 1
          · replace h := (if_pos s14).symm.trans h
            obtain ⟨H4, e_H4, h⟩ := bnd h
            have g_H4 := fr_X4_becomeLike e_H4 c k ⟨hc.2.2.2.1, hc.2.2.2.2.1, hc.1, hc.2.1, hc.2.2.1, hc.2.2.2.2.2.2.1, hc.2.2.2.2.2.2.2.1, hc.2.2.2.2.2.2.2.2.1, hc.2.2.2.2.2.2.2.2.2.1, hc.2.2.2.2.2.2.2.2.2.2⟩
            obtain ⟨H5, e_H5, h⟩ := bnd h
            have g_H5 := fr_X0_forgetAll e_H5 c k hc.2.2.2.2.2.1
            obtain rfl := Option.some.inj h; exact (g_H5.trans g_H4)
          · replace h := (if_neg s14).symm.trans h
            cases h
    · replace h := (if_neg s11).symm.trans h
      by_cases s15 : x1 = 1
      · replace h := (if_pos s15).symm.trans h
        by_cases c16 : (H 26 0) = 0
        · replace h := (if_pos c16).symm.trans h
          obtain rfl := Option.some.inj h; exact rfl
        · replace h := (if_neg c16).symm.trans h
          by_cases s17 : x1 = 0
          · replace h := (if_pos s17).symm.trans h
            obtain ⟨H6, e_H6, h⟩ := bnd h
            have g_H6 := fr_X4_becomeLike e_H6 c k ⟨hc.2.2.2.1, hc.2.2.2.2.1, hc.1, hc.2.1, hc.2.2.1, hc.2.2.2.2.2.2.1, hc.2.2.2.2.2.2.2.1, hc.2.2.2.2.2.2.2.2.1, hc.2.2.2.2.2.2.2.2.2.1, hc.2.2.2.2.2.2.2.2.2.2⟩
            obtain ⟨H7, e_H7, h⟩ := bnd h
            have g_H7 := fr_X0_forgetAll e_H7 c k hc.2.2.2.2.2.1
            obtain rfl := Option.some.inj h; exact (g_H7.trans g_H6)
          · replace h := (if_neg s17).symm.trans h
            by_cases s18 : x1 = 1
            · replace h := (if_pos s18).symm.trans h
              obtain ⟨H8, e_H8, h⟩ := bnd h
              have g_H8 := fr_X4_becomeLike e_H8 c k ⟨hc.2.2.2.1, hc.2.2.2.2.1, hc.1, hc.2.1, hc.2.2.1, hc.2.2.2.2.2.2.1, hc.2.2.2.2.2.2.2.1, hc.2.2.2.2.2.2.2.2.1, hc.2.2.2.2.2.2.2.2.2.1, hc.2.2.2.2.2.2.2.2.2.2⟩
              obtain ⟨H9, e_H9, h⟩ := bnd h
              have g_H9 := fr_X0_forgetAll e_H9 c k hc.2.2.2.2.2.1
              obtain rfl := Option.some.inj h; exact (g_H9.trans g_H8)
            · replace h := (if_neg s18).symm.trans h
              cases h
      · replace h := (if_neg s15).symm.trans h
        cases h
theorem fr_X7_as {x1 : Int32} {x2 : Int32} {H : Hp} {q : Int32 × Hp} (h : f_X7_as x1 x2 H = some q) (c k : Nat) (hc : ¬ (c = 0 ∧ k = 10)) : q.2 c k = H c k := by
  unfold f_X7_as at h
  obtain ⟨v1, -, h⟩ := bnd h
  by_cases c8 : v1 = 0
  · replace h := (if_pos c8).symm.trans h
    obtain rfl := Option.some.inj h; exact rfl
  · replace h := (if_neg c8).symm.trans h
    obtain ⟨v2, -, h⟩ := bnd h
    by_cases c9 : v2 = 0
    · replace h := (if_pos c9).symm.trans h
      obtain rfl := Option.some.inj h; exact rfl
    · replace h := (if_neg c9).symm.trans h
      obtain ⟨v3, -, h⟩ := bnd h
      obtain ⟨v4, -, h⟩ := bnd h
      obtain ⟨j7, e_j7, h⟩ := bnd h
      have g_j7 : j7.2 c k = H c k := by
        by_cases c10 : v4 = 0
        · replace e_j7 := (if_pos c10).symm.trans e_j7
          obtain ⟨q5, e_q5, e_j7⟩ := bnd e_j7
          have g_q5 := fr_X7_found e_q5 c k hc
          obtain rfl := Option.some.inj e_j7
          exact g_q5
        · replace e_j7 := (if_neg c10).symm.trans e_j7
          obtain ⟨q6, e_q6, e_j7⟩ := bnd e_j7
          have g_q6 := fr_X7_unmarred e_q6 c k hc
          obtain rfl := Option.some.inj e_j7
          exact g_q6
      obtain rfl := Option.some.inj h; exact g_j7
theorem fr_X1_leaveNumber {x1 : Int32} {H : Hp} {q : Hp} (h : f_X1_leaveNumber x1 H = some q) (c k : Nat) (hc : c ≠ 59 ∧ ¬ (c = 58 ∧ k = 2)) : q c k = H c k := by
  unfold f_X1_leaveNumber at h
  obtain ⟨j3, e_j3, h⟩ := bnd h
  have g_j3 : j3 c k = H c k := by
    by_cases c4 : 16 ≤ (H 58 2)
    · replace e_j3 := (if_pos c4).symm.trans e_j3
      obtain rfl := Option.some.inj e_j3
      rfl
    · replace e_j3 := (if_neg c4).symm.trans e_j3
      obtain ⟨H1, e_H1, e_j3⟩ := bnd e_j3
      have g_H1 := as_fr (c := c) (k := k) e_H1 hc.1
      obtain ⟨H2, e_H2, e_j3⟩ := bnd e_j3
      have g_H2 := pf_fr (c := c) (k := k) e_H2 hc.2
      obtain rfl := Option.some.inj e_j3
      exact (g_H2.trans g_H1)
  obtain rfl := Option.some.inj h; exact g_j3
theorem fr_X1_rec_i (c k : Nat) (hc : c ≠ 59 ∧ ¬ (c = 58 ∧ k = 2)) : ∀ (n t : Nat) (x1 x2 : Int32) (H : Hp) (q : Int32 × Hp), f_X1_rec n t x1 x2 H = some q → q.2 c k = H c k := by
  intro n
  induction n with
  | zero => intro t x1 x2 H q h; simp [f_X1_rec] at h
  | succ n ih =>
    intro t x1 x2 H q h
    match t, h with
    | 0, h =>
      rw [f_X1_rec] at h
      obtain ⟨v1, -, h⟩ := bnd h
      obtain ⟨q2, e_q2, h⟩ := bnd h
      have g_q2 := ih 2 v1 (x1 + 1) H _ e_q2
      obtain rfl := Option.some.inj h; exact g_q2
    | 1, h =>
      rw [f_X1_rec] at h
      obtain ⟨v1, -, h⟩ := bnd h
      obtain ⟨q2, e_q2, h⟩ := bnd h
      have g_q2 := ih 3 v1 (x1 + 1) H _ e_q2
      obtain rfl := Option.some.inj h; exact g_q2
    | 2, h =>
      rw [f_X1_rec] at h
      by_cases c8 : x2 ≤ 12
      · replace h := (if_pos c8).symm.trans h
        obtain ⟨H1, e_H1, h⟩ := bnd h
        have g_H1 := fr_X1_leaveNumber e_H1 c k ⟨hc.1, hc.2⟩
        by_cases s9 : x1 = 11
        · replace h := (if_pos s9).symm.trans h
          obtain ⟨q2, e_q2, h⟩ := bnd h
          have g_q2 := ih 2 10 (x2 + 1) H1 _ e_q2
          obtain ⟨q3, e_q3, h⟩ := bnd h
          have g_q3 := ih 1 (x2 + 1) 0 q2.2 _ e_q3
          obtain rfl := Option.some.inj h; exact (g_q3.trans (g_q2.trans g_H1))
        · replace h := (if_neg s9).symm.trans h
          by_cases s10 : x1 = 12
          · replace h := (if_pos s10).symm.trans h
            obtain ⟨q4, e_q4, h⟩ := bnd h
            have g_q4 := ih 2 11 (x2 + 1) H1 _ e_q4
            obtain rfl := Option.some.inj h; exact (g_q4.trans g_H1)
          · replace h := (if_neg s10).symm.trans h
            by_cases s11 : x1 = 13
            · replace h := (if_pos s11).symm.trans h
              obtain ⟨q5, e_q5, h⟩ := bnd h
              have g_q5 := ih 2 10 (x2 + 1) H1 _ e_q5
              obtain rfl := Option.some.inj h; exact (g_q5.trans g_H1)
            · replace h := (if_neg s11).symm.trans h
              by_cases s12 : x1 = 14
              · replace h := (if_pos s12).symm.trans h
                obtain ⟨q6, e_q6, h⟩ := bnd h
                have g_q6 := ih 2 13 (x2 + 1) H1 _ e_q6
                obtain rfl := Option.some.inj h; exact (g_q6.trans g_H1)
              · replace h := (if_neg s12).symm.trans h
                obtain ⟨v7, -, h⟩ := bnd h
                obtain rfl := Option.some.inj h; exact g_H1
      · replace h := (if_neg c8).symm.trans h
        obtain rfl := Option.some.inj h; exact rfl
    | 3, h =>
      rw [f_X1_rec] at h
      by_cases c8 : x2 ≤ 12
      · replace h := (if_pos c8).symm.trans h
        obtain ⟨H1, e_H1, h⟩ := bnd h
        have g_H1 := fr_X1_leaveNumber e_H1 c k ⟨hc.1, hc.2⟩
        by_cases s9 : x1 = 21
        · replace h := (if_pos s9).symm.trans h
          obtain ⟨q2, e_q2, h⟩ := bnd h
          have g_q2 := ih 3 20 (x2 + 1) H1 _ e_q2
          obtain ⟨v3, -, h⟩ := bnd h
          obtain rfl := Option.some.inj h; exact (g_q2.trans g_H1)
        · replace h := (if_neg s9).symm.trans h
          by_cases s10 : x1 = 22
          · replace h := (if_pos s10).symm.trans h
            obtain ⟨q4, e_q4, h⟩ := bnd h
            have g_q4 := ih 3 21 (x2 + 1) H1 _ e_q4
            obtain rfl := Option.some.inj h; exact (g_q4.trans g_H1)
          · replace h := (if_neg s10).symm.trans h
            by_cases s11 : x1 = 23
            · replace h := (if_pos s11).symm.trans h
              obtain ⟨q5, e_q5, h⟩ := bnd h
              have g_q5 := ih 3 20 (x2 + 1) H1 _ e_q5
              obtain ⟨q6, e_q6, h⟩ := bnd h
              have g_q6 := ih 0 (x2 + 1) 0 q5.2 _ e_q6
              obtain rfl := Option.some.inj h; exact (g_q6.trans (g_q5.trans g_H1))
            · replace h := (if_neg s11).symm.trans h
              by_cases s12 : x1 = 24
              · replace h := (if_pos s12).symm.trans h
                obtain ⟨q7, e_q7, h⟩ := bnd h
                have g_q7 := ih 3 21 (x2 + 1) H1 _ e_q7
                obtain rfl := Option.some.inj h; exact (g_q7.trans g_H1)
              · replace h := (if_neg s12).symm.trans h
                obtain rfl := Option.some.inj h; exact g_H1
      · replace h := (if_neg c8).symm.trans h
        obtain rfl := Option.some.inj h; exact rfl
    | t + 4, h => simp [f_X1_rec] at h
theorem fr_X1_rec {n t : Nat} {x1 x2 : Int32} {H : Hp} {q : Int32 × Hp} (h : f_X1_rec n t x1 x2 H = some q) (c k : Nat) (hc : c ≠ 59 ∧ ¬ (c = 58 ∧ k = 2)) : q.2 c k = H c k := fr_X1_rec_i c k hc n t x1 x2 H q h
theorem fr_X1_answer {x1 : Int32} {x2 : Int32} {H : Hp} {q : Int32 × Hp} (h : f_X1_answer x1 x2 H = some q) (c k : Nat) (hc : c ≠ 59 ∧ ¬ (c = 58 ∧ k = 2) ∧ ¬ (c = 58 ∧ k = 3)) : q.2 c k = H c k := by
  unfold f_X1_answer at h
  obtain ⟨H1, e_H1, h⟩ := bnd h
  have g_H1 := pf_fr (c := c) (k := k) e_H1 hc.2.1
  obtain ⟨H2, e_H2, h⟩ := bnd h
  have g_H2 := pf_fr (c := c) (k := k) e_H2 hc.2.2
  obtain ⟨j5, e_j5, h⟩ := bnd h
  have g_j5 : j5.2 c k = H c k := by
    by_cases c6 : x2 = 0
    · replace e_j5 := (if_pos c6).symm.trans e_j5
      obtain ⟨q3, e_q3, e_j5⟩ := bnd e_j5
      have g_q3 := fr_X1_rec e_q3 c k ⟨hc.1, hc.2.1⟩
      obtain rfl := Option.some.inj e_j5
      exact (g_q3.trans (g_H2.trans g_H1))
    · replace e_j5 := (if_neg c6).symm.trans e_j5
      obtain ⟨q4, e_q4, e_j5⟩ := bnd e_j5
      have g_q4 := fr_X1_rec e_q4 c k ⟨hc.1, hc.2.1⟩
      obtain rfl := Option.some.inj e_j5
      exact (g_q4.trans (g_H2.trans g_H1))
  obtain rfl := Option.some.inj h; exact g_j5
theorem fr_X7_ask {x1 : Int32} {x2 : Int32} {H : Hp} {q : Int32 × Hp} (h : f_X7_ask x1 x2 H = some q) (c k : Nat) (hc : c ≠ 39 ∧ c ≠ 40 ∧ c ≠ 41 ∧ c ≠ 42 ∧ c ≠ 43 ∧ c ≠ 44 ∧ c ≠ 45 ∧ c ≠ 46 ∧ c ≠ 59 ∧ ¬ (c = 38 ∧ k = 10) ∧ ¬ (c = 38 ∧ k = 11) ∧ ¬ (c = 38 ∧ k = 12) ∧ ¬ (c = 58 ∧ k = 2) ∧ ¬ (c = 58 ∧ k = 3)) : q.2 c k = H c k := by
  unfold f_X7_ask at h
  obtain ⟨v1, -, h⟩ := bnd h
  by_cases c5 : v1 = 0
  · replace h := (if_pos c5).symm.trans h
    obtain rfl := Option.some.inj h; exact rfl
  · replace h := (if_neg c5).symm.trans h
    obtain ⟨v2, -, h⟩ := bnd h
    by_cases c6 : v2 = 0
    · replace h := (if_pos c6).symm.trans h
      obtain rfl := Option.some.inj h; exact rfl
    · replace h := (if_neg c6).symm.trans h
      obtain ⟨H3, e_H3, h⟩ := bnd h
      have g_H3 := fr_X2_load e_H3 c k ⟨hc.1, hc.2.1, hc.2.2.1, hc.2.2.2.1, hc.2.2.2.2.1, hc.2.2.2.2.2.1, hc.2.2.2.2.2.2.1, hc.2.2.2.2.2.2.2.1, hc.2.2.2.2.2.2.2.2.2.1, hc.2.2.2.2.2.2.2.2.2.2.1, hc.2.2.2.2.2.2.2.2.2.2.2.1⟩
      obtain ⟨q4, e_q4, h⟩ := bnd h
      have g_q4 := fr_X1_answer e_q4 c k ⟨hc.2.2.2.2.2.2.2.2.1, hc.2.2.2.2.2.2.2.2.2.2.2.2.1, hc.2.2.2.2.2.2.2.2.2.2.2.2.2⟩
      obtain rfl := Option.some.inj h; exact (g_q4.trans g_H3)
theorem fr_X8_finding {x1 : Int32} {H : Hp} {q : Int32 × Hp} (h : f_X8_finding x1 H = some q) (c k : Nat) (hc : ¬ (c = 60 ∧ k = 1)) : q.2 c k = H c k := by
  unfold f_X8_finding at h
  obtain ⟨H1, e_H1, h⟩ := bnd h
  have g_H1 := pf_fr (c := c) (k := k) e_H1 hc
  obtain rfl := Option.some.inj h; exact g_H1
theorem fr_X8_row_l65_i {x1 : Int32} (c k : Nat) (hc : c ≠ 63) : ∀ (n : Nat) (x4 : Int32) (H : Hp) (q : Hp), f_X8_row_l65 x1 n x4 H = some q → q c k = H c k := by
  intro n
  induction n with
  | zero => intro x4 H q h; simp [f_X8_row_l65] at h
  | succ n ih =>
    intro x4 H q h
    rw [f_X8_row_l65] at h
    by_cases c11 : 40 ≤ x4
    · replace h := (if_pos c11).symm.trans h
      obtain rfl := Option.some.inj h
      rfl
    · replace h := (if_neg c11).symm.trans h
      obtain ⟨H7, e_H7, h⟩ := bnd h
      have g_H7 := as_fr (c := c) (k := k) e_H7 hc
      exact (ih (x4 + 1) H7 q h).trans g_H7
theorem fr_X8_row_l65 {x1 : Int32}{n : Nat} {x4 : Int32} {H : Hp} {q : Hp} (h : f_X8_row_l65 x1 n x4 H = some q) (c k : Nat) (hc : c ≠ 63) : q c k = H c k := fr_X8_row_l65_i c k hc n x4 H q h
theorem fr_X8_row {x1 : Int32} {x2 : Int32} {x3 : Int32} {H : Hp} {q : Int32 × Hp} (h : f_X8_row x1 x2 x3 H = some q) (c k : Nat) (hc : c ≠ 61 ∧ c ≠ 62 ∧ c ≠ 63 ∧ ¬ (c = 60 ∧ k = 0) ∧ ¬ (c = 60 ∧ k = 1)) : q.2 c k = H c k := by
  unfold f_X8_row at h
  obtain ⟨H1, e_H1, h⟩ := bnd h
  have g_H1 := pf_fr (c := c) (k := k) e_H1 hc.2.2.2.1
  obtain ⟨v2, -, h⟩ := bnd h
  by_cases c12 : v2 = 0
  · replace h := (if_pos c12).symm.trans h
    obtain rfl := Option.some.inj h; exact g_H1
  · replace h := (if_neg c12).symm.trans h
    obtain ⟨v3, -, h⟩ := bnd h
    by_cases c13 : v3 = 0
    · replace h := (if_pos c13).symm.trans h
      obtain rfl := Option.some.inj h; exact g_H1
    · replace h := (if_neg c13).symm.trans h
      by_cases c14 : x3 ≤ 40
      · replace h := (if_pos c14).symm.trans h
        obtain ⟨H4, e_H4, h⟩ := bnd h
        have g_H4 := pf_fr (c := c) (k := k) e_H4 hc.2.2.2.2
        by_cases c15 : 0 ≤ x3
        · replace h := (if_pos c15).symm.trans h
          obtain ⟨H5, e_H5, h⟩ := bnd h
          have g_H5 := as_fr (c := c) (k := k) e_H5 hc.1
          obtain ⟨H6, e_H6, h⟩ := bnd h
          have g_H6 := as_fr (c := c) (k := k) e_H6 hc.2.1
          obtain ⟨l9, e_l9, h⟩ := bnd h
          have g_l9 := fr_X8_row_l65 e_l9 c k hc.2.2.1
          obtain rfl := Option.some.inj h; exact (g_l9.trans (g_H6.trans (g_H5.trans (g_H4.trans g_H1))))
        · replace h := (if_neg c15).symm.trans h
          obtain ⟨q10, e_q10, h⟩ := bnd h
          have g_q10 := fr_X8_finding e_q10 c k hc.2.2.2.2
          obtain rfl := Option.some.inj h; exact (g_q10.trans (g_H4.trans g_H1))
      · replace h := (if_neg c14).symm.trans h
        obtain rfl := Option.some.inj h; exact g_H1
theorem fr_X8_set {x1 : Int32} {x2 : Int32} {x3 : Int32} {H : Hp} {q : Int32 × Hp} (h : f_X8_set x1 x2 x3 H = some q) (c k : Nat) (hc : c ≠ 63 ∧ ¬ (c = 60 ∧ k = 0) ∧ ¬ (c = 60 ∧ k = 1)) : q.2 c k = H c k := by
  unfold f_X8_set at h
  obtain ⟨H1, e_H1, h⟩ := bnd h
  have g_H1 := pf_fr (c := c) (k := k) e_H1 hc.2.1
  obtain ⟨v2, -, h⟩ := bnd h
  by_cases c14 : v2 = 0
  · replace h := (if_pos c14).symm.trans h
    obtain rfl := Option.some.inj h; exact g_H1
  · replace h := (if_neg c14).symm.trans h
    obtain ⟨H3, e_H3, h⟩ := bnd h
    have g_H3 := pf_fr (c := c) (k := k) e_H3 hc.2.2
    obtain ⟨v4, -, h⟩ := bnd h
    by_cases c15 : 0 ≤ v4
    · replace h := (if_pos c15).symm.trans h
      obtain ⟨v5, -, h⟩ := bnd h
      obtain ⟨v6, -, h⟩ := bnd h
      by_cases c16 : v6 = 0
      · replace h := (if_pos c16).symm.trans h
        obtain ⟨q7, e_q7, h⟩ := bnd h
        have g_q7 := fr_X8_finding e_q7 c k hc.2.2
        obtain rfl := Option.some.inj h; exact (g_q7.trans (g_H3.trans g_H1))
      · replace h := (if_neg c16).symm.trans h
        obtain ⟨v8, -, h⟩ := bnd h
        obtain ⟨j10, -, h⟩ := bnd h
        obtain ⟨H11, e_H11, h⟩ := bnd h
        have g_H11 := as_fr (c := c) (k := k) e_H11 hc.1
        obtain ⟨v12, -, h⟩ := bnd h
        obtain rfl := Option.some.inj h; exact (g_H11.trans (g_H3.trans g_H1))
    · replace h := (if_neg c15).symm.trans h
      obtain ⟨q13, e_q13, h⟩ := bnd h
      have g_q13 := fr_X8_finding e_q13 c k hc.2.2
      obtain rfl := Option.some.inj h; exact (g_q13.trans (g_H3.trans g_H1))
theorem fr_X8_copy_l143_i {x1 : Int32} {x2 : Int32} {x3 : Int32} {x4 : Int32} {x5 : Int32} {x6 : Int32} (c k : Nat) (hc : c ≠ 63) : ∀ (n : Nat) (x7 : Int32) (H : Hp) (q : Hp), f_X8_copy_l143 x1 x2 x3 x4 x5 x6 n x7 H = some q → q c k = H c k := by
  intro n
  induction n with
  | zero => intro x7 H q h; simp [f_X8_copy_l143] at h
  | succ n ih =>
    intro x7 H q h
    rw [f_X8_copy_l143] at h
    by_cases c26 : x5 ≤ x7
    · replace h := (if_pos c26).symm.trans h
      obtain rfl := Option.some.inj h
      rfl
    · replace h := (if_neg c26).symm.trans h
      obtain ⟨v16, -, h⟩ := bnd h
      obtain ⟨H17, e_H17, h⟩ := bnd h
      have g_H17 := as_fr (c := c) (k := k) e_H17 hc
      exact (ih (x7 + 1) H17 q h).trans g_H17
theorem fr_X8_copy_l143 {x1 : Int32} {x2 : Int32} {x3 : Int32} {x4 : Int32} {x5 : Int32} {x6 : Int32}{n : Nat} {x7 : Int32} {H : Hp} {q : Hp} (h : f_X8_copy_l143 x1 x2 x3 x4 x5 x6 n x7 H = some q) (c k : Nat) (hc : c ≠ 63) : q c k = H c k := fr_X8_copy_l143_i c k hc n x7 H q h
theorem fr_X8_copy {x1 : Int32} {x2 : Int32} {x3 : Int32} {x4 : Int32} {x5 : Int32} {H : Hp} {q : Int32 × Hp} (h : f_X8_copy x1 x2 x3 x4 x5 H = some q) (c k : Nat) (hc : c ≠ 63 ∧ ¬ (c = 60 ∧ k = 0) ∧ ¬ (c = 60 ∧ k = 1)) : q.2 c k = H c k := by
  unfold f_X8_copy at h
  obtain ⟨H1, e_H1, h⟩ := bnd h
  have g_H1 := pf_fr (c := c) (k := k) e_H1 hc.2.1
  obtain ⟨v2, -, h⟩ := bnd h
  by_cases c27 : v2 = 0
  · replace h := (if_pos c27).symm.trans h
    obtain rfl := Option.some.inj h; exact g_H1
  · replace h := (if_neg c27).symm.trans h
    obtain ⟨v3, -, h⟩ := bnd h
    by_cases c28 : v3 = 0
    · replace h := (if_pos c28).symm.trans h
      obtain rfl := Option.some.inj h; exact g_H1
    · replace h := (if_neg c28).symm.trans h
      obtain ⟨H4, e_H4, h⟩ := bnd h
      have g_H4 := pf_fr (c := c) (k := k) e_H4 hc.2.2
      obtain ⟨v5, -, h⟩ := bnd h
      by_cases c29 : v5 < 0
      · replace h := (if_pos c29).symm.trans h
        obtain ⟨q6, e_q6, h⟩ := bnd h
        have g_q6 := fr_X8_finding e_q6 c k hc.2.2
        obtain rfl := Option.some.inj h; exact (g_q6.trans (g_H4.trans g_H1))
      · replace h := (if_neg c29).symm.trans h
        obtain ⟨v7, -, h⟩ := bnd h
        by_cases c30 : 0 ≤ v7
        · replace h := (if_pos c30).symm.trans h
          obtain ⟨v8, -, h⟩ := bnd h
          obtain ⟨v9, -, h⟩ := bnd h
          by_cases c31 : v8 = v9
          · replace h := (if_pos c31).symm.trans h
            by_cases c32 : x2 < 0
            · replace h := (if_pos c32).symm.trans h
              obtain ⟨q10, e_q10, h⟩ := bnd h
              have g_q10 := fr_X8_finding e_q10 c k hc.2.2
              obtain rfl := Option.some.inj h; exact (g_q10.trans (g_H4.trans g_H1))
            · replace h := (if_neg c32).symm.trans h
              by_cases c33 : x4 < 0
              · replace h := (if_pos c33).symm.trans h
                obtain ⟨q11, e_q11, h⟩ := bnd h
                have g_q11 := fr_X8_finding e_q11 c k hc.2.2
                obtain rfl := Option.some.inj h; exact (g_q11.trans (g_H4.trans g_H1))
              · replace h := (if_neg c33).symm.trans h
                by_cases c34 : x5 < 0
                · replace h := (if_pos c34).symm.trans h
                  obtain ⟨q12, e_q12, h⟩ := bnd h
                  have g_q12 := fr_X8_finding e_q12 c k hc.2.2
                  obtain rfl := Option.some.inj h; exact (g_q12.trans (g_H4.trans g_H1))
                · replace h := (if_neg c34).symm.trans h
                  obtain ⟨v13, -, h⟩ := bnd h
                  by_cases c35 : v13.toInt64 < (x2.toInt64 + x5.toInt64)
                  · replace h := (if_pos c35).symm.trans h
                    obtain ⟨q14, e_q14, h⟩ := bnd h
                    have g_q14 := fr_X8_finding e_q14 c k hc.2.2
                    obtain rfl := Option.some.inj h; exact (g_q14.trans (g_H4.trans g_H1))
                  · replace h := (if_neg c35).symm.trans h
                    obtain ⟨v15, -, h⟩ := bnd h
                    by_cases c36 : (x4.toInt64 + x5.toInt64) ≤ v15.toInt64
                    · replace h := (if_pos c36).symm.trans h
                      obtain ⟨l22, e_l22, h⟩ := bnd h
                      have g_l22 := fr_X8_copy_l143 e_l22 c k hc.1
                      obtain rfl := Option.some.inj h; exact (g_l22.trans (g_H4.trans g_H1))
                    · replace h := (if_neg c36).symm.trans h
                      obtain ⟨q23, e_q23, h⟩ := bnd h
                      have g_q23 := fr_X8_finding e_q23 c k hc.2.2
                      obtain rfl := Option.some.inj h; exact (g_q23.trans (g_H4.trans g_H1))
          · replace h := (if_neg c31).symm.trans h
            obtain ⟨q24, e_q24, h⟩ := bnd h
            have g_q24 := fr_X8_finding e_q24 c k hc.2.2
            obtain rfl := Option.some.inj h; exact (g_q24.trans (g_H4.trans g_H1))
        · replace h := (if_neg c30).symm.trans h
          obtain ⟨q25, e_q25, h⟩ := bnd h
          have g_q25 := fr_X8_finding e_q25 c k hc.2.2
          obtain rfl := Option.some.inj h; exact (g_q25.trans (g_H4.trans g_H1))
theorem fr_X8_drop {x1 : Int32} {H : Hp} {q : Int32 × Hp} (h : f_X8_drop x1 H = some q) (c k : Nat) (hc : c ≠ 61 ∧ ¬ (c = 60 ∧ k = 0) ∧ ¬ (c = 60 ∧ k = 1)) : q.2 c k = H c k := by
  unfold f_X8_drop at h
  obtain ⟨H1, e_H1, h⟩ := bnd h
  have g_H1 := pf_fr (c := c) (k := k) e_H1 hc.2.1
  obtain ⟨v2, -, h⟩ := bnd h
  by_cases c8 : v2 = 0
  · replace h := (if_pos c8).symm.trans h
    obtain rfl := Option.some.inj h; exact g_H1
  · replace h := (if_neg c8).symm.trans h
    obtain ⟨H3, e_H3, h⟩ := bnd h
    have g_H3 := pf_fr (c := c) (k := k) e_H3 hc.2.2
    obtain ⟨v4, -, h⟩ := bnd h
    by_cases c9 : 0 ≤ v4
    · replace h := (if_pos c9).symm.trans h
      obtain ⟨H5, e_H5, h⟩ := bnd h
      have g_H5 := as_fr (c := c) (k := k) e_H5 hc.1
      obtain ⟨v6, -, h⟩ := bnd h
      obtain rfl := Option.some.inj h; exact (g_H5.trans (g_H3.trans g_H1))
    · replace h := (if_neg c9).symm.trans h
      obtain ⟨q7, e_q7, h⟩ := bnd h
      have g_q7 := fr_X8_finding e_q7 c k hc.2.2
      obtain rfl := Option.some.inj h; exact (g_q7.trans (g_H3.trans g_H1))
theorem fr_X8_feed {x1 : Int32} {H : Hp} {q : Int32 × Hp} (h : f_X8_feed x1 H = some q) (c k : Nat) (hc : c ≠ 68 ∧ ¬ (c = 60 ∧ k = 0) ∧ ¬ (c = 60 ∧ k = 11)) : q.2 c k = H c k := by
  unfold f_X8_feed at h
  obtain ⟨H1, e_H1, h⟩ := bnd h
  have g_H1 := pf_fr (c := c) (k := k) e_H1 hc.2.1
  obtain ⟨v2, -, h⟩ := bnd h
  by_cases c5 : v2 = 0
  · replace h := (if_pos c5).symm.trans h
    obtain rfl := Option.some.inj h; exact g_H1
  · replace h := (if_neg c5).symm.trans h
    by_cases c6 : (H1 60 11) = 130
    · replace h := (if_pos c6).symm.trans h
      obtain rfl := Option.some.inj h; exact g_H1
    · replace h := (if_neg c6).symm.trans h
      obtain ⟨H3, e_H3, h⟩ := bnd h
      have g_H3 := as_fr (c := c) (k := k) e_H3 hc.1
      obtain ⟨H4, e_H4, h⟩ := bnd h
      have g_H4 := pf_fr (c := c) (k := k) e_H4 hc.2.2
      obtain rfl := Option.some.inj h; exact (g_H4.trans (g_H3.trans g_H1))
theorem fr_X8_fault {H : Hp} {q : Int32 × Hp} (h : f_X8_fault H = some q) (c k : Nat) (hc : ¬ (c = 60 ∧ k = 0)) : q.2 c k = H c k := by
  unfold f_X8_fault at h
  obtain ⟨H1, e_H1, h⟩ := bnd h
  have g_H1 := pf_fr (c := c) (k := k) e_H1 hc
  obtain rfl := Option.some.inj h; exact g_H1
theorem fr_X8_nextToken_l165_i (c k : Nat) (hc : ¬ (c = 60 ∧ k = 12) ∧ ¬ (c = 60 ∧ k = 15)) : ∀ (n : Nat) (H : Hp) (q : Hp), f_X8_nextToken_l165 n H = some q → q c k = H c k := by
  intro n
  induction n with
  | zero => intro H q h; simp [f_X8_nextToken_l165] at h
  | succ n ih =>
    intro H q h
    rw [f_X8_nextToken_l165] at h
    by_cases c24 : (H 60 11) ≤ (H 60 12)
    · replace h := (if_pos c24).symm.trans h
      obtain rfl := Option.some.inj h
      rfl
    · replace h := (if_neg c24).symm.trans h
      obtain ⟨v11, -, h⟩ := bnd h
      obtain ⟨v12, -, h⟩ := bnd h
      by_cases c25 : v12 = 0
      · replace h := (if_pos c25).symm.trans h
        obtain rfl := Option.some.inj h
        rfl
      · replace h := (if_neg c25).symm.trans h
        obtain ⟨j14, -, h⟩ := bnd h
        obtain ⟨H15, e_H15, h⟩ := bnd h
        have g_H15 := pf_fr (c := c) (k := k) e_H15 hc.2
        obtain ⟨H16, e_H16, h⟩ := bnd h
        have g_H16 := pf_fr (c := c) (k := k) e_H16 hc.1
        exact (ih H16 q h).trans (g_H16.trans g_H15)
theorem fr_X8_nextToken_l165{n : Nat} {H : Hp} {q : Hp} (h : f_X8_nextToken_l165 n H = some q) (c k : Nat) (hc : ¬ (c = 60 ∧ k = 12) ∧ ¬ (c = 60 ∧ k = 15)) : q c k = H c k := fr_X8_nextToken_l165_i c k hc n H q h
theorem fr_X8_nextToken {H : Hp} {q : Hp} (h : f_X8_nextToken H = some q) (c k : Nat) (hc : ¬ (c = 60 ∧ k = 12) ∧ ¬ (c = 60 ∧ k = 13) ∧ ¬ (c = 60 ∧ k = 14) ∧ ¬ (c = 60 ∧ k = 15)) : q c k = H c k := by
  unfold f_X8_nextToken at h
  obtain ⟨H1, e_H1, h⟩ := bnd h
  have g_H1 := pf_fr (c := c) (k := k) e_H1 hc.2.1
  obtain ⟨j3, -, h⟩ := bnd h
  obtain ⟨H4, e_H4, h⟩ := bnd h
  have g_H4 := pf_fr (c := c) (k := k) e_H4 hc.2.2.2
  obtain ⟨j7, -, h⟩ := bnd h
  obtain ⟨H8, e_H8, h⟩ := bnd h
  have g_H8 := pf_fr (c := c) (k := k) e_H8 hc.2.2.1
  obtain ⟨H9, e_H9, h⟩ := bnd h
  have g_H9 := pf_fr (c := c) (k := k) e_H9 hc.1
  obtain ⟨j23, e_j23, h⟩ := bnd h
  have g_j23 : j23 c k = H c k := by
    by_cases c26 : (H9 60 14) = 3
    · replace e_j23 := (if_pos c26).symm.trans e_j23
      obtain ⟨H10, e_H10, e_j23⟩ := bnd e_j23
      have g_H10 := pf_fr (c := c) (k := k) e_H10 hc.2.2.2
      obtain ⟨l21, e_l21, e_j23⟩ := bnd e_j23
      have g_l21 := fr_X8_nextToken_l165 e_l21 c k ⟨hc.1, hc.2.2.2⟩
      obtain ⟨H22, e_H22, e_j23⟩ := bnd e_j23
      have g_H22 := pf_fr (c := c) (k := k) e_H22 hc.2.2.1
      obtain rfl := Option.some.inj e_j23
      exact (g_H22.trans (g_l21.trans (g_H10.trans (g_H9.trans (g_H8.trans (g_H4.trans g_H1))))))
    · replace e_j23 := (if_neg c26).symm.trans e_j23
      obtain rfl := Option.some.inj e_j23
      exact (g_H9.trans (g_H8.trans (g_H4.trans g_H1)))
  obtain rfl := Option.some.inj h; exact g_j23
theorem fr_X8_begin {H : Hp} {q : Hp} (h : f_X8_begin H = some q) (c k : Nat) (hc : ¬ (c = 60 ∧ k = 12) ∧ ¬ (c = 60 ∧ k = 13) ∧ ¬ (c = 60 ∧ k = 14) ∧ ¬ (c = 60 ∧ k = 15) ∧ ¬ (c = 60 ∧ k = 16)) : q c k = H c k := by
  unfold f_X8_begin at h
  obtain ⟨H1, e_H1, h⟩ := bnd h
  have g_H1 := pf_fr (c := c) (k := k) e_H1 hc.1
  obtain ⟨H2, e_H2, h⟩ := bnd h
  have g_H2 := pf_fr (c := c) (k := k) e_H2 hc.2.2.2.2
  obtain ⟨H3, e_H3, h⟩ := bnd h
  have g_H3 := fr_X8_nextToken e_H3 c k ⟨hc.1, hc.2.1, hc.2.2.1, hc.2.2.2.1⟩
  obtain rfl := Option.some.inj h; exact (g_H3.trans (g_H2.trans g_H1))
theorem fr_X8_bad {x1 : Int32} {H : Hp} {q : Hp} (h : f_X8_bad x1 H = some q) (c k : Nat) (hc : ¬ (c = 60 ∧ k = 16) ∧ ¬ (c = 60 ∧ k = 17)) : q c k = H c k := by
  unfold f_X8_bad at h
  obtain ⟨j3, e_j3, h⟩ := bnd h
  have g_j3 : j3 c k = H c k := by
    by_cases c4 : (H 60 16) = 0
    · replace e_j3 := (if_pos c4).symm.trans e_j3
      obtain ⟨H1, e_H1, e_j3⟩ := bnd e_j3
      have g_H1 := pf_fr (c := c) (k := k) e_H1 hc.1
      obtain ⟨H2, e_H2, e_j3⟩ := bnd e_j3
      have g_H2 := pf_fr (c := c) (k := k) e_H2 hc.2
      obtain rfl := Option.some.inj e_j3
      exact (g_H2.trans g_H1)
    · replace e_j3 := (if_neg c4).symm.trans e_j3
      obtain rfl := Option.some.inj e_j3
      rfl
  obtain rfl := Option.some.inj h; exact g_j3
theorem fr_X8_must {x1 : Int32} {H : Hp} {q : Hp} (h : f_X8_must x1 H = some q) (c k : Nat) (hc : ¬ (c = 60 ∧ k = 12) ∧ ¬ (c = 60 ∧ k = 13) ∧ ¬ (c = 60 ∧ k = 14) ∧ ¬ (c = 60 ∧ k = 15) ∧ ¬ (c = 60 ∧ k = 16) ∧ ¬ (c = 60 ∧ k = 17)) : q c k = H c k := by
  unfold f_X8_must at h
  obtain ⟨j2, e_j2, h⟩ := bnd h
  have g_j2 : j2 c k = H c k := by
    by_cases c5 : x1 = 0
    · replace e_j2 := (if_pos c5).symm.trans e_j2
      obtain ⟨H1, e_H1, e_j2⟩ := bnd e_j2
      have g_H1 := fr_X8_bad e_H1 c k ⟨hc.2.2.2.2.1, hc.2.2.2.2.2⟩
      obtain rfl := Option.some.inj e_j2
      exact g_H1
    · replace e_j2 := (if_neg c5).symm.trans e_j2
      obtain rfl := Option.some.inj e_j2
      rfl
  obtain ⟨j4, e_j4, h⟩ := bnd h
  have g_j4 : j4 c k = H c k := by
    by_cases c6 : (j2 60 16) = 0
    · replace e_j4 := (if_pos c6).symm.trans e_j4
      obtain ⟨H3, e_H3, e_j4⟩ := bnd e_j4
      have g_H3 := fr_X8_nextToken e_H3 c k ⟨hc.1, hc.2.1, hc.2.2.1, hc.2.2.2.1⟩
      obtain rfl := Option.some.inj e_j4
      exact (g_H3.trans g_j2)
    · replace e_j4 := (if_neg c6).symm.trans e_j4
      obtain rfl := Option.some.inj e_j4
      exact g_j2
  obtain rfl := Option.some.inj h; exact g_j4
theorem fr_X8_number {x1 : Int32} {x2 : Int32} {H : Hp} {q : Int32 × Hp} (h : f_X8_number x1 x2 H = some q) (c k : Nat) (hc : ¬ (c = 60 ∧ k = 12) ∧ ¬ (c = 60 ∧ k = 13) ∧ ¬ (c = 60 ∧ k = 14) ∧ ¬ (c = 60 ∧ k = 15) ∧ ¬ (c = 60 ∧ k = 16) ∧ ¬ (c = 60 ∧ k = 17)) : q.2 c k = H c k := by
  unfold f_X8_number at h
  obtain ⟨j2, e_j2, h⟩ := bnd h
  have g_j2 : j2 c k = H c k := by
    by_cases c7 : (H 60 16) = 0
    · replace e_j2 := (if_pos c7).symm.trans e_j2
      by_cases c8 : (H 60 14) = 3
      · replace e_j2 := (if_pos c8).symm.trans e_j2
        obtain rfl := Option.some.inj e_j2
        rfl
      · replace e_j2 := (if_neg c8).symm.trans e_j2
        obtain ⟨H1, e_H1, e_j2⟩ := bnd e_j2
        have g_H1 := fr_X8_bad e_H1 c k ⟨hc.2.2.2.2.1, hc.2.2.2.2.2⟩
        obtain rfl := Option.some.inj e_j2
        exact g_H1
    · replace e_j2 := (if_neg c7).symm.trans e_j2
      obtain rfl := Option.some.inj e_j2
      rfl
  obtain ⟨j5, e_j5, h⟩ := bnd h
  have g_j5 : j5 c k = H c k := by
    by_cases c9 : (j2 60 16) = 0
    · replace e_j5 := (if_pos c9).symm.trans e_j5
      obtain ⟨v3, -, e_j5⟩ := bnd e_j5
      by_cases c10 : v3 = 0
      · replace e_j5 := (if_pos c10).symm.trans e_j5
        obtain ⟨H4, e_H4, e_j5⟩ := bnd e_j5
        have g_H4 := fr_X8_bad e_H4 c k ⟨hc.2.2.2.2.1, hc.2.2.2.2.2⟩
        obtain rfl := Option.some.inj e_j5
        exact (g_H4.trans g_j2)
      · replace e_j5 := (if_neg c10).symm.trans e_j5
        obtain rfl := Option.some.inj e_j5
        exact g_j2
    · replace e_j5 := (if_neg c9).symm.trans e_j5
      obtain rfl := Option.some.inj e_j5
      exact g_j2
  obtain ⟨H6, e_H6, h⟩ := bnd h
  have g_H6 := fr_X8_must e_H6 c k ⟨hc.1, hc.2.1, hc.2.2.1, hc.2.2.2.1, hc.2.2.2.2.1, hc.2.2.2.2.2⟩
  obtain rfl := Option.some.inj h; exact (g_H6.trans g_j5)
theorem fr_X8_mustSign {x1 : Int32} {H : Hp} {q : Hp} (h : f_X8_mustSign x1 H = some q) (c k : Nat) (hc : ¬ (c = 60 ∧ k = 12) ∧ ¬ (c = 60 ∧ k = 13) ∧ ¬ (c = 60 ∧ k = 14) ∧ ¬ (c = 60 ∧ k = 15) ∧ ¬ (c = 60 ∧ k = 16) ∧ ¬ (c = 60 ∧ k = 17)) : q c k = H c k := by
  unfold f_X8_mustSign at h
  obtain ⟨H1, e_H1, h⟩ := bnd h
  have g_H1 := fr_X8_must e_H1 c k ⟨hc.1, hc.2.1, hc.2.2.1, hc.2.2.2.1, hc.2.2.2.2.1, hc.2.2.2.2.2⟩
  obtain rfl := Option.some.inj h; exact g_H1
theorem fr_X8_readProject {H : Hp} {q : Hp} (h : f_X8_readProject H = some q) (c k : Nat) (hc : c ≠ 65 ∧ ¬ (c = 60 ∧ k = 12) ∧ ¬ (c = 60 ∧ k = 13) ∧ ¬ (c = 60 ∧ k = 14) ∧ ¬ (c = 60 ∧ k = 15) ∧ ¬ (c = 60 ∧ k = 16) ∧ ¬ (c = 60 ∧ k = 17)) : q c k = H c k := by
  unfold f_X8_readProject at h
  obtain ⟨v1, -, h⟩ := bnd h
  obtain ⟨v2, -, h⟩ := bnd h
  obtain ⟨j4, e_j4, h⟩ := bnd h
  have g_j4 : j4 c k = H c k := by
    by_cases c12 : v2 = 6
    · replace e_j4 := (if_pos c12).symm.trans e_j4
      obtain ⟨H3, e_H3, e_j4⟩ := bnd e_j4
      have g_H3 := fr_X8_bad e_H3 c k ⟨hc.2.2.2.2.2.1, hc.2.2.2.2.2.2⟩
      obtain rfl := Option.some.inj e_j4
      exact g_H3
    · replace e_j4 := (if_neg c12).symm.trans e_j4
      obtain rfl := Option.some.inj e_j4
      rfl
  obtain ⟨H5, e_H5, h⟩ := bnd h
  have g_H5 := fr_X8_must e_H5 c k ⟨hc.2.1, hc.2.2.1, hc.2.2.2.1, hc.2.2.2.2.1, hc.2.2.2.2.2.1, hc.2.2.2.2.2.2⟩
  obtain ⟨H6, e_H6, h⟩ := bnd h
  have g_H6 := fr_X8_mustSign e_H6 c k ⟨hc.2.1, hc.2.2.1, hc.2.2.2.1, hc.2.2.2.2.1, hc.2.2.2.2.2.1, hc.2.2.2.2.2.2⟩
  obtain ⟨j11, e_j11, h⟩ := bnd h
  have g_j11 : j11 c k = H c k := by
    by_cases c13 : (H6 60 16) = 0
    · replace e_j11 := (if_pos c13).symm.trans e_j11
      obtain ⟨v7, -, e_j11⟩ := bnd e_j11
      obtain ⟨H8, e_H8, e_j11⟩ := bnd e_j11
      have g_H8 := as_fr (c := c) (k := k) e_H8 hc.1
      obtain ⟨v9, -, e_j11⟩ := bnd e_j11
      obtain ⟨H10, e_H10, e_j11⟩ := bnd e_j11
      have g_H10 := as_fr (c := c) (k := k) e_H10 hc.1
      obtain rfl := Option.some.inj e_j11
      exact (g_H10.trans (g_H8.trans (g_H6.trans (g_H5.trans g_j4))))
    · replace e_j11 := (if_neg c13).symm.trans e_j11
      obtain rfl := Option.some.inj e_j11
      exact (g_H6.trans (g_H5.trans g_j4))
  obtain rfl := Option.some.inj h; exact g_j11
theorem fr_X8_lay {r : Nat} {x1 : Int32} {x2 : Int32} {x3 : Int32} {x4 : Int32} {H : Hp} {q : Hp} (h : f_X8_lay r x1 x2 x3 x4 H = some q) (c k : Nat) (hc : c ≠ r) : q c k = H c k := by
  unfold f_X8_lay at h
  obtain ⟨H1, e_H1, h⟩ := bnd h
  have g_H1 := as_fr (c := c) (k := k) e_H1 hc
  obtain ⟨H2, e_H2, h⟩ := bnd h
  have g_H2 := as_fr (c := c) (k := k) e_H2 hc
  obtain ⟨H3, e_H3, h⟩ := bnd h
  have g_H3 := as_fr (c := c) (k := k) e_H3 hc
  obtain rfl := Option.some.inj h; exact (g_H3.trans (g_H2.trans g_H1))
theorem fr_X8_put {r : Nat} {x1 : Int32} {x2 : Int32} {x3 : Int32} {H : Hp} {q : Hp} (h : f_X8_put r x1 x2 x3 H = some q) (c k : Nat) (hc : c ≠ r) : q c k = H c k := by
  unfold f_X8_put at h
  obtain ⟨v1, -, h⟩ := bnd h
  obtain ⟨H2, e_H2, h⟩ := bnd h
  have g_H2 := fr_X8_lay e_H2 c k hc
  obtain ⟨v3, -, h⟩ := bnd h
  obtain ⟨H4, e_H4, h⟩ := bnd h
  have g_H4 := as_fr (c := c) (k := k) e_H4 hc
  obtain rfl := Option.some.inj h; exact (g_H4.trans g_H2)
theorem fr_X8_readGift {H : Hp} {q : Hp} (h : f_X8_readGift H = some q) (c k : Nat) (hc : c ≠ 65 ∧ ¬ (c = 60 ∧ k = 12) ∧ ¬ (c = 60 ∧ k = 13) ∧ ¬ (c = 60 ∧ k = 14) ∧ ¬ (c = 60 ∧ k = 15) ∧ ¬ (c = 60 ∧ k = 16) ∧ ¬ (c = 60 ∧ k = 17)) : q c k = H c k := by
  unfold f_X8_readGift at h
  obtain ⟨v1, -, h⟩ := bnd h
  obtain ⟨j3, e_j3, h⟩ := bnd h
  have g_j3 : j3 c k = H c k := by
    by_cases c14 : v1 = 20
    · replace e_j3 := (if_pos c14).symm.trans e_j3
      obtain ⟨H2, e_H2, e_j3⟩ := bnd e_j3
      have g_H2 := fr_X8_bad e_H2 c k ⟨hc.2.2.2.2.2.1, hc.2.2.2.2.2.2⟩
      obtain rfl := Option.some.inj e_j3
      exact g_H2
    · replace e_j3 := (if_neg c14).symm.trans e_j3
      obtain rfl := Option.some.inj e_j3
      rfl
  obtain ⟨H4, e_H4, h⟩ := bnd h
  have g_H4 := fr_X8_must e_H4 c k ⟨hc.2.1, hc.2.2.1, hc.2.2.2.1, hc.2.2.2.2.1, hc.2.2.2.2.2.1, hc.2.2.2.2.2.2⟩
  obtain ⟨q5, e_q5, h⟩ := bnd h
  have g_q5 := fr_X8_number e_q5 c k ⟨hc.2.1, hc.2.2.1, hc.2.2.2.1, hc.2.2.2.2.1, hc.2.2.2.2.2.1, hc.2.2.2.2.2.2⟩
  obtain ⟨H6, e_H6, h⟩ := bnd h
  have g_H6 := fr_X8_mustSign e_H6 c k ⟨hc.2.1, hc.2.2.1, hc.2.2.2.1, hc.2.2.2.2.1, hc.2.2.2.2.2.1, hc.2.2.2.2.2.2⟩
  obtain ⟨v7, -, h⟩ := bnd h
  obtain ⟨q8, e_q8, h⟩ := bnd h
  have g_q8 := fr_X8_number e_q8 c k ⟨hc.2.1, hc.2.2.1, hc.2.2.2.1, hc.2.2.2.2.1, hc.2.2.2.2.2.1, hc.2.2.2.2.2.2⟩
  obtain ⟨H9, e_H9, h⟩ := bnd h
  have g_H9 := fr_X8_mustSign e_H9 c k ⟨hc.2.1, hc.2.2.1, hc.2.2.2.1, hc.2.2.2.2.1, hc.2.2.2.2.2.1, hc.2.2.2.2.2.2⟩
  obtain ⟨q10, e_q10, h⟩ := bnd h
  have g_q10 := fr_X8_number e_q10 c k ⟨hc.2.1, hc.2.2.1, hc.2.2.2.1, hc.2.2.2.2.1, hc.2.2.2.2.2.1, hc.2.2.2.2.2.2⟩
  obtain ⟨H11, e_H11, h⟩ := bnd h
  have g_H11 := fr_X8_mustSign e_H11 c k ⟨hc.2.1, hc.2.2.1, hc.2.2.2.1, hc.2.2.2.2.1, hc.2.2.2.2.2.1, hc.2.2.2.2.2.2⟩
  obtain ⟨j13, e_j13, h⟩ := bnd h
  have g_j13 : j13 c k = H c k := by
    by_cases c15 : (H11 60 16) = 0
    · replace e_j13 := (if_pos c15).symm.trans e_j13
      obtain ⟨H12, e_H12, e_j13⟩ := bnd e_j13
      have g_H12 := fr_X8_put e_H12 c k hc.1
      obtain rfl := Option.some.inj e_j13
      exact (g_H12.trans (g_H11.trans (g_q10.trans (g_H9.trans (g_q8.trans (g_H6.trans (g_q5.trans (g_H4.trans g_j3))))))))
    · replace e_j13 := (if_neg c15).symm.trans e_j13
      obtain rfl := Option.some.inj e_j13
      exact (g_H11.trans (g_q10.trans (g_H9.trans (g_q8.trans (g_H6.trans (g_q5.trans (g_H4.trans g_j3)))))))
  obtain rfl := Option.some.inj h; exact g_j13
theorem fr_X8_failed {H : Hp} {q : Int32 × Hp} (h : f_X8_failed H = some q) (c k : Nat) (hc : ¬ (c = 60 ∧ k = 11) ∧ ¬ (c = 60 ∧ k = 16) ∧ ¬ (c = 60 ∧ k = 17) ∧ ¬ (c = 60 ∧ k = 18)) : q.2 c k = H c k := by
  unfold f_X8_failed at h
  obtain ⟨j2, e_j2, h⟩ := bnd h
  have g_j2 : j2 c k = H c k := by
    by_cases c5 : (H 60 16) = 0
    · replace e_j2 := (if_pos c5).symm.trans e_j2
      by_cases c6 : (H 60 14) = 1
      · replace e_j2 := (if_pos c6).symm.trans e_j2
        obtain rfl := Option.some.inj e_j2
        rfl
      · replace e_j2 := (if_neg c6).symm.trans e_j2
        obtain ⟨H1, e_H1, e_j2⟩ := bnd e_j2
        have g_H1 := fr_X8_bad e_H1 c k ⟨hc.2.1, hc.2.2.1⟩
        obtain rfl := Option.some.inj e_j2
        exact g_H1
    · replace e_j2 := (if_neg c5).symm.trans e_j2
      obtain rfl := Option.some.inj e_j2
      rfl
  obtain ⟨H3, e_H3, h⟩ := bnd h
  have g_H3 := pf_fr (c := c) (k := k) e_H3 hc.1
  obtain ⟨H4, e_H4, h⟩ := bnd h
  have g_H4 := pf_fr (c := c) (k := k) e_H4 hc.2.2.2
  obtain rfl := Option.some.inj h; exact (g_H4.trans (g_H3.trans g_j2))
theorem fr_X8_fund_l11_i (c k : Nat) (hc : c ≠ 65) : ∀ (n : Nat) (x1 : Int32) (H : Hp) (q : Hp), f_X8_fund_l11 n x1 H = some q → q c k = H c k := by
  intro n
  induction n with
  | zero => intro x1 H q h; simp [f_X8_fund_l11] at h
  | succ n ih =>
    intro x1 H q h
    rw [f_X8_fund_l11] at h
    by_cases c35 : 80 ≤ x1
    · replace h := (if_pos c35).symm.trans h
      obtain rfl := Option.some.inj h
      rfl
    · replace h := (if_neg c35).symm.trans h
      obtain ⟨H3, e_H3, h⟩ := bnd h
      have g_H3 := as_fr (c := c) (k := k) e_H3 hc
      exact (ih (x1 + 1) H3 q h).trans g_H3
theorem fr_X8_fund_l11{n : Nat} {x1 : Int32} {H : Hp} {q : Hp} (h : f_X8_fund_l11 n x1 H = some q) (c k : Nat) (hc : c ≠ 65) : q c k = H c k := fr_X8_fund_l11_i c k hc n x1 H q h
theorem fr_X8_fund_l106_i (c k : Nat) (hc : c ≠ 65 ∧ ¬ (c = 60 ∧ k = 12) ∧ ¬ (c = 60 ∧ k = 13) ∧ ¬ (c = 60 ∧ k = 14) ∧ ¬ (c = 60 ∧ k = 15) ∧ ¬ (c = 60 ∧ k = 16) ∧ ¬ (c = 60 ∧ k = 17)) : ∀ (n : Nat) (H : Hp) (q : Hp), f_X8_fund_l106 n H = some q → q c k = H c k := by
  intro n
  induction n with
  | zero => intro H q h; simp [f_X8_fund_l106] at h
  | succ n ih =>
    intro H q h
    rw [f_X8_fund_l106] at h
    obtain ⟨v20, -, h⟩ := bnd h
    by_cases c36 : v20 = 0
    · replace h := (if_pos c36).symm.trans h
      obtain rfl := Option.some.inj h
      rfl
    · replace h := (if_neg c36).symm.trans h
      obtain ⟨H21, e_H21, h⟩ := bnd h
      have g_H21 := fr_X8_readProject e_H21 c k ⟨hc.1, hc.2.1, hc.2.2.1, hc.2.2.2.1, hc.2.2.2.2.1, hc.2.2.2.2.2.1, hc.2.2.2.2.2.2⟩
      exact (ih H21 q h).trans g_H21
theorem fr_X8_fund_l106{n : Nat} {H : Hp} {q : Hp} (h : f_X8_fund_l106 n H = some q) (c k : Nat) (hc : c ≠ 65 ∧ ¬ (c = 60 ∧ k = 12) ∧ ¬ (c = 60 ∧ k = 13) ∧ ¬ (c = 60 ∧ k = 14) ∧ ¬ (c = 60 ∧ k = 15) ∧ ¬ (c = 60 ∧ k = 16) ∧ ¬ (c = 60 ∧ k = 17)) : q c k = H c k := fr_X8_fund_l106_i c k hc n H q h
theorem fr_X8_fund_l120_i (c k : Nat) (hc : c ≠ 65 ∧ ¬ (c = 60 ∧ k = 12) ∧ ¬ (c = 60 ∧ k = 13) ∧ ¬ (c = 60 ∧ k = 14) ∧ ¬ (c = 60 ∧ k = 15) ∧ ¬ (c = 60 ∧ k = 16) ∧ ¬ (c = 60 ∧ k = 17)) : ∀ (n : Nat) (H : Hp) (q : Hp), f_X8_fund_l120 n H = some q → q c k = H c k := by
  intro n
  induction n with
  | zero => intro H q h; simp [f_X8_fund_l120] at h
  | succ n ih =>
    intro H q h
    rw [f_X8_fund_l120] at h
    obtain ⟨v24, -, h⟩ := bnd h
    by_cases c37 : v24 = 0
    · replace h := (if_pos c37).symm.trans h
      obtain rfl := Option.some.inj h
      rfl
    · replace h := (if_neg c37).symm.trans h
      obtain ⟨H25, e_H25, h⟩ := bnd h
      have g_H25 := fr_X8_readGift e_H25 c k ⟨hc.1, hc.2.1, hc.2.2.1, hc.2.2.2.1, hc.2.2.2.2.1, hc.2.2.2.2.2.1, hc.2.2.2.2.2.2⟩
      exact (ih H25 q h).trans g_H25
theorem fr_X8_fund_l120{n : Nat} {H : Hp} {q : Hp} (h : f_X8_fund_l120 n H = some q) (c k : Nat) (hc : c ≠ 65 ∧ ¬ (c = 60 ∧ k = 12) ∧ ¬ (c = 60 ∧ k = 13) ∧ ¬ (c = 60 ∧ k = 14) ∧ ¬ (c = 60 ∧ k = 15) ∧ ¬ (c = 60 ∧ k = 16) ∧ ¬ (c = 60 ∧ k = 17)) : q c k = H c k := fr_X8_fund_l120_i c k hc n H q h
theorem fr_X8_fund_l156_i (c k : Nat) (hc : c ≠ 64) : ∀ (n : Nat) (x1 : Int32) (H : Hp) (q : Hp), f_X8_fund_l156 n x1 H = some q → q c k = H c k := by
  intro n
  induction n with
  | zero => intro x1 H q h; simp [f_X8_fund_l156] at h
  | succ n ih =>
    intro x1 H q h
    rw [f_X8_fund_l156] at h
    by_cases c38 : 80 ≤ x1
    · replace h := (if_pos c38).symm.trans h
      obtain rfl := Option.some.inj h
      rfl
    · replace h := (if_neg c38).symm.trans h
      obtain ⟨v30, -, h⟩ := bnd h
      obtain ⟨H31, e_H31, h⟩ := bnd h
      have g_H31 := as_fr (c := c) (k := k) e_H31 hc
      exact (ih (x1 + 1) H31 q h).trans g_H31
theorem fr_X8_fund_l156{n : Nat} {x1 : Int32} {H : Hp} {q : Hp} (h : f_X8_fund_l156 n x1 H = some q) (c k : Nat) (hc : c ≠ 64) : q c k = H c k := fr_X8_fund_l156_i c k hc n x1 H q h
theorem fr_X8_fund {H : Hp} {q : Int32 × Hp} (h : f_X8_fund H = some q) (c k : Nat) (hc : c ≠ 64 ∧ c ≠ 65 ∧ ¬ (c = 60 ∧ k = 0) ∧ ¬ (c = 60 ∧ k = 11) ∧ ¬ (c = 60 ∧ k = 12) ∧ ¬ (c = 60 ∧ k = 13) ∧ ¬ (c = 60 ∧ k = 14) ∧ ¬ (c = 60 ∧ k = 15) ∧ ¬ (c = 60 ∧ k = 16) ∧ ¬ (c = 60 ∧ k = 17) ∧ ¬ (c = 60 ∧ k = 18) ∧ ¬ (c = 60 ∧ k = 9)) : q.2 c k = H c k := by
  unfold f_X8_fund at h
  obtain ⟨H1, e_H1, h⟩ := bnd h
  have g_H1 := pf_fr (c := c) (k := k) e_H1 hc.2.2.1
  obtain ⟨H2, e_H2, h⟩ := bnd h
  have g_H2 := fr_X8_begin e_H2 c k ⟨hc.2.2.2.2.1, hc.2.2.2.2.2.1, hc.2.2.2.2.2.2.1, hc.2.2.2.2.2.2.2.1, hc.2.2.2.2.2.2.2.2.1⟩
  obtain ⟨l8, e_l8, h⟩ := bnd h
  have g_l8 := fr_X8_fund_l11 e_l8 c k hc.2.1
  obtain ⟨v9, -, h⟩ := bnd h
  obtain ⟨H10, e_H10, h⟩ := bnd h
  have g_H10 := fr_X8_must e_H10 c k ⟨hc.2.2.2.2.1, hc.2.2.2.2.2.1, hc.2.2.2.2.2.2.1, hc.2.2.2.2.2.2.2.1, hc.2.2.2.2.2.2.2.2.1, hc.2.2.2.2.2.2.2.2.2.1⟩
  obtain ⟨q11, e_q11, h⟩ := bnd h
  have g_q11 := fr_X8_number e_q11 c k ⟨hc.2.2.2.2.1, hc.2.2.2.2.2.1, hc.2.2.2.2.2.2.1, hc.2.2.2.2.2.2.2.1, hc.2.2.2.2.2.2.2.2.1, hc.2.2.2.2.2.2.2.2.2.1⟩
  obtain ⟨H12, e_H12, h⟩ := bnd h
  have g_H12 := as_fr (c := c) (k := k) e_H12 hc.2.1
  obtain ⟨H13, e_H13, h⟩ := bnd h
  have g_H13 := fr_X8_mustSign e_H13 c k ⟨hc.2.2.2.2.1, hc.2.2.2.2.2.1, hc.2.2.2.2.2.2.1, hc.2.2.2.2.2.2.2.1, hc.2.2.2.2.2.2.2.2.1, hc.2.2.2.2.2.2.2.2.2.1⟩
  obtain ⟨q14, e_q14, h⟩ := bnd h
  have g_q14 := fr_X8_number e_q14 c k ⟨hc.2.2.2.2.1, hc.2.2.2.2.2.1, hc.2.2.2.2.2.2.1, hc.2.2.2.2.2.2.2.1, hc.2.2.2.2.2.2.2.2.1, hc.2.2.2.2.2.2.2.2.2.1⟩
  obtain ⟨H15, e_H15, h⟩ := bnd h
  have g_H15 := as_fr (c := c) (k := k) e_H15 hc.2.1
  obtain ⟨H16, e_H16, h⟩ := bnd h
  have g_H16 := fr_X8_mustSign e_H16 c k ⟨hc.2.2.2.2.1, hc.2.2.2.2.2.1, hc.2.2.2.2.2.2.1, hc.2.2.2.2.2.2.2.1, hc.2.2.2.2.2.2.2.2.1, hc.2.2.2.2.2.2.2.2.2.1⟩
  obtain ⟨v17, -, h⟩ := bnd h
  obtain ⟨j19, e_j19, h⟩ := bnd h
  have g_j19 : j19 c k = H c k := by
    by_cases c39 : v17 = 0
    · replace e_j19 := (if_pos c39).symm.trans e_j19
      obtain ⟨H18, e_H18, e_j19⟩ := bnd e_j19
      have g_H18 := fr_X8_bad e_H18 c k ⟨hc.2.2.2.2.2.2.2.2.1, hc.2.2.2.2.2.2.2.2.2.1⟩
      obtain rfl := Option.some.inj e_j19
      exact (g_H18.trans (g_H16.trans (g_H15.trans (g_q14.trans (g_H13.trans (g_H12.trans (g_q11.trans (g_H10.trans (g_l8.trans (g_H2.trans g_H1))))))))))
    · replace e_j19 := (if_neg c39).symm.trans e_j19
      obtain rfl := Option.some.inj e_j19
      exact (g_H16.trans (g_H15.trans (g_q14.trans (g_H13.trans (g_H12.trans (g_q11.trans (g_H10.trans (g_l8.trans (g_H2.trans g_H1)))))))))
  obtain ⟨l23, e_l23, h⟩ := bnd h
  have g_l23 := fr_X8_fund_l106 e_l23 c k ⟨hc.2.1, hc.2.2.2.2.1, hc.2.2.2.2.2.1, hc.2.2.2.2.2.2.1, hc.2.2.2.2.2.2.2.1, hc.2.2.2.2.2.2.2.2.1, hc.2.2.2.2.2.2.2.2.2.1⟩
  obtain ⟨l27, e_l27, h⟩ := bnd h
  have g_l27 := fr_X8_fund_l120 e_l27 c k ⟨hc.2.1, hc.2.2.2.2.1, hc.2.2.2.2.2.1, hc.2.2.2.2.2.2.1, hc.2.2.2.2.2.2.2.1, hc.2.2.2.2.2.2.2.2.1, hc.2.2.2.2.2.2.2.2.2.1⟩
  obtain ⟨q28, e_q28, h⟩ := bnd h
  have g_q28 := fr_X8_failed e_q28 c k ⟨hc.2.2.2.1, hc.2.2.2.2.2.2.2.2.1, hc.2.2.2.2.2.2.2.2.2.1, hc.2.2.2.2.2.2.2.2.2.2.1⟩
  by_cases c40 : q28.1 = 0
  · replace h := (if_pos c40).symm.trans h
    obtain ⟨H29, e_H29, h⟩ := bnd h
    have g_H29 := pf_fr (c := c) (k := k) e_H29 hc.2.2.2.2.2.2.2.2.2.2.2
    obtain ⟨l33, e_l33, h⟩ := bnd h
    have g_l33 := fr_X8_fund_l156 e_l33 c k hc.1
    obtain ⟨v34, -, h⟩ := bnd h
    obtain rfl := Option.some.inj h; exact (g_l33.trans (g_H29.trans (g_q28.trans (g_l27.trans (g_l23.trans g_j19)))))
  · replace h := (if_neg c40).symm.trans h
    obtain rfl := Option.some.inj h; exact (g_q28.trans (g_l27.trans (g_l23.trans g_j19)))
theorem fr_X8_keep_l11_i (c k : Nat) (hc : c ≠ 67) : ∀ (n : Nat) (x1 : Int32) (H : Hp) (q : Hp), f_X8_keep_l11 n x1 H = some q → q c k = H c k := by
  intro n
  induction n with
  | zero => intro x1 H q h; simp [f_X8_keep_l11] at h
  | succ n ih =>
    intro x1 H q h
    rw [f_X8_keep_l11] at h
    by_cases c12 : 1840 ≤ x1
    · replace h := (if_pos c12).symm.trans h
      obtain rfl := Option.some.inj h
      rfl
    · replace h := (if_neg c12).symm.trans h
      obtain ⟨v1, -, h⟩ := bnd h
      obtain ⟨H2, e_H2, h⟩ := bnd h
      have g_H2 := as_fr (c := c) (k := k) e_H2 hc
      exact (ih (x1 + 1) H2 q h).trans g_H2
theorem fr_X8_keep_l11{n : Nat} {x1 : Int32} {H : Hp} {q : Hp} (h : f_X8_keep_l11 n x1 H = some q) (c k : Nat) (hc : c ≠ 67) : q c k = H c k := fr_X8_keep_l11_i c k hc n x1 H q h
theorem fr_X8_keep_l51_i (c k : Nat) (hc : c ≠ 67) : ∀ (n : Nat) (x1 : Int32) (H : Hp) (q : Hp), f_X8_keep_l51 n x1 H = some q → q c k = H c k := by
  intro n
  induction n with
  | zero => intro x1 H q h; simp [f_X8_keep_l51] at h
  | succ n ih =>
    intro x1 H q h
    rw [f_X8_keep_l51] at h
    by_cases c13 : 80 ≤ x1
    · replace h := (if_pos c13).symm.trans h
      obtain rfl := Option.some.inj h
      rfl
    · replace h := (if_neg c13).symm.trans h
      obtain ⟨v7, -, h⟩ := bnd h
      obtain ⟨H8, e_H8, h⟩ := bnd h
      have g_H8 := as_fr (c := c) (k := k) e_H8 hc
      exact (ih (x1 + 1) H8 q h).trans g_H8
theorem fr_X8_keep_l51{n : Nat} {x1 : Int32} {H : Hp} {q : Hp} (h : f_X8_keep_l51 n x1 H = some q) (c k : Nat) (hc : c ≠ 67) : q c k = H c k := fr_X8_keep_l51_i c k hc n x1 H q h
theorem fr_X8_keep {H : Hp} {q : Hp} (h : f_X8_keep H = some q) (c k : Nat) (hc : c ≠ 67 ∧ ¬ (c = 60 ∧ k = 9)) : q c k = H c k := by
  unfold f_X8_keep at h
  obtain ⟨j6, e_j6, h⟩ := bnd h
  have g_j6 : j6 c k = H c k := by
    by_cases c14 : (H 60 9) = 24
    · replace e_j6 := (if_pos c14).symm.trans e_j6
      obtain ⟨l4, e_l4, e_j6⟩ := bnd e_j6
      have g_l4 := fr_X8_keep_l11 e_l4 c k hc.1
      obtain ⟨H5, e_H5, e_j6⟩ := bnd e_j6
      have g_H5 := pf_fr (c := c) (k := k) e_H5 hc.2
      obtain rfl := Option.some.inj e_j6
      exact (g_H5.trans g_l4)
    · replace e_j6 := (if_neg c14).symm.trans e_j6
      obtain rfl := Option.some.inj e_j6
      rfl
  obtain ⟨l10, e_l10, h⟩ := bnd h
  have g_l10 := fr_X8_keep_l51 e_l10 c k hc.1
  obtain ⟨H11, e_H11, h⟩ := bnd h
  have g_H11 := pf_fr (c := c) (k := k) e_H11 hc.2
  obtain rfl := Option.some.inj h; exact (g_H11.trans (g_l10.trans g_j6))
theorem fr_X8_give {x1 : Int32} {x2 : Int32} {x3 : Int32} {H : Hp} {q : Int32 × Hp} (h : f_X8_give x1 x2 x3 H = some q) (c k : Nat) (hc : c ≠ 64 ∧ c ≠ 67 ∧ ¬ (c = 60 ∧ k = 0) ∧ ¬ (c = 60 ∧ k = 9)) : q.2 c k = H c k := by
  unfold f_X8_give at h
  obtain ⟨H1, e_H1, h⟩ := bnd h
  have g_H1 := pf_fr (c := c) (k := k) e_H1 hc.2.2.1
  obtain ⟨v2, -, h⟩ := bnd h
  by_cases c8 : v2 = 0
  · replace h := (if_pos c8).symm.trans h
    obtain rfl := Option.some.inj h; exact g_H1
  · replace h := (if_neg c8).symm.trans h
    obtain ⟨v3, -, h⟩ := bnd h
    by_cases c9 : v3 = 0
    · replace h := (if_pos c9).symm.trans h
      obtain rfl := Option.some.inj h; exact g_H1
    · replace h := (if_neg c9).symm.trans h
      obtain ⟨v4, -, h⟩ := bnd h
      by_cases c10 : v4 = 20
      · replace h := (if_pos c10).symm.trans h
        obtain rfl := Option.some.inj h; exact g_H1
      · replace h := (if_neg c10).symm.trans h
        obtain ⟨H5, e_H5, h⟩ := bnd h
        have g_H5 := fr_X8_keep e_H5 c k ⟨hc.2.1, hc.2.2.2⟩
        obtain ⟨H6, e_H6, h⟩ := bnd h
        have g_H6 := fr_X8_put e_H6 c k hc.1
        obtain ⟨v7, -, h⟩ := bnd h
        obtain rfl := Option.some.inj h; exact (g_H6.trans (g_H5.trans g_H1))
theorem fr_X8_back_l42_i (c k : Nat) (hc : c ≠ 64) : ∀ (n : Nat) (x3 : Int32) (H : Hp) (q : Hp), f_X8_back_l42 n x3 H = some q → q c k = H c k := by
  intro n
  induction n with
  | zero => intro x3 H q h; simp [f_X8_back_l42] at h
  | succ n ih =>
    intro x3 H q h
    rw [f_X8_back_l42] at h
    obtain ⟨v7, -, h⟩ := bnd h
    by_cases c16 : v7 ≤ x3
    · replace h := (if_pos c16).symm.trans h
      obtain rfl := Option.some.inj h
      rfl
    · replace h := (if_neg c16).symm.trans h
      obtain ⟨v8, -, h⟩ := bnd h
      obtain ⟨v9, -, h⟩ := bnd h
      obtain ⟨v10, -, h⟩ := bnd h
      obtain ⟨H11, e_H11, h⟩ := bnd h
      have g_H11 := fr_X8_lay e_H11 c k hc
      exact (ih (x3 + 1) H11 q h).trans g_H11
theorem fr_X8_back_l42{n : Nat} {x3 : Int32} {H : Hp} {q : Hp} (h : f_X8_back_l42 n x3 H = some q) (c k : Nat) (hc : c ≠ 64) : q c k = H c k := fr_X8_back_l42_i c k hc n x3 H q h
theorem fr_X8_back {x1 : Int32} {H : Hp} {q : Int32 × Hp} (h : f_X8_back x1 H = some q) (c k : Nat) (hc : c ≠ 64 ∧ c ≠ 67 ∧ ¬ (c = 60 ∧ k = 0) ∧ ¬ (c = 60 ∧ k = 9)) : q.2 c k = H c k := by
  unfold f_X8_back at h
  obtain ⟨H1, e_H1, h⟩ := bnd h
  have g_H1 := pf_fr (c := c) (k := k) e_H1 hc.2.2.1
  obtain ⟨v2, -, h⟩ := bnd h
  by_cases c17 : v2 = 0
  · replace h := (if_pos c17).symm.trans h
    obtain rfl := Option.some.inj h; exact g_H1
  · replace h := (if_neg c17).symm.trans h
    obtain ⟨H3, e_H3, h⟩ := bnd h
    have g_H3 := fr_X8_keep e_H3 c k ⟨hc.2.1, hc.2.2.2⟩
    obtain ⟨v4, -, h⟩ := bnd h
    obtain ⟨v5, -, h⟩ := bnd h
    obtain ⟨H6, e_H6, h⟩ := bnd h
    have g_H6 := as_fr (c := c) (k := k) e_H6 hc.1
    obtain ⟨l13, e_l13, h⟩ := bnd h
    have g_l13 := fr_X8_back_l42 e_l13 c k hc.1
    obtain ⟨v14, -, h⟩ := bnd h
    obtain ⟨H15, e_H15, h⟩ := bnd h
    have g_H15 := fr_X8_lay e_H15 c k hc.1
    obtain rfl := Option.some.inj h; exact (g_H15.trans (g_l13.trans (g_H6.trans (g_H3.trans g_H1))))
theorem fr_X8_pot {x1 : Int32} {H : Hp} {q : Int32 × Hp} (h : f_X8_pot x1 H = some q) (c k : Nat) (hc : c ≠ 64 ∧ c ≠ 67 ∧ ¬ (c = 60 ∧ k = 0) ∧ ¬ (c = 60 ∧ k = 9)) : q.2 c k = H c k := by
  unfold f_X8_pot at h
  obtain ⟨H1, e_H1, h⟩ := bnd h
  have g_H1 := pf_fr (c := c) (k := k) e_H1 hc.2.2.1
  obtain ⟨v2, -, h⟩ := bnd h
  by_cases c7 : v2 = 0
  · replace h := (if_pos c7).symm.trans h
    obtain rfl := Option.some.inj h; exact g_H1
  · replace h := (if_neg c7).symm.trans h
    obtain ⟨v3, -, h⟩ := bnd h
    by_cases c8 : v3 = 0
    · replace h := (if_pos c8).symm.trans h
      obtain rfl := Option.some.inj h; exact g_H1
    · replace h := (if_neg c8).symm.trans h
      obtain ⟨H4, e_H4, h⟩ := bnd h
      have g_H4 := fr_X8_keep e_H4 c k ⟨hc.2.1, hc.2.2.2⟩
      obtain ⟨v5, -, h⟩ := bnd h
      obtain ⟨H6, e_H6, h⟩ := bnd h
      have g_H6 := as_fr (c := c) (k := k) e_H6 hc.1
      obtain rfl := Option.some.inj h; exact (g_H6.trans (g_H4.trans g_H1))
theorem fr_X8_become {x1 : Int32} {x2 : Int32} {H : Hp} {q : Int32 × Hp} (h : f_X8_become x1 x2 H = some q) (c k : Nat) (hc : c ≠ 64 ∧ c ≠ 67 ∧ ¬ (c = 60 ∧ k = 0) ∧ ¬ (c = 60 ∧ k = 9)) : q.2 c k = H c k := by
  unfold f_X8_become at h
  obtain ⟨H1, e_H1, h⟩ := bnd h
  have g_H1 := pf_fr (c := c) (k := k) e_H1 hc.2.2.1
  obtain ⟨v2, -, h⟩ := bnd h
  by_cases c7 : v2 = 0
  · replace h := (if_pos c7).symm.trans h
    obtain rfl := Option.some.inj h; exact g_H1
  · replace h := (if_neg c7).symm.trans h
    obtain ⟨v3, -, h⟩ := bnd h
    by_cases c8 : v3 = 0
    · replace h := (if_pos c8).symm.trans h
      obtain rfl := Option.some.inj h; exact g_H1
    · replace h := (if_neg c8).symm.trans h
      obtain ⟨v4, -, h⟩ := bnd h
      by_cases c9 : v4 = x2
      · replace h := (if_pos c9).symm.trans h
        obtain rfl := Option.some.inj h; exact g_H1
      · replace h := (if_neg c9).symm.trans h
        obtain ⟨H5, e_H5, h⟩ := bnd h
        have g_H5 := fr_X8_keep e_H5 c k ⟨hc.2.1, hc.2.2.2⟩
        obtain ⟨H6, e_H6, h⟩ := bnd h
        have g_H6 := as_fr (c := c) (k := k) e_H6 hc.1
        obtain rfl := Option.some.inj h; exact (g_H6.trans (g_H5.trans g_H1))
theorem fr_X8_one_l84_i {x3 : Int32} {x4 : Int32} (c k : Nat) (hc : c ≠ 64) : ∀ (n : Nat) (x5 : Int32) (H : Hp) (q : Hp), f_X8_one_l84 x3 x4 n x5 H = some q → q c k = H c k := by
  intro n
  induction n with
  | zero => intro x5 H q h; simp [f_X8_one_l84] at h
  | succ n ih =>
    intro x5 H q h
    rw [f_X8_one_l84] at h
    by_cases c16 : 10 ≤ x5
    · replace h := (if_pos c16).symm.trans h
      obtain rfl := Option.some.inj h
      rfl
    · replace h := (if_neg c16).symm.trans h
      obtain ⟨v8, -, h⟩ := bnd h
      obtain ⟨j10, -, h⟩ := bnd h
      obtain ⟨H11, e_H11, h⟩ := bnd h
      have g_H11 := as_fr (c := c) (k := k) e_H11 hc
      exact (ih (x5 + 1) H11 q h).trans g_H11
theorem fr_X8_one_l84 {x3 : Int32} {x4 : Int32}{n : Nat} {x5 : Int32} {H : Hp} {q : Hp} (h : f_X8_one_l84 x3 x4 n x5 H = some q) (c k : Nat) (hc : c ≠ 64) : q c k = H c k := fr_X8_one_l84_i c k hc n x5 H q h
theorem fr_X8_one {x1 : Int32} {x2 : Int32} {H : Hp} {q : Int32 × Hp} (h : f_X8_one x1 x2 H = some q) (c k : Nat) (hc : c ≠ 64 ∧ c ≠ 67 ∧ ¬ (c = 60 ∧ k = 0) ∧ ¬ (c = 60 ∧ k = 9)) : q.2 c k = H c k := by
  unfold f_X8_one at h
  obtain ⟨H1, e_H1, h⟩ := bnd h
  have g_H1 := pf_fr (c := c) (k := k) e_H1 hc.2.2.1
  obtain ⟨v2, -, h⟩ := bnd h
  by_cases c17 : v2 = 0
  · replace h := (if_pos c17).symm.trans h
    obtain rfl := Option.some.inj h; exact g_H1
  · replace h := (if_neg c17).symm.trans h
    obtain ⟨v3, -, h⟩ := bnd h
    by_cases c18 : v3 = 0
    · replace h := (if_pos c18).symm.trans h
      obtain rfl := Option.some.inj h; exact g_H1
    · replace h := (if_neg c18).symm.trans h
      obtain ⟨v4, -, h⟩ := bnd h
      by_cases c19 : v4 = 0
      · replace h := (if_pos c19).symm.trans h
        obtain rfl := Option.some.inj h; exact g_H1
      · replace h := (if_neg c19).symm.trans h
        by_cases c20 : x1 = x2
        · replace h := (if_pos c20).symm.trans h
          obtain rfl := Option.some.inj h; exact g_H1
        · replace h := (if_neg c20).symm.trans h
          obtain ⟨v5, -, h⟩ := bnd h
          obtain ⟨v6, -, h⟩ := bnd h
          by_cases c21 : v5 = v6
          · replace h := (if_pos c21).symm.trans h
            obtain rfl := Option.some.inj h; exact g_H1
          · replace h := (if_neg c21).symm.trans h
            obtain ⟨H7, e_H7, h⟩ := bnd h
            have g_H7 := fr_X8_keep e_H7 c k ⟨hc.2.1, hc.2.2.2⟩
            obtain ⟨l15, e_l15, h⟩ := bnd h
            have g_l15 := fr_X8_one_l84 e_l15 c k hc.1
            obtain rfl := Option.some.inj h; exact (g_l15.trans (g_H7.trans g_H1))
theorem fr_X8_undo_l27_i (c k : Nat) (hc : c ≠ 64) : ∀ (n : Nat) (x1 : Int32) (H : Hp) (q : Hp), f_X8_undo_l27 n x1 H = some q → q c k = H c k := by
  intro n
  induction n with
  | zero => intro x1 H q h; simp [f_X8_undo_l27] at h
  | succ n ih =>
    intro x1 H q h
    rw [f_X8_undo_l27] at h
    by_cases c7 : 80 ≤ x1
    · replace h := (if_pos c7).symm.trans h
      obtain rfl := Option.some.inj h
      rfl
    · replace h := (if_neg c7).symm.trans h
      obtain ⟨v3, -, h⟩ := bnd h
      obtain ⟨H4, e_H4, h⟩ := bnd h
      have g_H4 := as_fr (c := c) (k := k) e_H4 hc
      exact (ih (x1 + 1) H4 q h).trans g_H4
theorem fr_X8_undo_l27{n : Nat} {x1 : Int32} {H : Hp} {q : Hp} (h : f_X8_undo_l27 n x1 H = some q) (c k : Nat) (hc : c ≠ 64) : q c k = H c k := fr_X8_undo_l27_i c k hc n x1 H q h
theorem fr_X8_undo {H : Hp} {q : Int32 × Hp} (h : f_X8_undo H = some q) (c k : Nat) (hc : c ≠ 64 ∧ ¬ (c = 60 ∧ k = 0) ∧ ¬ (c = 60 ∧ k = 9)) : q.2 c k = H c k := by
  unfold f_X8_undo at h
  obtain ⟨H1, e_H1, h⟩ := bnd h
  have g_H1 := pf_fr (c := c) (k := k) e_H1 hc.2.1
  by_cases c8 : (H1 60 9) = 0
  · replace h := (if_pos c8).symm.trans h
    obtain rfl := Option.some.inj h; exact g_H1
  · replace h := (if_neg c8).symm.trans h
    obtain ⟨H2, e_H2, h⟩ := bnd h
    have g_H2 := pf_fr (c := c) (k := k) e_H2 hc.2.2
    obtain ⟨l6, e_l6, h⟩ := bnd h
    have g_l6 := fr_X8_undo_l27 e_l6 c k hc.1
    obtain rfl := Option.some.inj h; exact (g_l6.trans (g_H2.trans g_H1))
theorem fr_X8_gift {x1 : Int32} {x2 : Int32} {H : Hp} {q : Int32 × Hp} (h : f_X8_gift x1 x2 H = some q) (c k : Nat) (hc : ¬ (c = 60 ∧ k = 0)) : q.2 c k = H c k := by
  unfold f_X8_gift at h
  obtain ⟨H1, e_H1, h⟩ := bnd h
  have g_H1 := pf_fr (c := c) (k := k) e_H1 hc
  obtain ⟨v2, -, h⟩ := bnd h
  obtain ⟨j5, -, h⟩ := bnd h
  obtain rfl := Option.some.inj h; exact g_H1
theorem fr_X8_nameOf {x1 : Int32} {H : Hp} {q : Int32 × Hp} (h : f_X8_nameOf x1 H = some q) (c k : Nat) (hc : ¬ (c = 60 ∧ k = 0)) : q.2 c k = H c k := by
  unfold f_X8_nameOf at h
  obtain ⟨H1, e_H1, h⟩ := bnd h
  have g_H1 := pf_fr (c := c) (k := k) e_H1 hc
  obtain ⟨v2, -, h⟩ := bnd h
  by_cases c6 : v2 = 0
  · replace h := (if_pos c6).symm.trans h
    obtain rfl := Option.some.inj h; exact g_H1
  · replace h := (if_neg c6).symm.trans h
    obtain ⟨v3, -, h⟩ := bnd h
    obtain ⟨j5, -, h⟩ := bnd h
    obtain rfl := Option.some.inj h; exact g_H1
theorem fr_X8_root {x1 : Int32} {H : Hp} {q : Int32 × Hp} (h : f_X8_root x1 H = some q) (c k : Nat) (hc : ¬ (c = 60 ∧ k = 0)) : q.2 c k = H c k := by
  unfold f_X8_root at h
  obtain ⟨H1, e_H1, h⟩ := bnd h
  have g_H1 := pf_fr (c := c) (k := k) e_H1 hc
  obtain ⟨v2, -, h⟩ := bnd h
  obtain ⟨j4, -, h⟩ := bnd h
  obtain rfl := Option.some.inj h; exact g_H1
theorem fr_X8_lookAt_l2_i {r : Nat} (c k : Nat) (hc : c ≠ 69) : ∀ (n : Nat) (x2 : Int32) (H : Hp) (q : Hp), f_X8_lookAt_l2 r n x2 H = some q → q c k = H c k := by
  intro n
  induction n with
  | zero => intro x2 H q h; simp [f_X8_lookAt_l2] at h
  | succ n ih =>
    intro x2 H q h
    rw [f_X8_lookAt_l2] at h
    by_cases c31 : 60 ≤ x2
    · replace h := (if_pos c31).symm.trans h
      obtain rfl := Option.some.inj h
      rfl
    · replace h := (if_neg c31).symm.trans h
      obtain ⟨H1, e_H1, h⟩ := bnd h
      have g_H1 := as_fr (c := c) (k := k) e_H1 hc
      exact (ih (x2 + 1) H1 q h).trans g_H1
theorem fr_X8_lookAt_l2 {r : Nat}{n : Nat} {x2 : Int32} {H : Hp} {q : Hp} (h : f_X8_lookAt_l2 r n x2 H = some q) (c k : Nat) (hc : c ≠ 69) : q c k = H c k := fr_X8_lookAt_l2_i c k hc n x2 H q h
theorem fr_X8_lookAt_l23_i {r : Nat} (c k : Nat) (hc : c ≠ 69) : ∀ (n : Nat) (x2 : Int32) (H : Hp) (q : Hp), f_X8_lookAt_l23 r n x2 H = some q → q c k = H c k := by
  intro n
  induction n with
  | zero => intro x2 H q h; simp [f_X8_lookAt_l23] at h
  | succ n ih =>
    intro x2 H q h
    rw [f_X8_lookAt_l23] at h
    obtain ⟨v4, -, h⟩ := bnd h
    by_cases c32 : v4 ≤ x2
    · replace h := (if_pos c32).symm.trans h
      obtain rfl := Option.some.inj h
      rfl
    · replace h := (if_neg c32).symm.trans h
      obtain ⟨v5, -, h⟩ := bnd h
      obtain ⟨v6, -, h⟩ := bnd h
      obtain ⟨v7, -, h⟩ := bnd h
      obtain ⟨v8, -, h⟩ := bnd h
      obtain ⟨v9, -, h⟩ := bnd h
      obtain ⟨H10, e_H10, h⟩ := bnd h
      have g_H10 := as_fr (c := c) (k := k) e_H10 hc
      exact (ih (x2 + 1) H10 q h).trans g_H10
theorem fr_X8_lookAt_l23 {r : Nat}{n : Nat} {x2 : Int32} {H : Hp} {q : Hp} (h : f_X8_lookAt_l23 r n x2 H = some q) (c k : Nat) (hc : c ≠ 69) : q c k = H c k := fr_X8_lookAt_l23_i c k hc n x2 H q h
theorem fr_X8_lookAt_l73_i {r : Nat} (c k : Nat) (hc : c ≠ 70) : ∀ (n : Nat) (x2 : Int32) (H : Hp) (q : Hp), f_X8_lookAt_l73 r n x2 H = some q → q c k = H c k := by
  intro n
  induction n with
  | zero => intro x2 H q h; simp [f_X8_lookAt_l73] at h
  | succ n ih =>
    intro x2 H q h
    rw [f_X8_lookAt_l73] at h
    by_cases c33 : 60 ≤ x2
    · replace h := (if_pos c33).symm.trans h
      obtain rfl := Option.some.inj h
      rfl
    · replace h := (if_neg c33).symm.trans h
      obtain ⟨v13, -, h⟩ := bnd h
      obtain ⟨j16, -, h⟩ := bnd h
      obtain ⟨H17, e_H17, h⟩ := bnd h
      have g_H17 := as_fr (c := c) (k := k) e_H17 hc
      exact (ih (x2 + 1) H17 q h).trans g_H17
theorem fr_X8_lookAt_l73 {r : Nat}{n : Nat} {x2 : Int32} {H : Hp} {q : Hp} (h : f_X8_lookAt_l73 r n x2 H = some q) (c k : Nat) (hc : c ≠ 70) : q c k = H c k := fr_X8_lookAt_l73_i c k hc n x2 H q h
theorem fr_X8_lookAt_l123_i {r : Nat} {x2 : Int32} (c k : Nat) (hc : c ≠ 71) : ∀ (n : Nat) (x3 : Int32) (H : Hp) (q : Hp), f_X8_lookAt_l123 r x2 n x3 H = some q → q c k = H c k := by
  intro n
  induction n with
  | zero => intro x3 H q h; simp [f_X8_lookAt_l123] at h
  | succ n ih =>
    intro x3 H q h
    rw [f_X8_lookAt_l123] at h
    by_cases c34 : 10 ≤ x3
    · replace h := (if_pos c34).symm.trans h
      obtain rfl := Option.some.inj h
      rfl
    · replace h := (if_neg c34).symm.trans h
      obtain ⟨l25, -, h⟩ := bnd h
      obtain ⟨H26, e_H26, h⟩ := bnd h
      have g_H26 := as_fr (c := c) (k := k) e_H26 hc
      exact (ih (x3 + 1) H26 q h).trans g_H26
theorem fr_X8_lookAt_l123 {r : Nat} {x2 : Int32}{n : Nat} {x3 : Int32} {H : Hp} {q : Hp} (h : f_X8_lookAt_l123 r x2 n x3 H = some q) (c k : Nat) (hc : c ≠ 71) : q c k = H c k := fr_X8_lookAt_l123_i c k hc n x3 H q h
theorem fr_X8_lookAt_l115_i {r : Nat} (c k : Nat) (hc : c ≠ 71) : ∀ (n : Nat) (x2 : Int32) (H : Hp) (q : Hp), f_X8_lookAt_l115 r n x2 H = some q → q c k = H c k := by
  intro n
  induction n with
  | zero => intro x2 H q h; simp [f_X8_lookAt_l115] at h
  | succ n ih =>
    intro x2 H q h
    rw [f_X8_lookAt_l115] at h
    by_cases c35 : 10 ≤ x2
    · replace h := (if_pos c35).symm.trans h
      obtain rfl := Option.some.inj h
      rfl
    · replace h := (if_neg c35).symm.trans h
      obtain ⟨l28, e_l28, h⟩ := bnd h
      have g_l28 := fr_X8_lookAt_l123 e_l28 c k hc
      exact (ih (x2 + 1) l28 q h).trans g_l28
theorem fr_X8_lookAt_l115 {r : Nat}{n : Nat} {x2 : Int32} {H : Hp} {q : Hp} (h : f_X8_lookAt_l115 r n x2 H = some q) (c k : Nat) (hc : c ≠ 71) : q c k = H c k := fr_X8_lookAt_l115_i c k hc n x2 H q h
theorem fr_X8_lookAt {r : Nat} {H : Hp} {q : Hp} (h : f_X8_lookAt r H = some q) (c k : Nat) (hc : c ≠ 69 ∧ c ≠ 70 ∧ c ≠ 71) : q c k = H c k := by
  unfold f_X8_lookAt at h
  obtain ⟨l3, e_l3, h⟩ := bnd h
  have g_l3 := fr_X8_lookAt_l2 e_l3 c k hc.1
  obtain ⟨l12, e_l12, h⟩ := bnd h
  have g_l12 := fr_X8_lookAt_l23 e_l12 c k hc.1
  obtain ⟨l21, e_l21, h⟩ := bnd h
  have g_l21 := fr_X8_lookAt_l73 e_l21 c k hc.2.1
  obtain ⟨l30, e_l30, h⟩ := bnd h
  have g_l30 := fr_X8_lookAt_l115 e_l30 c k hc.2.2
  obtain rfl := Option.some.inj h; exact (g_l30.trans (g_l21.trans (g_l12.trans g_l3)))
theorem fr_X8_sum {x1 : Int32} {x2 : Int32} {H : Hp} {q : Int32 × Hp} (h : f_X8_sum x1 x2 H = some q) (c k : Nat) (hc : c ≠ 69 ∧ c ≠ 70 ∧ c ≠ 71 ∧ ¬ (c = 60 ∧ k = 0)) : q.2 c k = H c k := by
  unfold f_X8_sum at h
  obtain ⟨H1, e_H1, h⟩ := bnd h
  have g_H1 := pf_fr (c := c) (k := k) e_H1 hc.2.2.2
  obtain ⟨v2, -, h⟩ := bnd h
  by_cases c5 : v2 = 0
  · replace h := (if_pos c5).symm.trans h
    obtain rfl := Option.some.inj h; exact g_H1
  · replace h := (if_neg c5).symm.trans h
    obtain ⟨H3, e_H3, h⟩ := bnd h
    have g_H3 := fr_X8_lookAt e_H3 c k ⟨hc.1, hc.2.1, hc.2.2.1⟩
    obtain ⟨v4, -, h⟩ := bnd h
    obtain rfl := Option.some.inj h; exact (g_H3.trans g_H1)
theorem fr_X8_overlap {x1 : Int32} {x2 : Int32} {H : Hp} {q : Int32 × Hp} (h : f_X8_overlap x1 x2 H = some q) (c k : Nat) (hc : c ≠ 69 ∧ c ≠ 70 ∧ c ≠ 71 ∧ ¬ (c = 60 ∧ k = 0)) : q.2 c k = H c k := by
  unfold f_X8_overlap at h
  obtain ⟨H1, e_H1, h⟩ := bnd h
  have g_H1 := pf_fr (c := c) (k := k) e_H1 hc.2.2.2
  obtain ⟨v2, -, h⟩ := bnd h
  by_cases c7 : v2 = 0
  · replace h := (if_pos c7).symm.trans h
    obtain rfl := Option.some.inj h; exact g_H1
  · replace h := (if_neg c7).symm.trans h
    obtain ⟨v3, -, h⟩ := bnd h
    by_cases c8 : v3 = 0
    · replace h := (if_pos c8).symm.trans h
      obtain rfl := Option.some.inj h; exact g_H1
    · replace h := (if_neg c8).symm.trans h
      obtain ⟨v4, -, h⟩ := bnd h
      by_cases c9 : v4 = 0
      · replace h := (if_pos c9).symm.trans h
        obtain rfl := Option.some.inj h; exact g_H1
      · replace h := (if_neg c9).symm.trans h
        by_cases c10 : x1 = x2
        · replace h := (if_pos c10).symm.trans h
          obtain rfl := Option.some.inj h; exact g_H1
        · replace h := (if_neg c10).symm.trans h
          obtain ⟨H5, e_H5, h⟩ := bnd h
          have g_H5 := fr_X8_lookAt e_H5 c k ⟨hc.1, hc.2.1, hc.2.2.1⟩
          obtain ⟨v6, -, h⟩ := bnd h
          obtain rfl := Option.some.inj h; exact (g_H5.trans g_H1)
theorem fr_X8_term {x1 : Int32} {x2 : Int32} {x3 : Int32} {H : Hp} {q : Int32 × Hp} (h : f_X8_term x1 x2 x3 H = some q) (c k : Nat) (hc : c ≠ 69 ∧ c ≠ 70 ∧ c ≠ 71 ∧ ¬ (c = 60 ∧ k = 0)) : q.2 c k = H c k := by
  unfold f_X8_term at h
  obtain ⟨H1, e_H1, h⟩ := bnd h
  have g_H1 := pf_fr (c := c) (k := k) e_H1 hc.2.2.2
  obtain ⟨v2, -, h⟩ := bnd h
  by_cases c6 : v2 = 0
  · replace h := (if_pos c6).symm.trans h
    obtain rfl := Option.some.inj h; exact g_H1
  · replace h := (if_neg c6).symm.trans h
    obtain ⟨v3, -, h⟩ := bnd h
    by_cases c7 : v3 = 0
    · replace h := (if_pos c7).symm.trans h
      obtain rfl := Option.some.inj h; exact g_H1
    · replace h := (if_neg c7).symm.trans h
      by_cases c8 : x1 = x2
      · replace h := (if_pos c8).symm.trans h
        obtain rfl := Option.some.inj h; exact g_H1
      · replace h := (if_neg c8).symm.trans h
        obtain ⟨H4, e_H4, h⟩ := bnd h
        have g_H4 := fr_X8_lookAt e_H4 c k ⟨hc.1, hc.2.1, hc.2.2.1⟩
        obtain ⟨v5, -, h⟩ := bnd h
        obtain rfl := Option.some.inj h; exact (g_H4.trans g_H1)
theorem fr_X8_pay_l15_i {r : Nat} {x2 : Int32} (c k : Nat) (hc : c ≠ 73 ∧ ¬ (c = 60 ∧ k = 24)) : ∀ (n : Nat) (x3 : Int32) (H : Hp) (q : Hp), f_X8_pay_l15 r x2 n x3 H = some q → q c k = H c k := by
  intro n
  induction n with
  | zero => intro x3 H q h; simp [f_X8_pay_l15] at h
  | succ n ih =>
    intro x3 H q h
    rw [f_X8_pay_l15] at h
    obtain ⟨v4, -, h⟩ := bnd h
    by_cases c35 : v4 ≤ x3
    · replace h := (if_pos c35).symm.trans h
      obtain rfl := Option.some.inj h
      rfl
    · replace h := (if_neg c35).symm.trans h
      obtain ⟨v5, -, h⟩ := bnd h
      obtain ⟨j9, -, h⟩ := bnd h
      obtain ⟨H10, e_H10, h⟩ := bnd h
      have g_H10 := as_fr (c := c) (k := k) e_H10 hc.1
      obtain ⟨v11, -, h⟩ := bnd h
      obtain ⟨H12, e_H12, h⟩ := bnd h
      have g_H12 := pf_fr (c := c) (k := k) e_H12 hc.2
      exact (ih (x3 + 1) H12 q h).trans (g_H12.trans g_H10)
theorem fr_X8_pay_l15 {r : Nat} {x2 : Int32}{n : Nat} {x3 : Int32} {H : Hp} {q : Hp} (h : f_X8_pay_l15 r x2 n x3 H = some q) (c k : Nat) (hc : c ≠ 73 ∧ ¬ (c = 60 ∧ k = 24)) : q c k = H c k := fr_X8_pay_l15_i c k hc n x3 H q h
theorem fr_X8_pay_l83_i {r : Nat} {x2 : Int32} (c k : Nat) (hc : c ≠ 73 ∧ ¬ (c = 60 ∧ k = 24)) : ∀ (n : Nat) (x3 : Int32) (H : Hp) (q : Hp), f_X8_pay_l83 r x2 n x3 H = some q → q c k = H c k := by
  intro n
  induction n with
  | zero => intro x3 H q h; simp [f_X8_pay_l83] at h
  | succ n ih =>
    intro x3 H q h
    rw [f_X8_pay_l83] at h
    obtain ⟨v18, -, h⟩ := bnd h
    by_cases c36 : v18 ≤ x3
    · replace h := (if_pos c36).symm.trans h
      obtain rfl := Option.some.inj h
      rfl
    · replace h := (if_neg c36).symm.trans h
      obtain ⟨v19, -, h⟩ := bnd h
      by_cases c37 : x2 ≤ v19
      · replace h := (if_pos c37).symm.trans h
        obtain rfl := Option.some.inj h
        rfl
      · replace h := (if_neg c37).symm.trans h
        by_cases c38 : (H 60 24) ≤ 0
        · replace h := (if_pos c38).symm.trans h
          obtain rfl := Option.some.inj h
          rfl
        · replace h := (if_neg c38).symm.trans h
          obtain ⟨v20, -, h⟩ := bnd h
          obtain ⟨v21, -, h⟩ := bnd h
          obtain ⟨H22, e_H22, h⟩ := bnd h
          have g_H22 := as_fr (c := c) (k := k) e_H22 hc.1
          obtain ⟨v23, -, h⟩ := bnd h
          obtain ⟨H24, e_H24, h⟩ := bnd h
          have g_H24 := pf_fr (c := c) (k := k) e_H24 hc.2
          exact (ih (x3 + 1) H24 q h).trans (g_H24.trans g_H22)
theorem fr_X8_pay_l83 {r : Nat} {x2 : Int32}{n : Nat} {x3 : Int32} {H : Hp} {q : Hp} (h : f_X8_pay_l83 r x2 n x3 H = some q) (c k : Nat) (hc : c ≠ 73 ∧ ¬ (c = 60 ∧ k = 24)) : q c k = H c k := fr_X8_pay_l83_i c k hc n x3 H q h
theorem fr_X8_pay {r : Nat} {H : Hp} {q : Hp} (h : f_X8_pay r H = some q) (c k : Nat) (hc : c ≠ 73 ∧ ¬ (c = 60 ∧ k = 24)) : q c k = H c k := by
  unfold f_X8_pay at h
  obtain ⟨v1, -, h⟩ := bnd h
  obtain ⟨v2, -, h⟩ := bnd h
  obtain ⟨H3, e_H3, h⟩ := bnd h
  have g_H3 := pf_fr (c := c) (k := k) e_H3 hc.2
  obtain ⟨l17, e_l17, h⟩ := bnd h
  have g_l17 := fr_X8_pay_l15 e_l17 c k ⟨hc.1, hc.2⟩
  obtain ⟨l34, e_l34, h⟩ := bnd h
  have g_l34 := fr_X8_pay_l83 e_l34 c k ⟨hc.1, hc.2⟩
  obtain rfl := Option.some.inj h; exact (g_l34.trans (g_l17.trans g_H3))
theorem fr_X8_reckon_l7_i {r : Nat} (c k : Nat) (hc : c ≠ 72) : ∀ (n : Nat) (x2 : Int32) (H : Hp) (q : Hp), f_X8_reckon_l7 r n x2 H = some q → q c k = H c k := by
  intro n
  induction n with
  | zero => intro x2 H q h; simp [f_X8_reckon_l7] at h
  | succ n ih =>
    intro x2 H q h
    rw [f_X8_reckon_l7] at h
    obtain ⟨v2, -, h⟩ := bnd h
    by_cases c8 : v2 ≤ x2
    · replace h := (if_pos c8).symm.trans h
      obtain rfl := Option.some.inj h
      rfl
    · replace h := (if_neg c8).symm.trans h
      obtain ⟨v3, -, h⟩ := bnd h
      obtain ⟨H4, e_H4, h⟩ := bnd h
      have g_H4 := as_fr (c := c) (k := k) e_H4 hc
      exact (ih (x2 + 1) H4 q h).trans g_H4
theorem fr_X8_reckon_l7 {r : Nat}{n : Nat} {x2 : Int32} {H : Hp} {q : Hp} (h : f_X8_reckon_l7 r n x2 H = some q) (c k : Nat) (hc : c ≠ 72) : q c k = H c k := fr_X8_reckon_l7_i c k hc n x2 H q h
theorem fr_X8_reckon {r : Nat} {H : Hp} {q : Hp} (h : f_X8_reckon r H = some q) (c k : Nat) (hc : c ≠ 69 ∧ c ≠ 70 ∧ c ≠ 71 ∧ c ≠ 72 ∧ c ≠ 73 ∧ ¬ (c = 60 ∧ k = 24)) : q c k = H c k := by
  unfold f_X8_reckon at h
  obtain ⟨H1, e_H1, h⟩ := bnd h
  have g_H1 := fr_X8_lookAt e_H1 c k ⟨hc.1, hc.2.1, hc.2.2.1⟩
  obtain ⟨l6, e_l6, h⟩ := bnd h
  have g_l6 := fr_X8_reckon_l7 e_l6 c k hc.2.2.2.1
  obtain ⟨H7, e_H7, h⟩ := bnd h
  have g_H7 := fr_X8_pay e_H7 c k ⟨hc.2.2.2.2.1, hc.2.2.2.2.2⟩
  obtain rfl := Option.some.inj h; exact (g_H7.trans (g_l6.trans g_H1))
theorem fr_X8_project {x1 : Int32} {x2 : Int32} {H : Hp} {q : Int32 × Hp} (h : f_X8_project x1 x2 H = some q) (c k : Nat) (hc : c ≠ 69 ∧ c ≠ 70 ∧ c ≠ 71 ∧ c ≠ 72 ∧ c ≠ 73 ∧ ¬ (c = 60 ∧ k = 0) ∧ ¬ (c = 60 ∧ k = 24)) : q.2 c k = H c k := by
  unfold f_X8_project at h
  obtain ⟨H1, e_H1, h⟩ := bnd h
  have g_H1 := pf_fr (c := c) (k := k) e_H1 hc.2.2.2.2.2.1
  obtain ⟨v2, -, h⟩ := bnd h
  by_cases c9 : v2 = 0
  · replace h := (if_pos c9).symm.trans h
    obtain rfl := Option.some.inj h; exact g_H1
  · replace h := (if_neg c9).symm.trans h
    obtain ⟨v3, -, h⟩ := bnd h
    by_cases c10 : v3 = 0
    · replace h := (if_pos c10).symm.trans h
      obtain rfl := Option.some.inj h; exact g_H1
    · replace h := (if_neg c10).symm.trans h
      obtain ⟨H4, e_H4, h⟩ := bnd h
      have g_H4 := fr_X8_reckon e_H4 c k ⟨hc.1, hc.2.1, hc.2.2.1, hc.2.2.2.1, hc.2.2.2.2.1, hc.2.2.2.2.2.2⟩
      obtain ⟨j8, -, h⟩ := bnd h
      obtain rfl := Option.some.inj h; exact (g_H4.trans g_H1)
theorem fr_X8_stand {x1 : Int32} {H : Hp} {q : Int32 × Hp} (h : f_X8_stand x1 H = some q) (c k : Nat) (hc : c ≠ 69 ∧ c ≠ 70 ∧ c ≠ 71 ∧ c ≠ 72 ∧ c ≠ 73 ∧ ¬ (c = 60 ∧ k = 0) ∧ ¬ (c = 60 ∧ k = 24)) : q.2 c k = H c k := by
  unfold f_X8_stand at h
  obtain ⟨H1, e_H1, h⟩ := bnd h
  have g_H1 := pf_fr (c := c) (k := k) e_H1 hc.2.2.2.2.2.1
  obtain ⟨v2, -, h⟩ := bnd h
  by_cases c7 : v2 = 0
  · replace h := (if_pos c7).symm.trans h
    obtain rfl := Option.some.inj h; exact g_H1
  · replace h := (if_neg c7).symm.trans h
    obtain ⟨H3, e_H3, h⟩ := bnd h
    have g_H3 := fr_X8_reckon e_H3 c k ⟨hc.1, hc.2.1, hc.2.2.1, hc.2.2.2.1, hc.2.2.2.2.1, hc.2.2.2.2.2.2⟩
    by_cases s8 : x1 = 0
    · replace h := (if_pos s8).symm.trans h
      obtain ⟨v4, -, h⟩ := bnd h
      obtain rfl := Option.some.inj h; exact (g_H3.trans g_H1)
    · replace h := (if_neg s8).symm.trans h
      by_cases s9 : x1 = 1
      · replace h := (if_pos s9).symm.trans h
        obtain ⟨v5, -, h⟩ := bnd h
        obtain rfl := Option.some.inj h; exact (g_H3.trans g_H1)
      · replace h := (if_neg s9).symm.trans h
        by_cases s10 : x1 = 2
        · replace h := (if_pos s10).symm.trans h
          obtain ⟨v6, -, h⟩ := bnd h
          obtain rfl := Option.some.inj h; exact (g_H3.trans g_H1)
        · replace h := (if_neg s10).symm.trans h
          by_cases s11 : x1 = 3
          · replace h := (if_pos s11).symm.trans h
            obtain rfl := Option.some.inj h; exact (g_H3.trans g_H1)
          · replace h := (if_neg s11).symm.trans h
            obtain rfl := Option.some.inj h; exact (g_H3.trans g_H1)
theorem fr_X8_layThen_l2_i (c k : Nat) (hc : c ≠ 66) : ∀ (n : Nat) (x1 : Int32) (H : Hp) (q : Hp), f_X8_layThen_l2 n x1 H = some q → q c k = H c k := by
  intro n
  induction n with
  | zero => intro x1 H q h; simp [f_X8_layThen_l2] at h
  | succ n ih =>
    intro x1 H q h
    rw [f_X8_layThen_l2] at h
    by_cases c5 : 80 ≤ x1
    · replace h := (if_pos c5).symm.trans h
      obtain rfl := Option.some.inj h
      rfl
    · replace h := (if_neg c5).symm.trans h
      obtain ⟨v1, -, h⟩ := bnd h
      obtain ⟨H2, e_H2, h⟩ := bnd h
      have g_H2 := as_fr (c := c) (k := k) e_H2 hc
      exact (ih (x1 + 1) H2 q h).trans g_H2
theorem fr_X8_layThen_l2{n : Nat} {x1 : Int32} {H : Hp} {q : Hp} (h : f_X8_layThen_l2 n x1 H = some q) (c k : Nat) (hc : c ≠ 66) : q c k = H c k := fr_X8_layThen_l2_i c k hc n x1 H q h
theorem fr_X8_layThen {H : Hp} {q : Hp} (h : f_X8_layThen H = some q) (c k : Nat) (hc : c ≠ 66) : q c k = H c k := by
  unfold f_X8_layThen at h
  obtain ⟨l4, e_l4, h⟩ := bnd h
  have g_l4 := fr_X8_layThen_l2 e_l4 c k hc
  obtain rfl := Option.some.inj h; exact g_l4
theorem fr_X8_layGift {x1 : Int32} {x2 : Int32} {x3 : Int32} {H : Hp} {q : Hp} (h : f_X8_layGift x1 x2 x3 H = some q) (c k : Nat) (hc : c ≠ 66 ∧ c ≠ 69 ∧ c ≠ 70 ∧ c ≠ 71 ∧ c ≠ 72 ∧ c ≠ 73 ∧ ¬ (c = 60 ∧ k = 24)) : q c k = H c k := by
  unfold f_X8_layGift at h
  obtain ⟨H1, e_H1, h⟩ := bnd h
  have g_H1 := fr_X8_layThen e_H1 c k hc.1
  obtain ⟨j3, e_j3, h⟩ := bnd h
  have g_j3 : j3 c k = H c k := by
    by_cases c5 : x3 ≤ 0
    · replace e_j3 := (if_pos c5).symm.trans e_j3
      obtain rfl := Option.some.inj e_j3
      exact g_H1
    · replace e_j3 := (if_neg c5).symm.trans e_j3
      obtain ⟨H2, e_H2, e_j3⟩ := bnd e_j3
      have g_H2 := fr_X8_put e_H2 c k hc.1
      obtain rfl := Option.some.inj e_j3
      exact (g_H2.trans g_H1)
  obtain ⟨H4, e_H4, h⟩ := bnd h
  have g_H4 := fr_X8_reckon e_H4 c k ⟨hc.2.1, hc.2.2.1, hc.2.2.2.1, hc.2.2.2.2.1, hc.2.2.2.2.2.1, hc.2.2.2.2.2.2⟩
  obtain rfl := Option.some.inj h; exact (g_H4.trans g_j3)
theorem fr_X8_paidIf {x1 : Int32} {x2 : Int32} {x3 : Int32} {x4 : Int32} {H : Hp} {q : Int32 × Hp} (h : f_X8_paidIf x1 x2 x3 x4 H = some q) (c k : Nat) (hc : c ≠ 66 ∧ c ≠ 69 ∧ c ≠ 70 ∧ c ≠ 71 ∧ c ≠ 72 ∧ c ≠ 73 ∧ ¬ (c = 60 ∧ k = 0) ∧ ¬ (c = 60 ∧ k = 24)) : q.2 c k = H c k := by
  unfold f_X8_paidIf at h
  obtain ⟨H1, e_H1, h⟩ := bnd h
  have g_H1 := pf_fr (c := c) (k := k) e_H1 hc.2.2.2.2.2.2.1
  obtain ⟨v2, -, h⟩ := bnd h
  by_cases c10 : v2 = 0
  · replace h := (if_pos c10).symm.trans h
    obtain rfl := Option.some.inj h; exact g_H1
  · replace h := (if_neg c10).symm.trans h
    obtain ⟨v3, -, h⟩ := bnd h
    by_cases c11 : v3 = 0
    · replace h := (if_pos c11).symm.trans h
      obtain rfl := Option.some.inj h; exact g_H1
    · replace h := (if_neg c11).symm.trans h
      obtain ⟨v4, -, h⟩ := bnd h
      by_cases c12 : v4 = 0
      · replace h := (if_pos c12).symm.trans h
        obtain rfl := Option.some.inj h; exact g_H1
      · replace h := (if_neg c12).symm.trans h
        obtain ⟨v5, -, h⟩ := bnd h
        by_cases c13 : v5 = 20
        · replace h := (if_pos c13).symm.trans h
          by_cases c14 : x3 ≤ 0
          · replace h := (if_pos c14).symm.trans h
            obtain ⟨H6, e_H6, h⟩ := bnd h
            have g_H6 := fr_X8_layGift e_H6 c k ⟨hc.1, hc.2.1, hc.2.2.1, hc.2.2.2.1, hc.2.2.2.2.1, hc.2.2.2.2.2.1, hc.2.2.2.2.2.2.2⟩
            obtain ⟨v7, -, h⟩ := bnd h
            obtain rfl := Option.some.inj h; exact (g_H6.trans g_H1)
          · replace h := (if_neg c14).symm.trans h
            obtain rfl := Option.some.inj h; exact g_H1
        · replace h := (if_neg c13).symm.trans h
          obtain ⟨H8, e_H8, h⟩ := bnd h
          have g_H8 := fr_X8_layGift e_H8 c k ⟨hc.1, hc.2.1, hc.2.2.1, hc.2.2.2.1, hc.2.2.2.2.1, hc.2.2.2.2.2.1, hc.2.2.2.2.2.2.2⟩
          obtain ⟨v9, -, h⟩ := bnd h
          obtain rfl := Option.some.inj h; exact (g_H8.trans g_H1)
theorem fr_X8_best_l72_i {x1 : Int32} {x2 : Int32} (c k : Nat) (hc : c ≠ 66 ∧ c ≠ 69 ∧ c ≠ 70 ∧ c ≠ 71 ∧ c ≠ 72 ∧ c ≠ 73 ∧ ¬ (c = 60 ∧ k = 24)) : ∀ (n : Nat) (x4 : Int32) (x5 : Int32) (x6 : Int32) (H : Hp) (q : Int32 × Int32 × Hp), f_X8_best_l72 x1 x2 n x4 x5 x6 H = some q → q.2.2 c k = H c k := by
  intro n
  induction n with
  | zero => intro x4 x5 x6 H q h; simp [f_X8_best_l72] at h
  | succ n ih =>
    intro x4 x5 x6 H q h
    rw [f_X8_best_l72] at h
    obtain ⟨v7, -, h⟩ := bnd h
    by_cases c20 : v7 ≤ x6
    · replace h := (if_pos c20).symm.trans h
      obtain rfl := Option.some.inj h
      rfl
    · replace h := (if_neg c20).symm.trans h
      obtain ⟨H8, e_H8, h⟩ := bnd h
      have g_H8 := fr_X8_reckon e_H8 c k ⟨hc.2.1, hc.2.2.1, hc.2.2.2.1, hc.2.2.2.2.1, hc.2.2.2.2.2.1, hc.2.2.2.2.2.2⟩
      obtain ⟨v9, -, h⟩ := bnd h
      obtain ⟨H10, e_H10, h⟩ := bnd h
      have g_H10 := fr_X8_layGift e_H10 c k ⟨hc.1, hc.2.1, hc.2.2.1, hc.2.2.2.1, hc.2.2.2.2.1, hc.2.2.2.2.2.1, hc.2.2.2.2.2.2⟩
      obtain ⟨j14, -, h⟩ := bnd h
      exact (ih j14.1 j14.2 (x6 + 1) H10 q h).trans (g_H10.trans g_H8)
theorem fr_X8_best_l72 {x1 : Int32} {x2 : Int32}{n : Nat} {x4 : Int32} {x5 : Int32} {x6 : Int32} {H : Hp} {q : Int32 × Int32 × Hp} (h : f_X8_best_l72 x1 x2 n x4 x5 x6 H = some q) (c k : Nat) (hc : c ≠ 66 ∧ c ≠ 69 ∧ c ≠ 70 ∧ c ≠ 71 ∧ c ≠ 72 ∧ c ≠ 73 ∧ ¬ (c = 60 ∧ k = 24)) : q.2.2 c k = H c k := fr_X8_best_l72_i c k hc n x4 x5 x6 H q h
theorem fr_X8_best {x1 : Int32} {x2 : Int32} {x3 : Int32} {H : Hp} {q : Int32 × Hp} (h : f_X8_best x1 x2 x3 H = some q) (c k : Nat) (hc : c ≠ 66 ∧ c ≠ 69 ∧ c ≠ 70 ∧ c ≠ 71 ∧ c ≠ 72 ∧ c ≠ 73 ∧ ¬ (c = 60 ∧ k = 0) ∧ ¬ (c = 60 ∧ k = 24)) : q.2 c k = H c k := by
  unfold f_X8_best at h
  obtain ⟨H1, e_H1, h⟩ := bnd h
  have g_H1 := pf_fr (c := c) (k := k) e_H1 hc.2.2.2.2.2.2.1
  obtain ⟨v2, -, h⟩ := bnd h
  by_cases c21 : v2 = 0
  · replace h := (if_pos c21).symm.trans h
    obtain rfl := Option.some.inj h; exact g_H1
  · replace h := (if_neg c21).symm.trans h
    obtain ⟨v3, -, h⟩ := bnd h
    by_cases c22 : v3 = 0
    · replace h := (if_pos c22).symm.trans h
      obtain rfl := Option.some.inj h; exact g_H1
    · replace h := (if_neg c22).symm.trans h
      obtain ⟨v4, -, h⟩ := bnd h
      by_cases c23 : v4 = 0
      · replace h := (if_pos c23).symm.trans h
        obtain rfl := Option.some.inj h; exact g_H1
      · replace h := (if_neg c23).symm.trans h
        obtain ⟨v5, -, h⟩ := bnd h
        by_cases c24 : v5 = 0
        · replace h := (if_pos c24).symm.trans h
          obtain rfl := Option.some.inj h; exact g_H1
        · replace h := (if_neg c24).symm.trans h
          obtain ⟨v6, -, h⟩ := bnd h
          by_cases c25 : v6 = 20
          · replace h := (if_pos c25).symm.trans h
            obtain rfl := Option.some.inj h; exact g_H1
          · replace h := (if_neg c25).symm.trans h
            obtain ⟨l19, e_l19, h⟩ := bnd h
            have g_l19 := fr_X8_best_l72 e_l19 c k ⟨hc.1, hc.2.1, hc.2.2.1, hc.2.2.2.1, hc.2.2.2.2.1, hc.2.2.2.2.2.1, hc.2.2.2.2.2.2.2⟩
            obtain rfl := Option.some.inj h; exact (g_l19.trans g_H1)
theorem fr_X8_least_l46_i {x1 : Int32} {x2 : Int32} {x3 : Int32} (c k : Nat) (hc : c ≠ 66 ∧ c ≠ 69 ∧ c ≠ 70 ∧ c ≠ 71 ∧ c ≠ 72 ∧ c ≠ 73 ∧ ¬ (c = 60 ∧ k = 24)) : ∀ (n : Nat) (x4 : Int32) (H : Hp) (q : (Hp) ⊕ (Int32 × Hp)), f_X8_least_l46 x1 x2 x3 n x4 H = some q → (∀ t, q = .inl t → t c k = H c k) ∧ (∀ r, q = .inr r → r.2 c k = H c k) := by
  intro n
  induction n with
  | zero => intro x4 H q h; simp [f_X8_least_l46] at h
  | succ n ih =>
    intro x4 H q h
    rw [f_X8_least_l46] at h
    by_cases c11 : 100 ≤ x4
    · replace h := (if_pos c11).symm.trans h
      obtain rfl := Option.some.inj h
      exact ⟨fun t ht => (by cases ht; exact rfl), fun r hr => (by cases hr)⟩
    · replace h := (if_neg c11).symm.trans h
      obtain ⟨H5, e_H5, h⟩ := bnd h
      have g_H5 := fr_X8_layGift e_H5 c k ⟨hc.1, hc.2.1, hc.2.2.1, hc.2.2.2.1, hc.2.2.2.2.1, hc.2.2.2.2.2.1, hc.2.2.2.2.2.2⟩
      obtain ⟨v6, -, h⟩ := bnd h
      by_cases c12 : v6 < x3
      · replace h := (if_pos c12).symm.trans h
        have z := ih (x4 + 1) H5 q h
        exact ⟨fun t ht => (z.1 t ht).trans g_H5, fun r hr => (z.2 r hr).trans g_H5⟩
      · replace h := (if_neg c12).symm.trans h
        obtain rfl := Option.some.inj h; exact ⟨fun t ht => (by cases ht), fun r hr => (by cases hr; exact g_H5)⟩
theorem fr_X8_least_l46 {x1 : Int32} {x2 : Int32} {x3 : Int32}{n : Nat} {x4 : Int32} {H : Hp} {q : (Hp) ⊕ (Int32 × Hp)} (h : f_X8_least_l46 x1 x2 x3 n x4 H = some q) (c k : Nat) (hc : c ≠ 66 ∧ c ≠ 69 ∧ c ≠ 70 ∧ c ≠ 71 ∧ c ≠ 72 ∧ c ≠ 73 ∧ ¬ (c = 60 ∧ k = 24)) : (∀ t, q = .inl t → t c k = H c k) ∧ (∀ r, q = .inr r → r.2 c k = H c k) := fr_X8_least_l46_i c k hc n x4 H q h
theorem fr_X8_least {x1 : Int32} {x2 : Int32} {x3 : Int32} {H : Hp} {q : Int32 × Hp} (h : f_X8_least x1 x2 x3 H = some q) (c k : Nat) (hc : c ≠ 66 ∧ c ≠ 69 ∧ c ≠ 70 ∧ c ≠ 71 ∧ c ≠ 72 ∧ c ≠ 73 ∧ ¬ (c = 60 ∧ k = 0) ∧ ¬ (c = 60 ∧ k = 24)) : q.2 c k = H c k := by
  unfold f_X8_least at h
  obtain ⟨H1, e_H1, h⟩ := bnd h
  have g_H1 := pf_fr (c := c) (k := k) e_H1 hc.2.2.2.2.2.2.1
  obtain ⟨v2, -, h⟩ := bnd h
  by_cases c13 : v2 = 0
  · replace h := (if_pos c13).symm.trans h
    obtain rfl := Option.some.inj h; exact g_H1
  · replace h := (if_neg c13).symm.trans h
    obtain ⟨v3, -, h⟩ := bnd h
    by_cases c14 : v3 = 0
    · replace h := (if_pos c14).symm.trans h
      obtain rfl := Option.some.inj h; exact g_H1
    · replace h := (if_neg c14).symm.trans h
      obtain ⟨v4, -, h⟩ := bnd h
      by_cases c15 : v4 = 20
      · replace h := (if_pos c15).symm.trans h
        obtain rfl := Option.some.inj h; exact g_H1
      · replace h := (if_neg c15).symm.trans h
        obtain ⟨l9, e_l9, h⟩ := bnd h
        have g_l9 := fr_X8_least_l46 e_l9 c k ⟨hc.1, hc.2.1, hc.2.2.1, hc.2.2.2.1, hc.2.2.2.2.1, hc.2.2.2.2.2.1, hc.2.2.2.2.2.2.2⟩
        cases l9 with
        | inl t10 =>
          rw [Sum.elim_inl] at h
          obtain rfl := Option.some.inj h; exact ((g_l9.1 _ rfl).trans g_H1)
        | inr r =>
          rw [Sum.elim_inr] at h
          obtain rfl := Option.some.inj h; exact ((g_l9.2 _ rfl).trans g_H1)
theorem fr_X8_givers {r : Nat} {H : Hp} {q : Int32 × Hp} (h : f_X8_givers r H = some q) (c k : Nat) (hc : c ≠ 69 ∧ c ≠ 70 ∧ c ≠ 71) : q.2 c k = H c k := by
  unfold f_X8_givers at h
  obtain ⟨H1, e_H1, h⟩ := bnd h
  have g_H1 := fr_X8_lookAt e_H1 c k ⟨hc.1, hc.2.1, hc.2.2⟩
  obtain ⟨l5, -, h⟩ := bnd h
  obtain rfl := Option.some.inj h; exact g_H1
theorem fr_X8_layWithout_l13_i {x1 : Int32} (c k : Nat) (hc : c ≠ 66) : ∀ (n : Nat) (x2 : Int32) (H : Hp) (q : Hp), f_X8_layWithout_l13 x1 n x2 H = some q → q c k = H c k := by
  intro n
  induction n with
  | zero => intro x2 H q h; simp [f_X8_layWithout_l13] at h
  | succ n ih =>
    intro x2 H q h
    rw [f_X8_layWithout_l13] at h
    obtain ⟨v3, -, h⟩ := bnd h
    by_cases c17 : v3 ≤ x2
    · replace h := (if_pos c17).symm.trans h
      obtain rfl := Option.some.inj h
      rfl
    · replace h := (if_neg c17).symm.trans h
      obtain ⟨v4, -, h⟩ := bnd h
      obtain ⟨v5, -, h⟩ := bnd h
      obtain ⟨v6, -, h⟩ := bnd h
      obtain ⟨j11, e_j11, h⟩ := bnd h
      have g_j11 : j11 c k = H c k := by
        by_cases c18 : v6 = 0
        · replace e_j11 := (if_pos c18).symm.trans e_j11
          obtain ⟨v7, -, e_j11⟩ := bnd e_j11
          obtain ⟨v8, -, e_j11⟩ := bnd e_j11
          obtain ⟨v9, -, e_j11⟩ := bnd e_j11
          obtain ⟨H10, e_H10, e_j11⟩ := bnd e_j11
          have g_H10 := fr_X8_put e_H10 c k hc
          obtain rfl := Option.some.inj e_j11
          exact g_H10
        · replace e_j11 := (if_neg c18).symm.trans e_j11
          obtain rfl := Option.some.inj e_j11
          rfl
      exact (ih (x2 + 1) j11 q h).trans g_j11
theorem fr_X8_layWithout_l13 {x1 : Int32}{n : Nat} {x2 : Int32} {H : Hp} {q : Hp} (h : f_X8_layWithout_l13 x1 n x2 H = some q) (c k : Nat) (hc : c ≠ 66) : q c k = H c k := fr_X8_layWithout_l13_i c k hc n x2 H q h
theorem fr_X8_layWithout {x1 : Int32} {H : Hp} {q : Hp} (h : f_X8_layWithout x1 H = some q) (c k : Nat) (hc : c ≠ 66 ∧ c ≠ 69 ∧ c ≠ 70 ∧ c ≠ 71 ∧ c ≠ 72 ∧ c ≠ 73 ∧ ¬ (c = 60 ∧ k = 24)) : q c k = H c k := by
  unfold f_X8_layWithout at h
  obtain ⟨H1, e_H1, h⟩ := bnd h
  have g_H1 := fr_X8_layThen e_H1 c k hc.1
  obtain ⟨H2, e_H2, h⟩ := bnd h
  have g_H2 := as_fr (c := c) (k := k) e_H2 hc.1
  obtain ⟨l15, e_l15, h⟩ := bnd h
  have g_l15 := fr_X8_layWithout_l13 e_l15 c k hc.1
  obtain ⟨H16, e_H16, h⟩ := bnd h
  have g_H16 := fr_X8_reckon e_H16 c k ⟨hc.2.1, hc.2.2.1, hc.2.2.2.1, hc.2.2.2.2.1, hc.2.2.2.2.2.1, hc.2.2.2.2.2.2⟩
  obtain rfl := Option.some.inj h; exact (g_H16.trans (g_l15.trans (g_H2.trans g_H1)))
theorem fr_X8_missed_l46_i {x1 : Int32} {x3 : Int32} (c k : Nat) (hc : c ≠ 66 ∧ c ≠ 69 ∧ c ≠ 70 ∧ c ≠ 71 ∧ c ≠ 72 ∧ c ≠ 73 ∧ ¬ (c = 60 ∧ k = 24)) : ∀ (n : Nat) (x4 : Int32) (x5 : Int32) (x6 : Int32) (H : Hp) (q : Int32 × Int32 × Hp), f_X8_missed_l46 x1 x3 n x4 x5 x6 H = some q → q.2.2 c k = H c k := by
  intro n
  induction n with
  | zero => intro x4 x5 x6 H q h; simp [f_X8_missed_l46] at h
  | succ n ih =>
    intro x4 x5 x6 H q h
    rw [f_X8_missed_l46] at h
    by_cases c17 : 10 ≤ x6
    · replace h := (if_pos c17).symm.trans h
      obtain rfl := Option.some.inj h
      rfl
    · replace h := (if_neg c17).symm.trans h
      obtain ⟨v5, -, h⟩ := bnd h
      obtain ⟨j10, e_j10, h⟩ := bnd h
      have g_j10 : j10.2.2 c k = H c k := by
        by_cases c18 : v5 = 0
        · replace e_j10 := (if_pos c18).symm.trans e_j10
          obtain rfl := Option.some.inj e_j10
          rfl
        · replace e_j10 := (if_neg c18).symm.trans e_j10
          obtain ⟨H6, e_H6, e_j10⟩ := bnd e_j10
          have g_H6 := fr_X8_layWithout e_H6 c k ⟨hc.1, hc.2.1, hc.2.2.1, hc.2.2.2.1, hc.2.2.2.2.1, hc.2.2.2.2.2.1, hc.2.2.2.2.2.2⟩
          by_cases c19 : x4 = (-1000000)
          · replace e_j10 := (if_pos c19).symm.trans e_j10
            obtain ⟨v7, -, e_j10⟩ := bnd e_j10
            obtain rfl := Option.some.inj e_j10
            exact g_H6
          · replace e_j10 := (if_neg c19).symm.trans e_j10
            obtain ⟨v8, -, e_j10⟩ := bnd e_j10
            by_cases c20 : x5 ≤ v8
            · replace e_j10 := (if_pos c20).symm.trans e_j10
              obtain rfl := Option.some.inj e_j10
              exact g_H6
            · replace e_j10 := (if_neg c20).symm.trans e_j10
              obtain ⟨v9, -, e_j10⟩ := bnd e_j10
              obtain rfl := Option.some.inj e_j10
              exact g_H6
      exact (ih j10.1 j10.2.1 (x6 + 1) j10.2.2 q h).trans g_j10
theorem fr_X8_missed_l46 {x1 : Int32} {x3 : Int32}{n : Nat} {x4 : Int32} {x5 : Int32} {x6 : Int32} {H : Hp} {q : Int32 × Int32 × Hp} (h : f_X8_missed_l46 x1 x3 n x4 x5 x6 H = some q) (c k : Nat) (hc : c ≠ 66 ∧ c ≠ 69 ∧ c ≠ 70 ∧ c ≠ 71 ∧ c ≠ 72 ∧ c ≠ 73 ∧ ¬ (c = 60 ∧ k = 24)) : q.2.2 c k = H c k := fr_X8_missed_l46_i c k hc n x4 x5 x6 H q h
theorem fr_X8_missed {x1 : Int32} {x2 : Int32} {H : Hp} {q : Int32 × Hp} (h : f_X8_missed x1 x2 H = some q) (c k : Nat) (hc : c ≠ 66 ∧ c ≠ 69 ∧ c ≠ 70 ∧ c ≠ 71 ∧ c ≠ 72 ∧ c ≠ 73 ∧ ¬ (c = 60 ∧ k = 0) ∧ ¬ (c = 60 ∧ k = 24)) : q.2 c k = H c k := by
  unfold f_X8_missed at h
  obtain ⟨H1, e_H1, h⟩ := bnd h
  have g_H1 := pf_fr (c := c) (k := k) e_H1 hc.2.2.2.2.2.2.1
  obtain ⟨v2, -, h⟩ := bnd h
  by_cases c21 : v2 = 0
  · replace h := (if_pos c21).symm.trans h
    obtain rfl := Option.some.inj h; exact g_H1
  · replace h := (if_neg c21).symm.trans h
    obtain ⟨v3, -, h⟩ := bnd h
    by_cases c22 : v3 = 0
    · replace h := (if_pos c22).symm.trans h
      obtain rfl := Option.some.inj h; exact g_H1
    · replace h := (if_neg c22).symm.trans h
      obtain ⟨q4, e_q4, h⟩ := bnd h
      have g_q4 := fr_X8_givers e_q4 c k ⟨hc.2.1, hc.2.2.1, hc.2.2.2.1⟩
      obtain ⟨l16, e_l16, h⟩ := bnd h
      have g_l16 := fr_X8_missed_l46 e_l16 c k ⟨hc.1, hc.2.1, hc.2.2.1, hc.2.2.2.1, hc.2.2.2.2.1, hc.2.2.2.2.2.1, hc.2.2.2.2.2.2.2⟩
      obtain rfl := Option.some.inj h; exact (g_l16.trans (g_q4.trans g_H1))
theorem fr_X8_ring {x1 : Int32} {H : Hp} {q : Int32 × Hp} (h : f_X8_ring x1 H = some q) (c k : Nat) (hc : c ≠ 69 ∧ c ≠ 70 ∧ c ≠ 71 ∧ ¬ (c = 60 ∧ k = 0)) : q.2 c k = H c k := by
  unfold f_X8_ring at h
  obtain ⟨H1, e_H1, h⟩ := bnd h
  have g_H1 := pf_fr (c := c) (k := k) e_H1 hc.2.2.2
  obtain ⟨v2, -, h⟩ := bnd h
  by_cases c14 : v2 = 0
  · replace h := (if_pos c14).symm.trans h
    obtain rfl := Option.some.inj h; exact g_H1
  · replace h := (if_neg c14).symm.trans h
    obtain ⟨v3, -, h⟩ := bnd h
    by_cases c15 : v3 = 0
    · replace h := (if_pos c15).symm.trans h
      obtain rfl := Option.some.inj h; exact g_H1
    · replace h := (if_neg c15).symm.trans h
      obtain ⟨H4, e_H4, h⟩ := bnd h
      have g_H4 := fr_X8_lookAt e_H4 c k ⟨hc.1, hc.2.1, hc.2.2.1⟩
      obtain ⟨l13, -, h⟩ := bnd h
      obtain rfl := Option.some.inj h; exact (g_H4.trans g_H1)
theorem fr_X8_halves_l73_i {x1 : Int32} {x2 : Int32} {x3 : Int32} {x4 : Int32} (c k : Nat) (hc : c ≠ 66 ∧ c ≠ 69 ∧ c ≠ 70 ∧ c ≠ 71 ∧ c ≠ 72 ∧ c ≠ 73 ∧ ¬ (c = 60 ∧ k = 24)) : ∀ (n : Nat) (x6 : Int32) (x7 : Int32) (x8 : Int32) (H : Hp) (q : Int32 × Int32 × Hp), f_X8_halves_l73 x1 x2 x3 x4 n x6 x7 x8 H = some q → q.2.2 c k = H c k := by
  intro n
  induction n with
  | zero => intro x6 x7 x8 H q h; simp [f_X8_halves_l73] at h
  | succ n ih =>
    intro x6 x7 x8 H q h
    rw [f_X8_halves_l73] at h
    by_cases c30 : x2 < x8
    · replace h := (if_pos c30).symm.trans h
      obtain rfl := Option.some.inj h
      rfl
    · replace h := (if_neg c30).symm.trans h
      obtain ⟨H7, e_H7, h⟩ := bnd h
      have g_H7 := fr_X8_layThen e_H7 c k hc.1
      obtain ⟨j9, e_j9, h⟩ := bnd h
      have g_j9 : j9 c k = H c k := by
        by_cases c31 : x8 ≤ 0
        · replace e_j9 := (if_pos c31).symm.trans e_j9
          obtain rfl := Option.some.inj e_j9
          exact g_H7
        · replace e_j9 := (if_neg c31).symm.trans e_j9
          obtain ⟨H8, e_H8, e_j9⟩ := bnd e_j9
          have g_H8 := fr_X8_put e_H8 c k hc.1
          obtain rfl := Option.some.inj e_j9
          exact (g_H8.trans g_H7)
      obtain ⟨j11, e_j11, h⟩ := bnd h
      have g_j11 : j11 c k = H c k := by
        by_cases c32 : x2 ≤ x8
        · replace e_j11 := (if_pos c32).symm.trans e_j11
          obtain rfl := Option.some.inj e_j11
          exact g_j9
        · replace e_j11 := (if_neg c32).symm.trans e_j11
          obtain ⟨H10, e_H10, e_j11⟩ := bnd e_j11
          have g_H10 := fr_X8_put e_H10 c k hc.1
          obtain rfl := Option.some.inj e_j11
          exact (g_H10.trans g_j9)
      obtain ⟨H12, e_H12, h⟩ := bnd h
      have g_H12 := fr_X8_reckon e_H12 c k ⟨hc.2.1, hc.2.2.1, hc.2.2.2.1, hc.2.2.2.2.1, hc.2.2.2.2.2.1, hc.2.2.2.2.2.2⟩
      obtain ⟨j16, -, h⟩ := bnd h
      exact (ih (if x6 = (-1000000) then x8 else (if j16 ≤ x7 then x6 else x8)) (if x6 = (-1000000) then j16 else (if j16 ≤ x7 then x7 else j16)) (x8 + 1) H12 q h).trans (g_H12.trans g_j11)
theorem fr_X8_halves_l73 {x1 : Int32} {x2 : Int32} {x3 : Int32} {x4 : Int32}{n : Nat} {x6 : Int32} {x7 : Int32} {x8 : Int32} {H : Hp} {q : Int32 × Int32 × Hp} (h : f_X8_halves_l73 x1 x2 x3 x4 n x6 x7 x8 H = some q) (c k : Nat) (hc : c ≠ 66 ∧ c ≠ 69 ∧ c ≠ 70 ∧ c ≠ 71 ∧ c ≠ 72 ∧ c ≠ 73 ∧ ¬ (c = 60 ∧ k = 24)) : q.2.2 c k = H c k := fr_X8_halves_l73_i c k hc n x6 x7 x8 H q h
theorem fr_X8_halves {x1 : Int32} {x2 : Int32} {x3 : Int32} {x4 : Int32} {x5 : Int32} {H : Hp} {q : Int32 × Hp} (h : f_X8_halves x1 x2 x3 x4 x5 H = some q) (c k : Nat) (hc : c ≠ 66 ∧ c ≠ 69 ∧ c ≠ 70 ∧ c ≠ 71 ∧ c ≠ 72 ∧ c ≠ 73 ∧ ¬ (c = 60 ∧ k = 0) ∧ ¬ (c = 60 ∧ k = 24)) : q.2 c k = H c k := by
  unfold f_X8_halves at h
  obtain ⟨H1, e_H1, h⟩ := bnd h
  have g_H1 := pf_fr (c := c) (k := k) e_H1 hc.2.2.2.2.2.2.1
  obtain ⟨v2, -, h⟩ := bnd h
  by_cases c33 : v2 = 0
  · replace h := (if_pos c33).symm.trans h
    obtain rfl := Option.some.inj h; exact g_H1
  · replace h := (if_neg c33).symm.trans h
    obtain ⟨v3, -, h⟩ := bnd h
    by_cases c34 : v3 = 0
    · replace h := (if_pos c34).symm.trans h
      obtain rfl := Option.some.inj h; exact g_H1
    · replace h := (if_neg c34).symm.trans h
      obtain ⟨v4, -, h⟩ := bnd h
      by_cases c35 : v4 = 0
      · replace h := (if_pos c35).symm.trans h
        obtain rfl := Option.some.inj h; exact g_H1
      · replace h := (if_neg c35).symm.trans h
        obtain ⟨v5, -, h⟩ := bnd h
        by_cases c36 : v5 = 0
        · replace h := (if_pos c36).symm.trans h
          obtain rfl := Option.some.inj h; exact g_H1
        · replace h := (if_neg c36).symm.trans h
          obtain ⟨v6, -, h⟩ := bnd h
          by_cases c37 : v6 ≤ 18
          · replace h := (if_pos c37).symm.trans h
            obtain ⟨l29, e_l29, h⟩ := bnd h
            have g_l29 := fr_X8_halves_l73 e_l29 c k ⟨hc.1, hc.2.1, hc.2.2.1, hc.2.2.2.1, hc.2.2.2.2.1, hc.2.2.2.2.2.1, hc.2.2.2.2.2.2.2⟩
            obtain rfl := Option.some.inj h; exact (g_l29.trans g_H1)
          · replace h := (if_neg c37).symm.trans h
            obtain rfl := Option.some.inj h; exact g_H1
theorem fr_X8_sets {x1 : Int32} {x2 : Int32} {H : Hp} {q : Int32 × Hp} (h : f_X8_sets x1 x2 H = some q) (c k : Nat) (hc : c ≠ 69 ∧ c ≠ 70 ∧ c ≠ 71 ∧ c ≠ 72 ∧ c ≠ 73 ∧ ¬ (c = 60 ∧ k = 0) ∧ ¬ (c = 60 ∧ k = 24)) : q.2 c k = H c k := by
  unfold f_X8_sets at h
  obtain ⟨H1, e_H1, h⟩ := bnd h
  have g_H1 := pf_fr (c := c) (k := k) e_H1 hc.2.2.2.2.2.1
  obtain ⟨v2, -, h⟩ := bnd h
  by_cases c23 : v2 = 0
  · replace h := (if_pos c23).symm.trans h
    obtain rfl := Option.some.inj h; exact g_H1
  · replace h := (if_neg c23).symm.trans h
    obtain ⟨v3, -, h⟩ := bnd h
    by_cases c24 : v3 = 0
    · replace h := (if_pos c24).symm.trans h
      obtain rfl := Option.some.inj h; exact g_H1
    · replace h := (if_neg c24).symm.trans h
      obtain ⟨v4, -, h⟩ := bnd h
      by_cases c25 : v4 = 0
      · replace h := (if_pos c25).symm.trans h
        obtain rfl := Option.some.inj h; exact g_H1
      · replace h := (if_neg c25).symm.trans h
        obtain ⟨H5, e_H5, h⟩ := bnd h
        have g_H5 := fr_X8_reckon e_H5 c k ⟨hc.1, hc.2.1, hc.2.2.1, hc.2.2.2.1, hc.2.2.2.2.1, hc.2.2.2.2.2.2⟩
        obtain ⟨l22, -, h⟩ := bnd h
        obtain rfl := Option.some.inj h; exact (g_H5.trans g_H1)
theorem fr_X8_afterTurns_l21_i {x1 : Int32} {x2 : Int32} {x3 : Int32} {x4 : Int32} {x6 : Int32} (c k : Nat) (hc : c ≠ 66) : ∀ (n : Nat) (x7 : Int32) (x8 : Int32) (H : Hp) (q : Hp), f_X8_afterTurns_l21 x1 x2 x3 x4 x6 n x7 x8 H = some q → q c k = H c k := by
  intro n
  induction n with
  | zero => intro x7 x8 H q h; simp [f_X8_afterTurns_l21] at h
  | succ n ih =>
    intro x7 x8 H q h
    rw [f_X8_afterTurns_l21] at h
    by_cases c18 : x3 ≤ x8
    · replace h := (if_pos c18).symm.trans h
      obtain rfl := Option.some.inj h
      rfl
    · replace h := (if_neg c18).symm.trans h
      obtain ⟨j4, e_j4, h⟩ := bnd h
      have g_j4 : j4 c k = H c k := by
        by_cases c19 : 2 ≤ (x7 - x7 / 3 * 3)
        · replace e_j4 := (if_pos c19).symm.trans e_j4
          obtain rfl := Option.some.inj e_j4
          rfl
        · replace e_j4 := (if_neg c19).symm.trans e_j4
          obtain ⟨H3, e_H3, e_j4⟩ := bnd e_j4
          have g_H3 := fr_X8_put e_H3 c k hc
          obtain rfl := Option.some.inj e_j4
          exact g_H3
      exact (ih (x7 / 3) (x8 + 1) j4 q h).trans g_j4
theorem fr_X8_afterTurns_l21 {x1 : Int32} {x2 : Int32} {x3 : Int32} {x4 : Int32} {x6 : Int32}{n : Nat} {x7 : Int32} {x8 : Int32} {H : Hp} {q : Hp} (h : f_X8_afterTurns_l21 x1 x2 x3 x4 x6 n x7 x8 H = some q) (c k : Nat) (hc : c ≠ 66) : q c k = H c k := fr_X8_afterTurns_l21_i c k hc n x7 x8 H q h
theorem fr_X8_afterTurns {x1 : Int32} {x2 : Int32} {x3 : Int32} {x4 : Int32} {x5 : Int32} {H : Hp} {q : Int32 × Hp} (h : f_X8_afterTurns x1 x2 x3 x4 x5 H = some q) (c k : Nat) (hc : c ≠ 66 ∧ c ≠ 69 ∧ c ≠ 70 ∧ c ≠ 71 ∧ c ≠ 72 ∧ c ≠ 73 ∧ ¬ (c = 60 ∧ k = 24)) : q.2 c k = H c k := by
  unfold f_X8_afterTurns at h
  obtain ⟨v1, -, h⟩ := bnd h
  obtain ⟨H2, e_H2, h⟩ := bnd h
  have g_H2 := fr_X8_layThen e_H2 c k hc.1
  obtain ⟨l14, e_l14, h⟩ := bnd h
  have g_l14 := fr_X8_afterTurns_l21 e_l14 c k hc.1
  obtain ⟨H15, e_H15, h⟩ := bnd h
  have g_H15 := fr_X8_reckon e_H15 c k ⟨hc.2.1, hc.2.2.1, hc.2.2.2.1, hc.2.2.2.2.1, hc.2.2.2.2.2.1, hc.2.2.2.2.2.2⟩
  obtain ⟨v16, -, h⟩ := bnd h
  obtain ⟨v17, -, h⟩ := bnd h
  obtain rfl := Option.some.inj h; exact (g_H15.trans (g_l14.trans g_H2))
theorem fr_X8_byTurns_l122_i {x1 : Int32} {x2 : Int32} {x3 : Int32} {x4 : Int32} {x5 : Int32} (c k : Nat) (hc : c ≠ 66 ∧ c ≠ 69 ∧ c ≠ 70 ∧ c ≠ 71 ∧ c ≠ 72 ∧ c ≠ 73 ∧ c ≠ 74 ∧ ¬ (c = 60 ∧ k = 24)) : ∀ (n : Nat) (x6 : Int32) (H : Hp) (q : Hp), f_X8_byTurns_l122 x1 x2 x3 x4 x5 n x6 H = some q → q c k = H c k := by
  intro n
  induction n with
  | zero => intro x6 H q h; simp [f_X8_byTurns_l122] at h
  | succ n ih =>
    intro x6 H q h
    rw [f_X8_byTurns_l122] at h
    by_cases c30 : x5 ≤ x6
    · replace h := (if_pos c30).symm.trans h
      obtain rfl := Option.some.inj h
      rfl
    · replace h := (if_neg c30).symm.trans h
      obtain ⟨q8, e_q8, h⟩ := bnd h
      have g_q8 := fr_X8_afterTurns e_q8 c k ⟨hc.1, hc.2.1, hc.2.2.1, hc.2.2.2.1, hc.2.2.2.2.1, hc.2.2.2.2.2.1, hc.2.2.2.2.2.2.2⟩
      obtain ⟨H9, e_H9, h⟩ := bnd h
      have g_H9 := as_fr (c := c) (k := k) e_H9 hc.2.2.2.2.2.2.1
      exact (ih (x6 + 1) H9 q h).trans (g_H9.trans g_q8)
theorem fr_X8_byTurns_l122 {x1 : Int32} {x2 : Int32} {x3 : Int32} {x4 : Int32} {x5 : Int32}{n : Nat} {x6 : Int32} {H : Hp} {q : Hp} (h : f_X8_byTurns_l122 x1 x2 x3 x4 x5 n x6 H = some q) (c k : Nat) (hc : c ≠ 66 ∧ c ≠ 69 ∧ c ≠ 70 ∧ c ≠ 71 ∧ c ≠ 72 ∧ c ≠ 73 ∧ c ≠ 74 ∧ ¬ (c = 60 ∧ k = 24)) : q c k = H c k := fr_X8_byTurns_l122_i c k hc n x6 H q h
theorem fr_X8_byTurns_l172_i {x5 : Int32} {x6 : Int32} (c k : Nat) (hc : c ≠ 74) : ∀ (n : Nat) (x7 : Int32) (H : Hp) (q : Hp), f_X8_byTurns_l172 x5 x6 n x7 H = some q → q c k = H c k := by
  intro n
  induction n with
  | zero => intro x7 H q h; simp [f_X8_byTurns_l172] at h
  | succ n ih =>
    intro x7 H q h
    rw [f_X8_byTurns_l172] at h
    by_cases c31 : x5 ≤ x7
    · replace h := (if_pos c31).symm.trans h
      obtain rfl := Option.some.inj h
      rfl
    · replace h := (if_neg c31).symm.trans h
      obtain ⟨v12, -, h⟩ := bnd h
      obtain ⟨l23, -, h⟩ := bnd h
      obtain ⟨H24, e_H24, h⟩ := bnd h
      have g_H24 := as_fr (c := c) (k := k) e_H24 hc
      exact (ih (x7 + 1) H24 q h).trans g_H24
theorem fr_X8_byTurns_l172 {x5 : Int32} {x6 : Int32}{n : Nat} {x7 : Int32} {H : Hp} {q : Hp} (h : f_X8_byTurns_l172 x5 x6 n x7 H = some q) (c k : Nat) (hc : c ≠ 74) : q c k = H c k := fr_X8_byTurns_l172_i c k hc n x7 H q h
theorem fr_X8_byTurns_l158_i (c k : Nat) (hc : c ≠ 74) : ∀ (n : Nat) (x5 : Int32) (x6 : Int32) (H : Hp) (q : Hp), f_X8_byTurns_l158 n x5 x6 H = some q → q c k = H c k := by
  intro n
  induction n with
  | zero => intro x5 x6 H q h; simp [f_X8_byTurns_l158] at h
  | succ n ih =>
    intro x5 x6 H q h
    rw [f_X8_byTurns_l158] at h
    by_cases c32 : x6 < 0
    · replace h := (if_pos c32).symm.trans h
      obtain rfl := Option.some.inj h
      rfl
    · replace h := (if_neg c32).symm.trans h
      obtain ⟨l26, e_l26, h⟩ := bnd h
      have g_l26 := fr_X8_byTurns_l172 e_l26 c k hc
      exact (ih (x5 / 3) (x6 + (-1)) l26 q h).trans g_l26
theorem fr_X8_byTurns_l158{n : Nat} {x5 : Int32} {x6 : Int32} {H : Hp} {q : Hp} (h : f_X8_byTurns_l158 n x5 x6 H = some q) (c k : Nat) (hc : c ≠ 74) : q c k = H c k := fr_X8_byTurns_l158_i c k hc n x5 x6 H q h
theorem fr_X8_byTurns {x1 : Int32} {x2 : Int32} {x3 : Int32} {x4 : Int32} {H : Hp} {q : Int32 × Hp} (h : f_X8_byTurns x1 x2 x3 x4 H = some q) (c k : Nat) (hc : c ≠ 66 ∧ c ≠ 69 ∧ c ≠ 70 ∧ c ≠ 71 ∧ c ≠ 72 ∧ c ≠ 73 ∧ c ≠ 74 ∧ ¬ (c = 60 ∧ k = 0) ∧ ¬ (c = 60 ∧ k = 24)) : q.2 c k = H c k := by
  unfold f_X8_byTurns at h
  obtain ⟨H1, e_H1, h⟩ := bnd h
  have g_H1 := pf_fr (c := c) (k := k) e_H1 hc.2.2.2.2.2.2.2.1
  obtain ⟨v2, -, h⟩ := bnd h
  by_cases c33 : v2 = 0
  · replace h := (if_pos c33).symm.trans h
    obtain rfl := Option.some.inj h; exact g_H1
  · replace h := (if_neg c33).symm.trans h
    obtain ⟨v3, -, h⟩ := bnd h
    by_cases c34 : v3 = 0
    · replace h := (if_pos c34).symm.trans h
      obtain rfl := Option.some.inj h; exact g_H1
    · replace h := (if_neg c34).symm.trans h
      obtain ⟨v4, -, h⟩ := bnd h
      by_cases c35 : v4 = 0
      · replace h := (if_pos c35).symm.trans h
        obtain rfl := Option.some.inj h; exact g_H1
      · replace h := (if_neg c35).symm.trans h
        by_cases c36 : x1 = x2
        · replace h := (if_pos c36).symm.trans h
          obtain rfl := Option.some.inj h; exact g_H1
        · replace h := (if_neg c36).symm.trans h
          obtain ⟨v5, -, h⟩ := bnd h
          by_cases c37 : v5 = 0
          · replace h := (if_pos c37).symm.trans h
            obtain rfl := Option.some.inj h; exact g_H1
          · replace h := (if_neg c37).symm.trans h
            obtain ⟨v6, -, h⟩ := bnd h
            by_cases c38 : v6 = 0
            · replace h := (if_pos c38).symm.trans h
              obtain rfl := Option.some.inj h; exact g_H1
            · replace h := (if_neg c38).symm.trans h
              obtain ⟨v7, -, h⟩ := bnd h
              by_cases c39 : v7 ≤ 16
              · replace h := (if_pos c39).symm.trans h
                obtain ⟨l11, e_l11, h⟩ := bnd h
                have g_l11 := fr_X8_byTurns_l122 e_l11 c k ⟨hc.1, hc.2.1, hc.2.2.1, hc.2.2.2.1, hc.2.2.2.2.1, hc.2.2.2.2.2.1, hc.2.2.2.2.2.2.1, hc.2.2.2.2.2.2.2.2⟩
                obtain ⟨l28, e_l28, h⟩ := bnd h
                have g_l28 := fr_X8_byTurns_l158 e_l28 c k hc.2.2.2.2.2.2.1
                obtain ⟨v29, -, h⟩ := bnd h
                obtain rfl := Option.some.inj h; exact (g_l28.trans (g_l11.trans g_H1))
              · replace h := (if_neg c39).symm.trans h
                obtain rfl := Option.some.inj h; exact g_H1
theorem fr_X8_rowFound {x1 : Int32} {x2 : Int32} {x3 : Int32} {H : Hp} {q : Int32 × Hp} (h : f_X8_rowFound x1 x2 x3 H = some q) (c k : Nat) (hc : ¬ (c = 60 ∧ k = 1)) : q.2 c k = H c k := by
  unfold f_X8_rowFound at h
  obtain ⟨v1, -, h⟩ := bnd h
  by_cases c7 : 0 ≤ v1
  · replace h := (if_pos c7).symm.trans h
    by_cases c8 : x2 < 0
    · replace h := (if_pos c8).symm.trans h
      obtain ⟨q2, e_q2, h⟩ := bnd h
      have g_q2 := fr_X8_finding e_q2 c k hc
      obtain rfl := Option.some.inj h; exact g_q2
    · replace h := (if_neg c8).symm.trans h
      obtain ⟨v3, -, h⟩ := bnd h
      by_cases c9 : (x2.toInt64 + x3.toInt64) ≤ v3.toInt64
      · replace h := (if_pos c9).symm.trans h
        obtain ⟨H4, e_H4, h⟩ := bnd h
        have g_H4 := pf_fr (c := c) (k := k) e_H4 hc
        obtain rfl := Option.some.inj h; exact g_H4
      · replace h := (if_neg c9).symm.trans h
        obtain ⟨q5, e_q5, h⟩ := bnd h
        have g_q5 := fr_X8_finding e_q5 c k hc
        obtain rfl := Option.some.inj h; exact g_q5
  · replace h := (if_neg c7).symm.trans h
    obtain ⟨q6, e_q6, h⟩ := bnd h
    have g_q6 := fr_X8_finding e_q6 c k hc
    obtain rfl := Option.some.inj h; exact g_q6
theorem fr_X8_kindsOf_l5_i {x1 : Int32} {x2 : Int32} (c k : Nat) (hc : c ≠ 66 ∧ c ≠ 69 ∧ c ≠ 70 ∧ c ≠ 71 ∧ c ≠ 72 ∧ c ≠ 73 ∧ ¬ (c = 60 ∧ k = 24)) : ∀ (n : Nat) (x3 : Int32) (x4 : Int32) (H : Hp) (q : Int32 × Hp), f_X8_kindsOf_l5 x1 x2 n x3 x4 H = some q → q.2 c k = H c k := by
  intro n
  induction n with
  | zero => intro x3 x4 H q h; simp [f_X8_kindsOf_l5] at h
  | succ n ih =>
    intro x3 x4 H q h
    rw [f_X8_kindsOf_l5] at h
    by_cases c10 : 5 < x4
    · replace h := (if_pos c10).symm.trans h
      obtain rfl := Option.some.inj h
      rfl
    · replace h := (if_neg c10).symm.trans h
      obtain ⟨H1, e_H1, h⟩ := bnd h
      have g_H1 := fr_X8_layThen e_H1 c k hc.1
      obtain ⟨H2, e_H2, h⟩ := bnd h
      have g_H2 := as_fr (c := c) (k := k) e_H2 hc.1
      obtain ⟨H3, e_H3, h⟩ := bnd h
      have g_H3 := fr_X8_reckon e_H3 c k ⟨hc.2.1, hc.2.2.1, hc.2.2.2.1, hc.2.2.2.2.1, hc.2.2.2.2.2.1, hc.2.2.2.2.2.2⟩
      obtain ⟨v4, -, h⟩ := bnd h
      exact (ih (x3 ||| (if v4 = 0 then 0 else ((1 : Int32) <<< (x4 &&& 31)))) (x4 + 1) H3 q h).trans (g_H3.trans (g_H2.trans g_H1))
theorem fr_X8_kindsOf_l5 {x1 : Int32} {x2 : Int32}{n : Nat} {x3 : Int32} {x4 : Int32} {H : Hp} {q : Int32 × Hp} (h : f_X8_kindsOf_l5 x1 x2 n x3 x4 H = some q) (c k : Nat) (hc : c ≠ 66 ∧ c ≠ 69 ∧ c ≠ 70 ∧ c ≠ 71 ∧ c ≠ 72 ∧ c ≠ 73 ∧ ¬ (c = 60 ∧ k = 24)) : q.2 c k = H c k := fr_X8_kindsOf_l5_i c k hc n x3 x4 H q h
theorem fr_X8_kindsOf {x1 : Int32} {x2 : Int32} {H : Hp} {q : Int32 × Hp} (h : f_X8_kindsOf x1 x2 H = some q) (c k : Nat) (hc : c ≠ 66 ∧ c ≠ 69 ∧ c ≠ 70 ∧ c ≠ 71 ∧ c ≠ 72 ∧ c ≠ 73 ∧ ¬ (c = 60 ∧ k = 24)) : q.2 c k = H c k := by
  unfold f_X8_kindsOf at h
  obtain ⟨l9, e_l9, h⟩ := bnd h
  have g_l9 := fr_X8_kindsOf_l5 e_l9 c k ⟨hc.1, hc.2.1, hc.2.2.1, hc.2.2.2.1, hc.2.2.2.2.1, hc.2.2.2.2.2.1, hc.2.2.2.2.2.2⟩
  obtain rfl := Option.some.inj h; exact g_l9
theorem fr_X8_coinsOf_l10_i {x1 : Int32} {x2 : Int32} (c k : Nat) (hc : c ≠ 66 ∧ c ≠ 69 ∧ c ≠ 70 ∧ c ≠ 71 ∧ c ≠ 72 ∧ c ≠ 73 ∧ ¬ (c = 60 ∧ k = 24)) : ∀ (n : Nat) (x4 : Int32) (x5 : Int32) (x6 : Int32) (H : Hp) (q : Int32 × Int32 × Hp), f_X8_coinsOf_l10 x1 x2 n x4 x5 x6 H = some q → q.2.2 c k = H c k := by
  intro n
  induction n with
  | zero => intro x4 x5 x6 H q h; simp [f_X8_coinsOf_l10] at h
  | succ n ih =>
    intro x4 x5 x6 H q h
    rw [f_X8_coinsOf_l10] at h
    by_cases c12 : 100 ≤ x6
    · replace h := (if_pos c12).symm.trans h
      obtain rfl := Option.some.inj h
      rfl
    · replace h := (if_neg c12).symm.trans h
      obtain ⟨H1, e_H1, h⟩ := bnd h
      have g_H1 := fr_X8_layThen e_H1 c k hc.1
      obtain ⟨H2, e_H2, h⟩ := bnd h
      have g_H2 := as_fr (c := c) (k := k) e_H2 hc.1
      obtain ⟨H3, e_H3, h⟩ := bnd h
      have g_H3 := fr_X8_reckon e_H3 c k ⟨hc.2.1, hc.2.2.1, hc.2.2.2.1, hc.2.2.2.2.1, hc.2.2.2.2.2.1, hc.2.2.2.2.2.2⟩
      obtain ⟨v4, -, h⟩ := bnd h
      exact (ih (if v4 = 0 then x4 else (x4 + 1)) (if v4 = 0 then x5 else (if x4 = 0 then x6 else x5)) (x6 + 1) H3 q h).trans (g_H3.trans (g_H2.trans g_H1))
theorem fr_X8_coinsOf_l10 {x1 : Int32} {x2 : Int32}{n : Nat} {x4 : Int32} {x5 : Int32} {x6 : Int32} {H : Hp} {q : Int32 × Int32 × Hp} (h : f_X8_coinsOf_l10 x1 x2 n x4 x5 x6 H = some q) (c k : Nat) (hc : c ≠ 66 ∧ c ≠ 69 ∧ c ≠ 70 ∧ c ≠ 71 ∧ c ≠ 72 ∧ c ≠ 73 ∧ ¬ (c = 60 ∧ k = 24)) : q.2.2 c k = H c k := fr_X8_coinsOf_l10_i c k hc n x4 x5 x6 H q h
theorem fr_X8_coinsOf {x1 : Int32} {x2 : Int32} {x3 : Int32} {H : Hp} {q : Int32 × Hp} (h : f_X8_coinsOf x1 x2 x3 H = some q) (c k : Nat) (hc : c ≠ 66 ∧ c ≠ 69 ∧ c ≠ 70 ∧ c ≠ 71 ∧ c ≠ 72 ∧ c ≠ 73 ∧ ¬ (c = 60 ∧ k = 24)) : q.2 c k = H c k := by
  unfold f_X8_coinsOf at h
  obtain ⟨l11, e_l11, h⟩ := bnd h
  have g_l11 := fr_X8_coinsOf_l10 e_l11 c k ⟨hc.1, hc.2.1, hc.2.2.1, hc.2.2.2.1, hc.2.2.2.2.1, hc.2.2.2.2.2.1, hc.2.2.2.2.2.2⟩
  obtain rfl := Option.some.inj h; exact g_l11
theorem fr_X8_potsOf_l21_i {x1 : Int32} (c k : Nat) (hc : c ≠ 66 ∧ c ≠ 73 ∧ ¬ (c = 60 ∧ k = 24)) : ∀ (n : Nat) (x3 : Int32) (x4 : Int32) (x5 : Int32) (H : Hp) (q : Int32 × Int32 × Hp), f_X8_potsOf_l21 x1 n x3 x4 x5 H = some q → q.2.2 c k = H c k := by
  intro n
  induction n with
  | zero => intro x3 x4 x5 H q h; simp [f_X8_potsOf_l21] at h
  | succ n ih =>
    intro x3 x4 x5 H q h
    rw [f_X8_potsOf_l21] at h
    by_cases c13 : 1000 ≤ x5
    · replace h := (if_pos c13).symm.trans h
      obtain rfl := Option.some.inj h
      rfl
    · replace h := (if_neg c13).symm.trans h
      obtain ⟨H3, e_H3, h⟩ := bnd h
      have g_H3 := as_fr (c := c) (k := k) e_H3 hc.1
      obtain ⟨H4, e_H4, h⟩ := bnd h
      have g_H4 := fr_X8_pay e_H4 c k ⟨hc.2.1, hc.2.2⟩
      obtain ⟨v5, -, h⟩ := bnd h
      exact (ih (if v5 = 0 then x3 else (x3 + 1)) (if v5 = 0 then x4 else (if x3 = 0 then x5 else x4)) (x5 + 1) H4 q h).trans (g_H4.trans g_H3)
theorem fr_X8_potsOf_l21 {x1 : Int32}{n : Nat} {x3 : Int32} {x4 : Int32} {x5 : Int32} {H : Hp} {q : Int32 × Int32 × Hp} (h : f_X8_potsOf_l21 x1 n x3 x4 x5 H = some q) (c k : Nat) (hc : c ≠ 66 ∧ c ≠ 73 ∧ ¬ (c = 60 ∧ k = 24)) : q.2.2 c k = H c k := fr_X8_potsOf_l21_i c k hc n x3 x4 x5 H q h
theorem fr_X8_potsOf {x1 : Int32} {x2 : Int32} {H : Hp} {q : Int32 × Hp} (h : f_X8_potsOf x1 x2 H = some q) (c k : Nat) (hc : c ≠ 66 ∧ c ≠ 69 ∧ c ≠ 70 ∧ c ≠ 71 ∧ c ≠ 72 ∧ c ≠ 73 ∧ ¬ (c = 60 ∧ k = 24)) : q.2 c k = H c k := by
  unfold f_X8_potsOf at h
  obtain ⟨H1, e_H1, h⟩ := bnd h
  have g_H1 := fr_X8_layThen e_H1 c k hc.1
  obtain ⟨H2, e_H2, h⟩ := bnd h
  have g_H2 := fr_X8_reckon e_H2 c k ⟨hc.2.1, hc.2.2.1, hc.2.2.2.1, hc.2.2.2.2.1, hc.2.2.2.2.2.1, hc.2.2.2.2.2.2⟩
  obtain ⟨l12, e_l12, h⟩ := bnd h
  have g_l12 := fr_X8_potsOf_l21 e_l12 c k ⟨hc.1, hc.2.2.2.2.2.1, hc.2.2.2.2.2.2⟩
  obtain rfl := Option.some.inj h; exact (g_l12.trans (g_H2.trans g_H1))
theorem fr_X8_who {x1 : Int32} {x2 : Int32} {x3 : Int32} {x4 : Int32} {H : Hp} {q : Int32 × Hp} (h : f_X8_who x1 x2 x3 x4 H = some q) (c k : Nat) (hc : c ≠ 66 ∧ c ≠ 69 ∧ c ≠ 70 ∧ c ≠ 71 ∧ c ≠ 72 ∧ c ≠ 73 ∧ ¬ (c = 60 ∧ k = 0) ∧ ¬ (c = 60 ∧ k = 1) ∧ ¬ (c = 60 ∧ k = 24)) : q.2 c k = H c k := by
  unfold f_X8_who at h
  obtain ⟨H1, e_H1, h⟩ := bnd h
  have g_H1 := pf_fr (c := c) (k := k) e_H1 hc.2.2.2.2.2.2.1
  obtain ⟨v2, -, h⟩ := bnd h
  by_cases c35 : v2 = 0
  · replace h := (if_pos c35).symm.trans h
    obtain rfl := Option.some.inj h; exact g_H1
  · replace h := (if_neg c35).symm.trans h
    obtain ⟨v3, -, h⟩ := bnd h
    by_cases c36 : v3 = 0
    · replace h := (if_pos c36).symm.trans h
      obtain rfl := Option.some.inj h; exact g_H1
    · replace h := (if_neg c36).symm.trans h
      by_cases c37 : x2 = 2
      · replace h := (if_pos c37).symm.trans h
        obtain ⟨v4, -, h⟩ := bnd h
        by_cases c38 : v4 = 0
        · replace h := (if_pos c38).symm.trans h
          obtain rfl := Option.some.inj h; exact g_H1
        · replace h := (if_neg c38).symm.trans h
          by_cases c39 : x2 ≤ 2
          · replace h := (if_pos c39).symm.trans h
            obtain ⟨v5, -, h⟩ := bnd h
            by_cases c40 : v5 = 0
            · replace h := (if_pos c40).symm.trans h
              obtain rfl := Option.some.inj h; exact g_H1
            · replace h := (if_neg c40).symm.trans h
              obtain ⟨v6, -, h⟩ := bnd h
              obtain ⟨q7, e_q7, h⟩ := bnd h
              have g_q7 := fr_X8_rowFound e_q7 c k hc.2.2.2.2.2.2.2.1
              by_cases c41 : q7.1 = 0
              · replace h := (if_pos c41).symm.trans h
                obtain ⟨j11, e_j11, h⟩ := bnd h
                have g_j11 : j11.2 c k = H c k := by
                  by_cases c42 : 2 ≤ x2
                  · replace e_j11 := (if_pos c42).symm.trans e_j11
                    by_cases c43 : x2 = 2
                    · replace e_j11 := (if_pos c43).symm.trans e_j11
                      obtain ⟨q8, e_q8, e_j11⟩ := bnd e_j11
                      have g_q8 := fr_X8_kindsOf e_q8 c k ⟨hc.1, hc.2.1, hc.2.2.1, hc.2.2.2.1, hc.2.2.2.2.1, hc.2.2.2.2.2.1, hc.2.2.2.2.2.2.2.2⟩
                      obtain rfl := Option.some.inj e_j11
                      exact (g_q8.trans (g_q7.trans g_H1))
                    · replace e_j11 := (if_neg c43).symm.trans e_j11
                      obtain ⟨q9, e_q9, e_j11⟩ := bnd e_j11
                      have g_q9 := fr_X8_coinsOf e_q9 c k ⟨hc.1, hc.2.1, hc.2.2.1, hc.2.2.2.1, hc.2.2.2.2.1, hc.2.2.2.2.2.1, hc.2.2.2.2.2.2.2.2⟩
                      obtain rfl := Option.some.inj e_j11
                      exact (g_q9.trans (g_q7.trans g_H1))
                  · replace e_j11 := (if_neg c42).symm.trans e_j11
                    obtain ⟨q10, e_q10, e_j11⟩ := bnd e_j11
                    have g_q10 := fr_X8_potsOf e_q10 c k ⟨hc.1, hc.2.1, hc.2.2.1, hc.2.2.2.1, hc.2.2.2.2.1, hc.2.2.2.2.2.1, hc.2.2.2.2.2.2.2.2⟩
                    obtain rfl := Option.some.inj e_j11
                    exact (g_q10.trans (g_q7.trans g_H1))
                obtain rfl := Option.some.inj h; exact g_j11
              · replace h := (if_neg c41).symm.trans h
                obtain rfl := Option.some.inj h; exact (g_q7.trans g_H1)
          · replace h := (if_neg c39).symm.trans h
            obtain ⟨v12, -, h⟩ := bnd h
            by_cases c44 : v12 = 0
            · replace h := (if_pos c44).symm.trans h
              obtain rfl := Option.some.inj h; exact g_H1
            · replace h := (if_neg c44).symm.trans h
              obtain ⟨v13, -, h⟩ := bnd h
              by_cases c45 : v13 = 0
              · replace h := (if_pos c45).symm.trans h
                obtain rfl := Option.some.inj h; exact g_H1
              · replace h := (if_neg c45).symm.trans h
                obtain ⟨v14, -, h⟩ := bnd h
                obtain ⟨q15, e_q15, h⟩ := bnd h
                have g_q15 := fr_X8_rowFound e_q15 c k hc.2.2.2.2.2.2.2.1
                by_cases c46 : q15.1 = 0
                · replace h := (if_pos c46).symm.trans h
                  obtain ⟨j19, e_j19, h⟩ := bnd h
                  have g_j19 : j19.2 c k = H c k := by
                    by_cases c47 : 2 ≤ x2
                    · replace e_j19 := (if_pos c47).symm.trans e_j19
                      by_cases c48 : x2 = 2
                      · replace e_j19 := (if_pos c48).symm.trans e_j19
                        obtain ⟨q16, e_q16, e_j19⟩ := bnd e_j19
                        have g_q16 := fr_X8_kindsOf e_q16 c k ⟨hc.1, hc.2.1, hc.2.2.1, hc.2.2.2.1, hc.2.2.2.2.1, hc.2.2.2.2.2.1, hc.2.2.2.2.2.2.2.2⟩
                        obtain rfl := Option.some.inj e_j19
                        exact (g_q16.trans (g_q15.trans g_H1))
                      · replace e_j19 := (if_neg c48).symm.trans e_j19
                        obtain ⟨q17, e_q17, e_j19⟩ := bnd e_j19
                        have g_q17 := fr_X8_coinsOf e_q17 c k ⟨hc.1, hc.2.1, hc.2.2.1, hc.2.2.2.1, hc.2.2.2.2.1, hc.2.2.2.2.2.1, hc.2.2.2.2.2.2.2.2⟩
                        obtain rfl := Option.some.inj e_j19
                        exact (g_q17.trans (g_q15.trans g_H1))
                    · replace e_j19 := (if_neg c47).symm.trans e_j19
                      obtain ⟨q18, e_q18, e_j19⟩ := bnd e_j19
                      have g_q18 := fr_X8_potsOf e_q18 c k ⟨hc.1, hc.2.1, hc.2.2.1, hc.2.2.2.1, hc.2.2.2.2.1, hc.2.2.2.2.2.1, hc.2.2.2.2.2.2.2.2⟩
                      obtain rfl := Option.some.inj e_j19
                      exact (g_q18.trans (g_q15.trans g_H1))
                  obtain rfl := Option.some.inj h; exact g_j19
                · replace h := (if_neg c46).symm.trans h
                  obtain rfl := Option.some.inj h; exact (g_q15.trans g_H1)
      · replace h := (if_neg c37).symm.trans h
        by_cases c49 : x2 ≤ 2
        · replace h := (if_pos c49).symm.trans h
          obtain ⟨v20, -, h⟩ := bnd h
          by_cases c50 : v20 = 0
          · replace h := (if_pos c50).symm.trans h
            obtain rfl := Option.some.inj h; exact g_H1
          · replace h := (if_neg c50).symm.trans h
            obtain ⟨v21, -, h⟩ := bnd h
            obtain ⟨q22, e_q22, h⟩ := bnd h
            have g_q22 := fr_X8_rowFound e_q22 c k hc.2.2.2.2.2.2.2.1
            by_cases c51 : q22.1 = 0
            · replace h := (if_pos c51).symm.trans h
              obtain ⟨j26, e_j26, h⟩ := bnd h
              have g_j26 : j26.2 c k = H c k := by
                by_cases c52 : 2 ≤ x2
                · replace e_j26 := (if_pos c52).symm.trans e_j26
                  by_cases c53 : x2 = 2
                  · replace e_j26 := (if_pos c53).symm.trans e_j26
                    obtain ⟨q23, e_q23, e_j26⟩ := bnd e_j26
                    have g_q23 := fr_X8_kindsOf e_q23 c k ⟨hc.1, hc.2.1, hc.2.2.1, hc.2.2.2.1, hc.2.2.2.2.1, hc.2.2.2.2.2.1, hc.2.2.2.2.2.2.2.2⟩
                    obtain rfl := Option.some.inj e_j26
                    exact (g_q23.trans (g_q22.trans g_H1))
                  · replace e_j26 := (if_neg c53).symm.trans e_j26
                    obtain ⟨q24, e_q24, e_j26⟩ := bnd e_j26
                    have g_q24 := fr_X8_coinsOf e_q24 c k ⟨hc.1, hc.2.1, hc.2.2.1, hc.2.2.2.1, hc.2.2.2.2.1, hc.2.2.2.2.2.1, hc.2.2.2.2.2.2.2.2⟩
                    obtain rfl := Option.some.inj e_j26
                    exact (g_q24.trans (g_q22.trans g_H1))
                · replace e_j26 := (if_neg c52).symm.trans e_j26
                  obtain ⟨q25, e_q25, e_j26⟩ := bnd e_j26
                  have g_q25 := fr_X8_potsOf e_q25 c k ⟨hc.1, hc.2.1, hc.2.2.1, hc.2.2.2.1, hc.2.2.2.2.1, hc.2.2.2.2.2.1, hc.2.2.2.2.2.2.2.2⟩
                  obtain rfl := Option.some.inj e_j26
                  exact (g_q25.trans (g_q22.trans g_H1))
              obtain rfl := Option.some.inj h; exact g_j26
            · replace h := (if_neg c51).symm.trans h
              obtain rfl := Option.some.inj h; exact (g_q22.trans g_H1)
        · replace h := (if_neg c49).symm.trans h
          obtain ⟨v27, -, h⟩ := bnd h
          by_cases c54 : v27 = 0
          · replace h := (if_pos c54).symm.trans h
            obtain rfl := Option.some.inj h; exact g_H1
          · replace h := (if_neg c54).symm.trans h
            obtain ⟨v28, -, h⟩ := bnd h
            by_cases c55 : v28 = 0
            · replace h := (if_pos c55).symm.trans h
              obtain rfl := Option.some.inj h; exact g_H1
            · replace h := (if_neg c55).symm.trans h
              obtain ⟨v29, -, h⟩ := bnd h
              obtain ⟨q30, e_q30, h⟩ := bnd h
              have g_q30 := fr_X8_rowFound e_q30 c k hc.2.2.2.2.2.2.2.1
              by_cases c56 : q30.1 = 0
              · replace h := (if_pos c56).symm.trans h
                obtain ⟨j34, e_j34, h⟩ := bnd h
                have g_j34 : j34.2 c k = H c k := by
                  by_cases c57 : 2 ≤ x2
                  · replace e_j34 := (if_pos c57).symm.trans e_j34
                    by_cases c58 : x2 = 2
                    · replace e_j34 := (if_pos c58).symm.trans e_j34
                      obtain ⟨q31, e_q31, e_j34⟩ := bnd e_j34
                      have g_q31 := fr_X8_kindsOf e_q31 c k ⟨hc.1, hc.2.1, hc.2.2.1, hc.2.2.2.1, hc.2.2.2.2.1, hc.2.2.2.2.2.1, hc.2.2.2.2.2.2.2.2⟩
                      obtain rfl := Option.some.inj e_j34
                      exact (g_q31.trans (g_q30.trans g_H1))
                    · replace e_j34 := (if_neg c58).symm.trans e_j34
                      obtain ⟨q32, e_q32, e_j34⟩ := bnd e_j34
                      have g_q32 := fr_X8_coinsOf e_q32 c k ⟨hc.1, hc.2.1, hc.2.2.1, hc.2.2.2.1, hc.2.2.2.2.1, hc.2.2.2.2.2.1, hc.2.2.2.2.2.2.2.2⟩
                      obtain rfl := Option.some.inj e_j34
                      exact (g_q32.trans (g_q30.trans g_H1))
                  · replace e_j34 := (if_neg c57).symm.trans e_j34
                    obtain ⟨q33, e_q33, e_j34⟩ := bnd e_j34
                    have g_q33 := fr_X8_potsOf e_q33 c k ⟨hc.1, hc.2.1, hc.2.2.1, hc.2.2.2.1, hc.2.2.2.2.1, hc.2.2.2.2.2.1, hc.2.2.2.2.2.2.2.2⟩
                    obtain rfl := Option.some.inj e_j34
                    exact (g_q33.trans (g_q30.trans g_H1))
                obtain rfl := Option.some.inj h; exact g_j34
              · replace h := (if_neg c56).symm.trans h
                obtain rfl := Option.some.inj h; exact (g_q30.trans g_H1)
theorem fr_X8_likely_l71_i {x1 : Int32} {x2 : Int32} {x3 : Int32} {x5 : Int32} (c k : Nat) (hc : c ≠ 66 ∧ c ≠ 69 ∧ c ≠ 70 ∧ c ≠ 71 ∧ c ≠ 72 ∧ c ≠ 73 ∧ ¬ (c = 60 ∧ k = 24)) : ∀ (n : Nat) (x6 : Int64) (x8 : Int64) (x10 : Int32) (H : Hp) (q : Int64 × Int64 × Hp), f_X8_likely_l71 x1 x2 x3 x5 n x6 x8 x10 H = some q → q.2.2 c k = H c k := by
  intro n
  induction n with
  | zero => intro x6 x8 x10 H q h; simp [f_X8_likely_l71] at h
  | succ n ih =>
    intro x6 x8 x10 H q h
    rw [f_X8_likely_l71] at h
    by_cases c28 : x5 < x10
    · replace h := (if_pos c28).symm.trans h
      obtain rfl := Option.some.inj h
      rfl
    · replace h := (if_neg c28).symm.trans h
      obtain ⟨j17, e_j17, h⟩ := bnd h
      have g_j17 : j17.2.2 c k = H c k := by
        by_cases c29 : (x10 &&& (x5 ^^^ (-1))) = 0
        · replace e_j17 := (if_pos c29).symm.trans e_j17
          obtain ⟨l14, -, e_j17⟩ := bnd e_j17
          obtain ⟨H15, e_H15, e_j17⟩ := bnd e_j17
          have g_H15 := fr_X8_layWithout e_H15 c k ⟨hc.1, hc.2.1, hc.2.2.1, hc.2.2.2.1, hc.2.2.2.2.1, hc.2.2.2.2.2.1, hc.2.2.2.2.2.2⟩
          obtain ⟨v16, -, e_j17⟩ := bnd e_j17
          obtain rfl := Option.some.inj e_j17
          exact g_H15
        · replace e_j17 := (if_neg c29).symm.trans e_j17
          obtain rfl := Option.some.inj e_j17
          rfl
      exact (ih j17.1 j17.2.1 (x10 + 1) j17.2.2 q h).trans g_j17
theorem fr_X8_likely_l71 {x1 : Int32} {x2 : Int32} {x3 : Int32} {x5 : Int32}{n : Nat} {x6 : Int64} {x8 : Int64} {x10 : Int32} {H : Hp} {q : Int64 × Int64 × Hp} (h : f_X8_likely_l71 x1 x2 x3 x5 n x6 x8 x10 H = some q) (c k : Nat) (hc : c ≠ 66 ∧ c ≠ 69 ∧ c ≠ 70 ∧ c ≠ 71 ∧ c ≠ 72 ∧ c ≠ 73 ∧ ¬ (c = 60 ∧ k = 24)) : q.2.2 c k = H c k := fr_X8_likely_l71_i c k hc n x6 x8 x10 H q h
theorem fr_X8_likely {x1 : Int32} {x2 : Int32} {x3 : Int32} {x4 : Int32} {H : Hp} {q : Int64 × Hp} (h : f_X8_likely x1 x2 x3 x4 H = some q) (c k : Nat) (hc : c ≠ 66 ∧ c ≠ 69 ∧ c ≠ 70 ∧ c ≠ 71 ∧ c ≠ 72 ∧ c ≠ 73 ∧ ¬ (c = 60 ∧ k = 0) ∧ ¬ (c = 60 ∧ k = 24)) : q.2 c k = H c k := by
  unfold f_X8_likely at h
  obtain ⟨H1, e_H1, h⟩ := bnd h
  have g_H1 := pf_fr (c := c) (k := k) e_H1 hc.2.2.2.2.2.2.1
  obtain ⟨v2, -, h⟩ := bnd h
  by_cases c30 : v2 = 0
  · replace h := (if_pos c30).symm.trans h
    obtain rfl := Option.some.inj h; exact g_H1
  · replace h := (if_neg c30).symm.trans h
    obtain ⟨v3, -, h⟩ := bnd h
    by_cases c31 : v3 = 0
    · replace h := (if_pos c31).symm.trans h
      obtain rfl := Option.some.inj h; exact g_H1
    · replace h := (if_neg c31).symm.trans h
      obtain ⟨v4, -, h⟩ := bnd h
      by_cases c32 : v4 = 0
      · replace h := (if_pos c32).symm.trans h
        obtain rfl := Option.some.inj h; exact g_H1
      · replace h := (if_neg c32).symm.trans h
        obtain ⟨v5, -, h⟩ := bnd h
        by_cases c33 : v5 = 0
        · replace h := (if_pos c33).symm.trans h
          obtain rfl := Option.some.inj h; exact g_H1
        · replace h := (if_neg c33).symm.trans h
          obtain ⟨q6, e_q6, h⟩ := bnd h
          have g_q6 := fr_X8_givers e_q6 c k ⟨hc.2.1, hc.2.2.1, hc.2.2.2.1⟩
          obtain ⟨l24, e_l24, h⟩ := bnd h
          have g_l24 := fr_X8_likely_l71 e_l24 c k ⟨hc.1, hc.2.1, hc.2.2.1, hc.2.2.2.1, hc.2.2.2.2.1, hc.2.2.2.2.2.1, hc.2.2.2.2.2.2.2⟩
          obtain ⟨l27, -, h⟩ := bnd h
          have n34 : ¬ l27 = 0 := fun z => by rw [if_pos z] at h; cases h
          replace h := (if_neg n34).symm.trans h
          obtain rfl := Option.some.inj h; exact (g_l24.trans (g_q6.trans g_H1))
theorem fr_X8_drawn_l74_i {x1 : Int32} (c k : Nat) (hc : c ≠ 66 ∧ c ≠ 69 ∧ c ≠ 70 ∧ c ≠ 71 ∧ c ≠ 72 ∧ c ≠ 73 ∧ ¬ (c = 60 ∧ k = 24)) : ∀ (n : Nat) (x4 : Int64) (x6 : Int32) (x7 : Int32) (H : Hp) (q : Int32 × Hp), f_X8_drawn_l74 x1 n x4 x6 x7 H = some q → q.2 c k = H c k := by
  intro n
  induction n with
  | zero => intro x4 x6 x7 H q h; simp [f_X8_drawn_l74] at h
  | succ n ih =>
    intro x4 x6 x7 H q h
    rw [f_X8_drawn_l74] at h
    by_cases c21 : x1 ≤ x7
    · replace h := (if_pos c21).symm.trans h
      obtain rfl := Option.some.inj h
      rfl
    · replace h := (if_neg c21).symm.trans h
      obtain ⟨v8, -, h⟩ := bnd h
      obtain ⟨j12, e_j12, h⟩ := bnd h
      have g_j12 : j12 c k = H c k := by
        by_cases c22 : v8 ≤ 0
        · replace e_j12 := (if_pos c22).symm.trans e_j12
          obtain rfl := Option.some.inj e_j12
          rfl
        · replace e_j12 := (if_neg c22).symm.trans e_j12
          obtain ⟨v9, -, e_j12⟩ := bnd e_j12
          have n23 : ¬ v9.toInt64 = 0 := fun z => by rw [if_pos z] at e_j12; cases e_j12
          replace e_j12 := (if_neg n23).symm.trans e_j12
          obtain ⟨v10, -, e_j12⟩ := bnd e_j12
          have n24 : ¬ v10.toInt64 = 0 := fun z => by rw [if_pos z] at e_j12; cases e_j12
          replace e_j12 := (if_neg n24).symm.trans e_j12
          obtain ⟨H11, e_H11, e_j12⟩ := bnd e_j12
          have g_H11 := fr_X8_lay e_H11 c k hc.1
          obtain rfl := Option.some.inj e_j12
          exact g_H11
      obtain ⟨H13, e_H13, h⟩ := bnd h
      have g_H13 := fr_X8_reckon e_H13 c k ⟨hc.2.1, hc.2.2.1, hc.2.2.2.1, hc.2.2.2.2.1, hc.2.2.2.2.2.1, hc.2.2.2.2.2.2⟩
      obtain ⟨v14, -, h⟩ := bnd h
      exact (ih ((x4 * 16807) - (x4 * 16807) / 2147483647 * 2147483647) (x6 + (v14 - (H13 60 24))) (x7 + 1) H13 q h).trans (g_H13.trans g_j12)
theorem fr_X8_drawn_l74 {x1 : Int32}{n : Nat} {x4 : Int64} {x6 : Int32} {x7 : Int32} {H : Hp} {q : Int32 × Hp} (h : f_X8_drawn_l74 x1 n x4 x6 x7 H = some q) (c k : Nat) (hc : c ≠ 66 ∧ c ≠ 69 ∧ c ≠ 70 ∧ c ≠ 71 ∧ c ≠ 72 ∧ c ≠ 73 ∧ ¬ (c = 60 ∧ k = 24)) : q.2 c k = H c k := fr_X8_drawn_l74_i c k hc n x4 x6 x7 H q h
theorem fr_X8_drawn {x1 : Int32} {x2 : Int32} {x3 : Int32} {H : Hp} {q : Int32 × Hp} (h : f_X8_drawn x1 x2 x3 H = some q) (c k : Nat) (hc : c ≠ 66 ∧ c ≠ 69 ∧ c ≠ 70 ∧ c ≠ 71 ∧ c ≠ 72 ∧ c ≠ 73 ∧ ¬ (c = 60 ∧ k = 0) ∧ ¬ (c = 60 ∧ k = 24)) : q.2 c k = H c k := by
  unfold f_X8_drawn at h
  obtain ⟨H1, e_H1, h⟩ := bnd h
  have g_H1 := pf_fr (c := c) (k := k) e_H1 hc.2.2.2.2.2.2.1
  obtain ⟨v2, -, h⟩ := bnd h
  by_cases c25 : v2 = 0
  · replace h := (if_pos c25).symm.trans h
    obtain rfl := Option.some.inj h; exact g_H1
  · replace h := (if_neg c25).symm.trans h
    obtain ⟨v3, -, h⟩ := bnd h
    by_cases c26 : v3 = 0
    · replace h := (if_pos c26).symm.trans h
      obtain rfl := Option.some.inj h; exact g_H1
    · replace h := (if_neg c26).symm.trans h
      obtain ⟨v4, -, h⟩ := bnd h
      by_cases c27 : v4 = 0
      · replace h := (if_pos c27).symm.trans h
        obtain rfl := Option.some.inj h; exact g_H1
      · replace h := (if_neg c27).symm.trans h
        obtain ⟨v5, -, h⟩ := bnd h
        by_cases c28 : v5 = 0
        · replace h := (if_pos c28).symm.trans h
          obtain rfl := Option.some.inj h; exact g_H1
        · replace h := (if_neg c28).symm.trans h
          obtain ⟨H6, e_H6, h⟩ := bnd h
          have g_H6 := fr_X8_layThen e_H6 c k hc.1
          obtain ⟨H7, e_H7, h⟩ := bnd h
          have g_H7 := fr_X8_reckon e_H7 c k ⟨hc.2.1, hc.2.2.1, hc.2.2.2.1, hc.2.2.2.2.1, hc.2.2.2.2.2.1, hc.2.2.2.2.2.2.2⟩
          obtain ⟨l20, e_l20, h⟩ := bnd h
          have g_l20 := fr_X8_drawn_l74 e_l20 c k ⟨hc.1, hc.2.1, hc.2.2.1, hc.2.2.2.1, hc.2.2.2.2.1, hc.2.2.2.2.2.1, hc.2.2.2.2.2.2.2⟩
          obtain rfl := Option.some.inj h; exact (g_l20.trans (g_H7.trans (g_H6.trans g_H1)))
theorem fr_X8_image_l30_i {x1 : Int32} (c k : Nat) (hc : c ≠ 76) : ∀ (n : Nat) (x2 : Int32) (H : Hp) (q : Hp), f_X8_image_l30 x1 n x2 H = some q → q c k = H c k := by
  intro n
  induction n with
  | zero => intro x2 H q h; simp [f_X8_image_l30] at h
  | succ n ih =>
    intro x2 H q h
    rw [f_X8_image_l30] at h
    by_cases c9 : 80 ≤ x2
    · replace h := (if_pos c9).symm.trans h
      obtain rfl := Option.some.inj h
      rfl
    · replace h := (if_neg c9).symm.trans h
      obtain ⟨v4, -, h⟩ := bnd h
      obtain ⟨H5, e_H5, h⟩ := bnd h
      have g_H5 := as_fr (c := c) (k := k) e_H5 hc
      exact (ih (x2 + 1) H5 q h).trans g_H5
theorem fr_X8_image_l30 {x1 : Int32}{n : Nat} {x2 : Int32} {H : Hp} {q : Hp} (h : f_X8_image_l30 x1 n x2 H = some q) (c k : Nat) (hc : c ≠ 76) : q c k = H c k := fr_X8_image_l30_i c k hc n x2 H q h
theorem fr_X8_image {x1 : Int32} {H : Hp} {q : Int32 × Hp} (h : f_X8_image x1 H = some q) (c k : Nat) (hc : c ≠ 75 ∧ c ≠ 76 ∧ ¬ (c = 60 ∧ k = 0)) : q.2 c k = H c k := by
  unfold f_X8_image at h
  obtain ⟨H1, e_H1, h⟩ := bnd h
  have g_H1 := pf_fr (c := c) (k := k) e_H1 hc.2.2
  obtain ⟨v2, -, h⟩ := bnd h
  by_cases c10 : v2 = 0
  · replace h := (if_pos c10).symm.trans h
    obtain rfl := Option.some.inj h; exact g_H1
  · replace h := (if_neg c10).symm.trans h
    obtain ⟨v3, -, h⟩ := bnd h
    by_cases c11 : v3 = 0
    · replace h := (if_pos c11).symm.trans h
      obtain rfl := Option.some.inj h; exact g_H1
    · replace h := (if_neg c11).symm.trans h
      obtain ⟨l7, e_l7, h⟩ := bnd h
      have g_l7 := fr_X8_image_l30 e_l7 c k hc.2.1
      obtain ⟨H8, e_H8, h⟩ := bnd h
      have g_H8 := as_fr (c := c) (k := k) e_H8 hc.1
      obtain rfl := Option.some.inj h; exact (g_H8.trans (g_l7.trans g_H1))
theorem fr_X8_restore_l32_i {x1 : Int32} (c k : Nat) (hc : c ≠ 64) : ∀ (n : Nat) (x2 : Int32) (H : Hp) (q : Hp), f_X8_restore_l32 x1 n x2 H = some q → q c k = H c k := by
  intro n
  induction n with
  | zero => intro x2 H q h; simp [f_X8_restore_l32] at h
  | succ n ih =>
    intro x2 H q h
    rw [f_X8_restore_l32] at h
    by_cases c9 : 80 ≤ x2
    · replace h := (if_pos c9).symm.trans h
      obtain rfl := Option.some.inj h
      rfl
    · replace h := (if_neg c9).symm.trans h
      obtain ⟨v4, -, h⟩ := bnd h
      obtain ⟨H5, e_H5, h⟩ := bnd h
      have g_H5 := as_fr (c := c) (k := k) e_H5 hc
      exact (ih (x2 + 1) H5 q h).trans g_H5
theorem fr_X8_restore_l32 {x1 : Int32}{n : Nat} {x2 : Int32} {H : Hp} {q : Hp} (h : f_X8_restore_l32 x1 n x2 H = some q) (c k : Nat) (hc : c ≠ 64) : q c k = H c k := fr_X8_restore_l32_i c k hc n x2 H q h
theorem fr_X8_restore {x1 : Int32} {H : Hp} {q : Int32 × Hp} (h : f_X8_restore x1 H = some q) (c k : Nat) (hc : c ≠ 64 ∧ ¬ (c = 60 ∧ k = 0) ∧ ¬ (c = 60 ∧ k = 9)) : q.2 c k = H c k := by
  unfold f_X8_restore at h
  obtain ⟨H1, e_H1, h⟩ := bnd h
  have g_H1 := pf_fr (c := c) (k := k) e_H1 hc.2.1
  obtain ⟨v2, -, h⟩ := bnd h
  by_cases c10 : v2 = 0
  · replace h := (if_pos c10).symm.trans h
    obtain rfl := Option.some.inj h; exact g_H1
  · replace h := (if_neg c10).symm.trans h
    obtain ⟨v3, -, h⟩ := bnd h
    by_cases c11 : v3 = 0
    · replace h := (if_pos c11).symm.trans h
      obtain rfl := Option.some.inj h; exact g_H1
    · replace h := (if_neg c11).symm.trans h
      obtain ⟨l7, e_l7, h⟩ := bnd h
      have g_l7 := fr_X8_restore_l32 e_l7 c k hc.1
      obtain ⟨H8, e_H8, h⟩ := bnd h
      have g_H8 := pf_fr (c := c) (k := k) e_H8 hc.2.2
      obtain rfl := Option.some.inj h; exact (g_H8.trans (g_l7.trans g_H1))
theorem fr_X8_kind {x1 : Int32} {H : Hp} {q : Int32 × Hp} (h : f_X8_kind x1 H = some q) (c k : Nat) (hc : ¬ (c = 60 ∧ k = 0)) : q.2 c k = H c k := by
  unfold f_X8_kind at h
  obtain ⟨H1, e_H1, h⟩ := bnd h
  have g_H1 := pf_fr (c := c) (k := k) e_H1 hc
  obtain ⟨v2, -, h⟩ := bnd h
  obtain ⟨j4, -, h⟩ := bnd h
  obtain rfl := Option.some.inj h; exact g_H1
theorem fr_X8_as {x1 : Int32} {x2 : Int32} {H : Hp} {q : Int32 × Hp} (h : f_X8_as x1 x2 H = some q) (c k : Nat) (hc : ¬ (c = 60 ∧ k = 0) ∧ ¬ (c = 60 ∧ k = 1)) : q.2 c k = H c k := by
  unfold f_X8_as at h
  obtain ⟨H1, e_H1, h⟩ := bnd h
  have g_H1 := pf_fr (c := c) (k := k) e_H1 hc.1
  obtain ⟨v2, -, h⟩ := bnd h
  by_cases c9 : v2 = 0
  · replace h := (if_pos c9).symm.trans h
    obtain rfl := Option.some.inj h; exact g_H1
  · replace h := (if_neg c9).symm.trans h
    obtain ⟨v3, -, h⟩ := bnd h
    by_cases c10 : v3 = 0
    · replace h := (if_pos c10).symm.trans h
      obtain rfl := Option.some.inj h; exact g_H1
    · replace h := (if_neg c10).symm.trans h
      obtain ⟨H4, e_H4, h⟩ := bnd h
      have g_H4 := pf_fr (c := c) (k := k) e_H4 hc.2
      obtain ⟨v5, -, h⟩ := bnd h
      obtain ⟨v6, -, h⟩ := bnd h
      obtain ⟨j8, e_j8, h⟩ := bnd h
      have g_j8 : j8.2 c k = H c k := by
        by_cases c11 : v6 = 0
        · replace e_j8 := (if_pos c11).symm.trans e_j8
          obtain ⟨q7, e_q7, e_j8⟩ := bnd e_j8
          have g_q7 := fr_X8_finding e_q7 c k hc.2
          obtain rfl := Option.some.inj e_j8
          exact (g_q7.trans (g_H4.trans g_H1))
        · replace e_j8 := (if_neg c11).symm.trans e_j8
          obtain rfl := Option.some.inj e_j8
          exact (g_H4.trans g_H1)
      obtain rfl := Option.some.inj h; exact g_j8
theorem fr_X8_began {x1 : Int32} {H : Hp} {q : Hp} (h : f_X8_began x1 H = some q) (c k : Nat) (hc : c ≠ 77 ∧ ¬ (c = 60 ∧ k = 29)) : q c k = H c k := by
  unfold f_X8_began at h
  obtain ⟨j3, e_j3, h⟩ := bnd h
  have g_j3 : j3 c k = H c k := by
    by_cases c4 : 16 ≤ (H 60 29)
    · replace e_j3 := (if_pos c4).symm.trans e_j3
      obtain rfl := Option.some.inj e_j3
      rfl
    · replace e_j3 := (if_neg c4).symm.trans e_j3
      obtain ⟨H1, e_H1, e_j3⟩ := bnd e_j3
      have g_H1 := as_fr (c := c) (k := k) e_H1 hc.1
      obtain ⟨H2, e_H2, e_j3⟩ := bnd e_j3
      have g_H2 := pf_fr (c := c) (k := k) e_H2 hc.2
      obtain rfl := Option.some.inj e_j3
      exact (g_H2.trans g_H1)
  obtain rfl := Option.some.inj h; exact g_j3
theorem fr_X8_plainSize {x1 : Int32} {H : Hp} {q : Int32 × Hp} (h : f_X8_plainSize x1 H = some q) (c k : Nat) (hc : c ≠ 77 ∧ ¬ (c = 60 ∧ k = 29)) : q.2 c k = H c k := by
  unfold f_X8_plainSize at h
  obtain ⟨H1, e_H1, h⟩ := bnd h
  have g_H1 := fr_X8_began e_H1 c k ⟨hc.1, hc.2⟩
  obtain ⟨v2, -, h⟩ := bnd h
  obtain rfl := Option.some.inj h; exact g_H1
theorem fr_X8_flatSize {x1 : Int32} {H : Hp} {q : Int32 × Hp} (h : f_X8_flatSize x1 H = some q) (c k : Nat) (hc : c ≠ 77 ∧ ¬ (c = 60 ∧ k = 29)) : q.2 c k = H c k := by
  unfold f_X8_flatSize at h
  obtain ⟨v1, -, h⟩ := bnd h
  obtain ⟨j3, e_j3, h⟩ := bnd h
  have g_j3 : j3 c k = H c k := by
    by_cases c6 : ((if v1 = 5 then 1 else 0) : Int32) = 0
    · replace e_j3 := (if_pos c6).symm.trans e_j3
      obtain rfl := Option.some.inj e_j3
      rfl
    · replace e_j3 := (if_neg c6).symm.trans e_j3
      obtain ⟨H2, e_H2, e_j3⟩ := bnd e_j3
      have g_H2 := fr_X8_began e_H2 c k ⟨hc.1, hc.2⟩
      obtain rfl := Option.some.inj e_j3
      exact g_H2
  obtain ⟨H4, e_H4, h⟩ := bnd h
  have g_H4 := fr_X8_began e_H4 c k ⟨hc.1, hc.2⟩
  obtain ⟨q5, e_q5, h⟩ := bnd h
  have g_q5 := fr_X8_plainSize e_q5 c k ⟨hc.1, hc.2⟩
  obtain rfl := Option.some.inj h; exact (g_q5.trans (g_H4.trans g_j3))
theorem fr_X8_markOf {x1 : Int32} {H : Hp} {q : Int32 × Hp} (h : f_X8_markOf x1 H = some q) (c k : Nat) (hc : c ≠ 77 ∧ ¬ (c = 60 ∧ k = 29)) : q.2 c k = H c k := by
  unfold f_X8_markOf at h
  obtain ⟨v1, -, h⟩ := bnd h
  by_cases c11 : v1 < 4
  · replace h := (if_pos c11).symm.trans h
    obtain ⟨j3, e_j3, h⟩ := bnd h
    have g_j3 : j3 c k = H c k := by
      by_cases c12 : v1 = 1
      · replace e_j3 := (if_pos c12).symm.trans e_j3
        obtain rfl := Option.some.inj e_j3
        rfl
      · replace e_j3 := (if_neg c12).symm.trans e_j3
        obtain ⟨H2, e_H2, e_j3⟩ := bnd e_j3
        have g_H2 := fr_X8_began e_H2 c k ⟨hc.1, hc.2⟩
        obtain rfl := Option.some.inj e_j3
        exact g_H2
    obtain ⟨H4, e_H4, h⟩ := bnd h
    have g_H4 := fr_X8_began e_H4 c k ⟨hc.1, hc.2⟩
    obtain ⟨H5, e_H5, h⟩ := bnd h
    have g_H5 := fr_X8_began e_H5 c k ⟨hc.1, hc.2⟩
    obtain ⟨v6, -, h⟩ := bnd h
    obtain ⟨v7, -, h⟩ := bnd h
    obtain rfl := Option.some.inj h; exact (g_H5.trans (g_H4.trans g_j3))
  · replace h := (if_neg c11).symm.trans h
    obtain ⟨H8, e_H8, h⟩ := bnd h
    have g_H8 := fr_X8_began e_H8 c k ⟨hc.1, hc.2⟩
    obtain ⟨H9, e_H9, h⟩ := bnd h
    have g_H9 := fr_X8_began e_H9 c k ⟨hc.1, hc.2⟩
    obtain ⟨q10, e_q10, h⟩ := bnd h
    have g_q10 := fr_X8_flatSize e_q10 c k ⟨hc.1, hc.2⟩
    obtain rfl := Option.some.inj h; exact (g_q10.trans (g_H9.trans g_H8))
theorem fr_X8_sizeOf {x1 : Int32} {H : Hp} {q : Int32 × Hp} (h : f_X8_sizeOf x1 H = some q) (c k : Nat) (hc : c ≠ 77 ∧ ¬ (c = 60 ∧ k = 29)) : q.2 c k = H c k := by
  unfold f_X8_sizeOf at h
  obtain ⟨v1, -, h⟩ := bnd h
  by_cases c8 : v1 < 4
  · replace h := (if_pos c8).symm.trans h
    obtain ⟨j3, e_j3, h⟩ := bnd h
    have g_j3 : j3 c k = H c k := by
      by_cases c9 : v1 = 2
      · replace e_j3 := (if_pos c9).symm.trans e_j3
        obtain ⟨H2, e_H2, e_j3⟩ := bnd e_j3
        have g_H2 := fr_X8_began e_H2 c k ⟨hc.1, hc.2⟩
        obtain rfl := Option.some.inj e_j3
        exact g_H2
      · replace e_j3 := (if_neg c9).symm.trans e_j3
        obtain rfl := Option.some.inj e_j3
        rfl
    obtain ⟨H4, e_H4, h⟩ := bnd h
    have g_H4 := fr_X8_began e_H4 c k ⟨hc.1, hc.2⟩
    obtain ⟨q5, e_q5, h⟩ := bnd h
    have g_q5 := fr_X8_plainSize e_q5 c k ⟨hc.1, hc.2⟩
    obtain ⟨q6, e_q6, h⟩ := bnd h
    have g_q6 := fr_X8_markOf e_q6 c k ⟨hc.1, hc.2⟩
    obtain rfl := Option.some.inj h; exact (g_q6.trans (g_q5.trans (g_H4.trans g_j3)))
  · replace h := (if_neg c8).symm.trans h
    obtain ⟨q7, e_q7, h⟩ := bnd h
    have g_q7 := fr_X8_flatSize e_q7 c k ⟨hc.1, hc.2⟩
    obtain rfl := Option.some.inj h; exact g_q7
theorem fr_X8_ask {x1 : Int32} {x2 : Int32} {H : Hp} {q : Int32 × Hp} (h : f_X8_ask x1 x2 H = some q) (c k : Nat) (hc : c ≠ 69 ∧ c ≠ 70 ∧ c ≠ 71 ∧ c ≠ 77 ∧ ¬ (c = 60 ∧ k = 0) ∧ ¬ (c = 60 ∧ k = 29)) : q.2 c k = H c k := by
  unfold f_X8_ask at h
  obtain ⟨H1, e_H1, h⟩ := bnd h
  have g_H1 := pf_fr (c := c) (k := k) e_H1 hc.2.2.2.2.1
  obtain ⟨v2, -, h⟩ := bnd h
  by_cases c9 : v2 = 0
  · replace h := (if_pos c9).symm.trans h
    obtain rfl := Option.some.inj h; exact g_H1
  · replace h := (if_neg c9).symm.trans h
    obtain ⟨v3, -, h⟩ := bnd h
    by_cases c10 : v3 = 0
    · replace h := (if_pos c10).symm.trans h
      obtain rfl := Option.some.inj h; exact g_H1
    · replace h := (if_neg c10).symm.trans h
      obtain ⟨H4, e_H4, h⟩ := bnd h
      have g_H4 := pf_fr (c := c) (k := k) e_H4 hc.2.2.2.2.2
      obtain ⟨H5, e_H5, h⟩ := bnd h
      have g_H5 := fr_X8_lookAt e_H5 c k ⟨hc.1, hc.2.1, hc.2.2.1⟩
      obtain ⟨j8, e_j8, h⟩ := bnd h
      have g_j8 : j8.2 c k = H c k := by
        by_cases c11 : x2 = 0
        · replace e_j8 := (if_pos c11).symm.trans e_j8
          obtain ⟨q6, e_q6, e_j8⟩ := bnd e_j8
          have g_q6 := fr_X8_sizeOf e_q6 c k ⟨hc.2.2.2.1, hc.2.2.2.2.2⟩
          obtain rfl := Option.some.inj e_j8
          exact (g_q6.trans (g_H5.trans (g_H4.trans g_H1)))
        · replace e_j8 := (if_neg c11).symm.trans e_j8
          obtain ⟨q7, e_q7, e_j8⟩ := bnd e_j8
          have g_q7 := fr_X8_markOf e_q7 c k ⟨hc.2.2.2.1, hc.2.2.2.2.2⟩
          obtain rfl := Option.some.inj e_j8
          exact (g_q7.trans (g_H5.trans (g_H4.trans g_H1)))
      obtain rfl := Option.some.inj h; exact g_j8
theorem fr_X8_trace {x1 : Int32} {H : Hp} {q : Int32 × Hp} (h : f_X8_trace x1 H = some q) (c k : Nat) (hc : ¬ (c = 60 ∧ k = 0)) : q.2 c k = H c k := by
  unfold f_X8_trace at h
  obtain ⟨H1, e_H1, h⟩ := bnd h
  have g_H1 := pf_fr (c := c) (k := k) e_H1 hc
  obtain ⟨v2, -, h⟩ := bnd h
  obtain ⟨j4, -, h⟩ := bnd h
  obtain rfl := Option.some.inj h; exact g_H1
theorem fr_X8_count {x1 : Int32} {H : Hp} {q : Int32 × Hp} (h : f_X8_count x1 H = some q) (c k : Nat) (hc : ¬ (c = 60 ∧ k = 0)) : q.2 c k = H c k := by
  unfold f_X8_count at h
  obtain ⟨H1, e_H1, h⟩ := bnd h
  have g_H1 := pf_fr (c := c) (k := k) e_H1 hc
  by_cases s15 : x1 = 0
  · replace h := (if_pos s15).symm.trans h
    obtain ⟨l7, -, h⟩ := bnd h
    obtain rfl := Option.some.inj h; exact g_H1
  · replace h := (if_neg s15).symm.trans h
    by_cases s16 : x1 = 1
    · replace h := (if_pos s16).symm.trans h
      obtain ⟨v8, -, h⟩ := bnd h
      obtain rfl := Option.some.inj h; exact g_H1
    · replace h := (if_neg s16).symm.trans h
      by_cases s17 : x1 = 2
      · replace h := (if_pos s17).symm.trans h
        obtain ⟨v9, -, h⟩ := bnd h
        obtain rfl := Option.some.inj h; exact g_H1
      · replace h := (if_neg s17).symm.trans h
        by_cases s18 : x1 = 3
        · replace h := (if_pos s18).symm.trans h
          obtain ⟨v10, -, h⟩ := bnd h
          obtain rfl := Option.some.inj h; exact g_H1
        · replace h := (if_neg s18).symm.trans h
          by_cases s19 : x1 = 4
          · replace h := (if_pos s19).symm.trans h
            obtain ⟨l14, -, h⟩ := bnd h
            obtain rfl := Option.some.inj h; exact g_H1
          · replace h := (if_neg s19).symm.trans h
            by_cases s20 : x1 = 5
            · replace h := (if_pos s20).symm.trans h
              obtain rfl := Option.some.inj h; exact g_H1
            · replace h := (if_neg s20).symm.trans h
              by_cases s21 : x1 = 6
              · replace h := (if_pos s21).symm.trans h
                obtain rfl := Option.some.inj h; exact g_H1
              · replace h := (if_neg s21).symm.trans h
                obtain rfl := Option.some.inj h; exact g_H1
theorem fr_X8_status {H : Hp} {q : Int32 × Hp} (h : f_X8_status H = some q) (c k : Nat) (hc : ¬ (c = 60 ∧ k = 0)) : q.2 c k = H c k := by
  unfold f_X8_status at h
  obtain ⟨H1, e_H1, h⟩ := bnd h
  have g_H1 := pf_fr (c := c) (k := k) e_H1 hc
  obtain rfl := Option.some.inj h; exact g_H1
