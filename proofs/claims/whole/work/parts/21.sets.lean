/-! sets, halves -/
noncomputable def tgs (n : Nat) (d : Nat → Nat) (S : Nat) : Nat := sm n (fun p => if S / 2 ^ p % 2 = 1 then d p else 0)
theorem tog7 {H : Hp} {n S : Nat} {d : Nat → Nat} (hn : n ≤ 6) (h0 : H 7 3 = nI n) (hd : ∀ p, p < n → H 48 p = nI (d p)) (hS : S < 2 ^ 31) : f_X3_paidTogether (nI S) H = some (nI (tgs n d S)) := by
  unfold f_X3_paidTogether
  rw [acc0 (f_X3_paidTogether_l4 H (nI S)) n (by omega) (fun p => if S / 2 ^ p % 2 = 1 then d p else 0)
    (fun m z => by simp only [f_X3_paidTogether_l4]; rw [h0, if_pos (nI_le (Nat.le_refl _) (by omega))])
    (fun m k hk => by
      simp only [f_X3_paidTogether_l4]
      have hq : S / 2 ^ k < 2 ^ 31 := Nat.lt_of_le_of_lt (Nat.div_le_self _ _) hS
      rw [h0, if_neg (nI_ge hk (by omega)), ag_n (by omega) (by omega), Option.bind_some, hd k hk, shrk hS (by omega), and1 hq, pk_mul, nI_add, nI_1, sm_s]
      congr 3
      by_cases g : S / 2 ^ k % 2 = 1
      · rw [if_pos g, g, Nat.one_mul]
      · rw [if_neg g, show S / 2 ^ k % 2 = 0 by omega, Nat.zero_mul])]
  rfl
theorem tog8 {H : Hp} {n S : Nat} {d : Nat → Nat} (hn : n ≤ 6) (h0 : H 64 0 = nI n) (hd : ∀ p, p < n → H 73 p = nI (d p)) (hS : S < 2 ^ 31) : f_X8_sets_l80 H (nI S) fuel 0 0 = some (nI (tgs n d S)) := by
  rw [acc0 (f_X8_sets_l80 H (nI S)) n (by omega) (fun p => if S / 2 ^ p % 2 = 1 then d p else 0)
    (fun m z => by
      simp only [f_X8_sets_l80]
      rw [show ag H 64 80 0 = ag H 64 80 (nI 0) from rfl, ag_n (by omega) (by omega), Option.bind_some, h0, if_pos (nI_le (Nat.le_refl _) (by omega))])
    (fun m k hk => by
      simp only [f_X8_sets_l80]
      rw [show ag H 64 80 0 = ag H 64 80 (nI 0) from rfl, ag_n (by omega) (by omega), Option.bind_some, h0, if_neg (nI_ge hk (by omega)), hasN hS (by omega), Option.bind_some, ag_n (by omega) (by omega), hd k hk, nI_1, sm_s]
      by_cases g : S / 2 ^ k % 2 = 1
      · rw [if_pos g, if_pos g, if_neg (by decide), Option.bind_some, Option.bind_some, nI_add]
      · rw [if_neg g, if_neg g, if_pos rfl, Option.bind_some, show (0 : Int32) = nI 0 from rfl, nI_add])]
  rfl
theorem sets_loop {H7 H8 : Hp} {n : Nat} {d : Nat → Nat} (hn : n ≤ 6) (h7 : H7 7 3 = nI n) (h8 : H8 64 0 = nI n) (d7 : ∀ p, p < n → H7 48 p = nI (d p)) (d8 : ∀ p, p < n → H8 73 p = nI (d p)) (x1 : Int32) :
    ∀ (w m S c : Nat) (y z v : Int32), S + w = 2 ^ n → w < m → c ≤ S → (c = 0 → y = nI (2 ^ n - 1) ∧ z = 0) → (c ≠ 0 → y = z) →
      ∃ c2 v2 y2 z2, f_X3_setsPaid_l39 H7 x1 m (nI c) v y (nI S) = some (nI c2, v2, y2) ∧ f_X8_sets_l61 H8 x1 m (nI c) z v (nI S) = some (nI c2, z2, v2) ∧ c2 ≤ 64 ∧ (c2 = 0 → z2 = 0) ∧ (c2 ≠ 0 → y2 = z2) := by
  have hp : 2 ^ n ≤ 2 ^ 6 := Nat.pow_le_pow_right (by omega) hn
  intro w
  induction w with
  | zero =>
    intro m S c y z v hS hm hc r1 r2
    obtain ⟨m, rfl⟩ : ∃ j, m = j + 1 := ⟨m - 1, by omega⟩
    refine ⟨c, v, y, z, ?_, ?_, by omega, fun g => (r1 g).2, r2⟩
    · simp only [f_X3_setsPaid_l39]
      rw [h7, shl1 (by omega), if_pos (nI_le (by omega) (by omega))]
    · simp only [f_X8_sets_l61]
      rw [show ag H8 64 80 0 = ag H8 64 80 (nI 0) from rfl, ag_n (by omega) (by omega), Option.bind_some, h8, shl1 (by omega), if_pos (nI_le (by omega) (by omega))]
  | succ w ih =>
    intro m S c y z v hS hm hc r1 r2
    obtain ⟨m, rfl⟩ : ∃ j, m = j + 1 := ⟨m - 1, by omega⟩
    simp only [f_X3_setsPaid_l39, f_X8_sets_l61]
    rw [h7, shl1 (by omega), if_neg (nI_ge (by omega) (by omega)), tog7 hn h7 d7 (by omega), Option.bind_some, show ag H8 64 80 0 = ag H8 64 80 (nI 0) from rfl, ag_n (by omega) (by omega), Option.bind_some, h8, shl1 (by omega), if_neg (nI_ge (by omega) (by omega)), tog8 hn h8 d8 (by omega), Option.bind_some, nI_1, nI_1]
    by_cases g : nI (tgs n d S) = x1
    · simp only [if_pos g]
      refine ih m (S + 1) (c + 1) _ _ _ (by omega) (by omega) (by omega) (fun q => by omega) (fun _ => ?_)
      have ec : (nI c = 0) = (c = 0) := nI_eq' (b := 0) (by omega) (by omega)
      simp only [ec]
      by_cases c0 : c = 0
      · rw [if_pos c0, (r1 c0).1, Int32.and_comm, pk_andN (by omega) n (by rw [pk_tn (by omega)]), Nat.mod_eq_of_lt (by omega)]
      · rw [if_neg c0, r2 c0]
    · simp only [if_neg g]
      exact ih m (S + 1) c _ _ _ (by omega) (by omega) (by omega) r1 r2
theorem q_sets {H : Hp} {R : Nat → Nat} (h : FU H R) (x1 x2 : Int32) : ∃ (r : Int32) (H1 H2 : Hp), f_X7_sets x1 x2 H = some (r, H1) ∧ f_X8_sets x1 x2 H1 = some (r, H2) := by
  have hr := h.1.1
  have m8 : ∀ H1, FU H1 R → f_X8_sets x1 x2 H1 = (if R 0 = 0 then some (-1000002, hset H1 60 0 0) else if x1 < 0 ∨ 999 < x1 then some (-1000001, hset H1 60 0 0) else if x2 < 0 ∨ 2 < x2 then some (-1000001, hset H1 60 0 0) else (f_X8_reckon 64 (hset H1 60 0 0)).bind fun H5 => (f_X8_sets_l61 H5 x1 fuel 0 0 0 0).bind fun l22 => some ((if x2 = 0 then l22.1 else (if x2 = 1 then l22.2.1 else l22.2.2)), H5)) := by
    intro H1 h1
    simp only [f_X8_sets, pf_e, Option.bind_some, in_0_2, in_0_999, within_eq]
    rw [isT8 (h1.t.2.1 0 (by omega)) (by omega)]
    simp only [Option.bind_some, bz]
  simp only [f_X7_sets, within_eq, st7 h.2.2, Option.bind_some, bz]
  by_cases g0 : R 0 = 0
  · simp only [if_pos g0]
    exact ⟨_, _, _, rfl, by rw [m8 H h, if_pos g0]⟩
  by_cases g1 : x1 < 0 ∨ 999 < x1
  · simp only [if_neg g0, if_pos g1]
    exact ⟨_, _, _, rfl, by rw [m8 H h, if_neg g0, if_pos g1]⟩
  by_cases g2 : x2 < 0 ∨ 2 < x2
  · simp only [if_neg g0, if_neg g1, if_pos g2]
    exact ⟨_, _, _, rfl, by rw [m8 H h, if_neg g0, if_neg g1, if_pos g2]⟩
  simp only [if_neg g0, if_neg g1, if_neg g2]
  obtain ⟨w, -, hw, rfl⟩ := i_rng x2 0 2 (by omega) (by omega) g2
  obtain ⟨Ha, Hb, a1, b1, hF, b2, b3, b4, b5, -⟩ := both h (by omega)
  obtain ⟨Hc, c1, c2, c3, c4, c5⟩ := reckon8 (r := 64) (by omega) (by omega) h.1 (by omega) hF.t.2.1
  have hp : 2 ^ R 0 ≤ 2 ^ 6 := Nat.pow_le_pow_right (by omega) hr
  obtain ⟨c, v2, y2, z2, s1, s2, s3, s4, s5⟩ := sets_loop (d := PD (R 0) (R 1) (CR R)) hr hF.2.2.2.2.2.1 (by rw [c2 64 0 (by omega) (by omega), hF.t.2.1 0 (by omega)]) (fun p hp => (b3 p hp).2) (fun p hp => (c4 p hp).2) x1 (2 ^ R 0) fuel 0 0 (nI (2 ^ R 0 - 1)) 0 0 (by omega) (by unfold fuel; omega) (by omega) (fun _ => ⟨rfl, rfl⟩) (fun q => absurd rfl q)
  unfold f_X3_setsPaid
  have ep : (1 : Int32) <<< (nI (R 0) &&& 31) - 1 = nI (2 ^ R 0 - 1) := by
    have := Nat.two_pow_pos (R 0)
    rw [shl1 (by omega)]
    exact pk_sub (b := 1) (by omega)
  rw [a1, Option.bind_some, b1, Option.bind_some, h.2.2.2.2.2.1, ep, show f_X3_setsPaid_l39 Hb x1 fuel 0 0 (nI (2 ^ R 0 - 1)) 0 = some (nI c, v2, y2) from s1, Option.bind_some]
  have e8 := m8 Hb hF
  rw [if_neg g0, if_neg g1, if_neg g2, c1, Option.bind_some, show f_X8_sets_l61 Hc x1 fuel 0 0 0 0 = some (nI c, z2, v2) from s2, Option.bind_some] at e8
  dsimp only at e8 ⊢
  have ec : (nI c = 0) = (c = 0) := nI_eq' (b := 0) (by omega) (by omega)
  simp only [ec]
  rcases (show w = 0 ∨ w = 1 ∨ w = 2 by omega) with rfl | rfl | rfl
  · exact ⟨_, _, _, rfl, e8⟩
  · refine ⟨z2, Hb, Hc, ?_, e8⟩
    rw [if_neg (by decide), if_neg (by decide)]
    dsimp only [Option.bind_some]
    by_cases c0 : c = 0
    · rw [if_pos c0, s4 c0]
    · rw [if_neg c0, s5 c0]
  · exact ⟨_, _, _, rfl, e8⟩
/-! halves -/
def hR (R : Nat → Nat) (g a b n k : Nat) : Nat → Nat := TG (TG R g a k) g b (n - k)
theorem TG3 (R : Nat → Nat) (g a v : Nat) : TG R g a v 3 ≤ R 3 + 1 := by
  unfold TG
  split
  · omega
  · rw [Pt_3]; omega
theorem hR_o {R : Nat → Nat} {g a b n k i : Nat} (h3 : R 3 ≤ 18) (h1 : i ≠ 3) (h2 : i < 10 ∨ 70 ≤ i) : hR R g a b n k i = R i := by
  have := TG3 R g a k
  unfold hR
  rw [TG_o h1 (by omega), TG_o h1 (by omega)]
theorem hR_w {R : Nat → Nat} (h : Rw R) {g a b n k : Nat} (h3 : R 3 ≤ 18) (hg : g < 10) (ha : a < R 0) (hb : b < R 0) (hn : n ≤ 40) (hk : k ≤ n) : Rw (hR R g a b n k) := by
  have := TG3 R g a k
  have w1 := Rw_TG (v := k) h (Or.inr (by omega)) hg ha (by omega)
  exact Rw_TG w1 (Or.inr (by omega)) hg (by rw [TG_o (by omega) (by omega)]; exact hb) (by omega)
theorem hR_t {R : Nat → Nat} (h : Rw R) {g a b n k : Nat} (h3 : R 3 ≤ 18) (hg : g < 10) (ha : a < R 0) (hn : n ≤ 40) (hk : k ≤ n) (x q : Nat) : tb (hR R g a b n k) x q = tb R x q + (if x = R (70 + g) ∧ q = a then k else 0) + (if x = R (70 + g) ∧ q = b then n - k else 0) := by
  have t3 := TG3 R g a k
  have w1 := Rw_TG (v := k) h (Or.inr (by omega)) hg ha (by omega)
  unfold hR
  rw [tb_TG w1 (Or.inr (by omega)) hg, tb_TG h (Or.inr (by omega)) hg, TG_o (by omega) (by omega)]
  unfold ts
  by_cases c1 : x = R (70 + g)
  · subst c1
    by_cases c2 : q = a
    · subst c2
      by_cases c3 : q = b
      · subst c3; simp
      · simp [c3]
    · by_cases c3 : q = b
      · subst c3; simp [c2]
      · simp [c2, c3]
  · simp [c1]
theorem tb_99 {R : Nat → Nat} (h : Rw R) (x p : Nat) : tb R x p ≤ R 3 * 99 := by
  obtain ⟨-, -, -, -, h5, -, h7, -⟩ := h
  exact sm_le (fun j hj => by
    have := (h7 j hj).2.2.2
    split <;> omega)
theorem hR_step {R : Nat → Nat} (h : Rw R) {g a b n k : Nat} (h3 : R 3 ≤ 18) (hg : g < 10) (ha : a < R 0) (hn : n ≤ 40) (hk : k < n) : ts (ts (tb (hR R g a b n k)) (R (70 + g)) a (tb (hR R g a b n k) (R (70 + g)) a + 1)) (R (70 + g)) b (ts (tb (hR R g a b n k)) (R (70 + g)) a (tb (hR R g a b n k) (R (70 + g)) a + 1) (R (70 + g)) b - 1) = tb (hR R g a b n (k + 1)) := by
  funext x q
  rw [hR_t h h3 hg ha hn (show k + 1 ≤ n by omega)]
  unfold ts
  simp only [hR_t h h3 hg ha hn (show k ≤ n by omega)]
  by_cases c1 : x = R (70 + g)
  · subst c1
    by_cases c2 : q = b
    · subst c2
      by_cases c3 : q = a
      · subst c3; simp; omega
      · simp [c3]; omega
    · by_cases c3 : q = a
      · subst c3; simp [c2]; omega
      · simp [c2, c3]
  · simp [c1]
noncomputable def gh (R : Nat → Nat) (g a b n k : Nat) : Int32 := nI (PD (R 0) (R 1) (CR (hR R g a b n k)) a + if a = b then 0 else PD (R 0) (R 1) (CR (hR R g a b n k)) b)
theorem half7 {H : Hp} {R : Nat → Nat} (h : FU H R) {g a b n : Nat} (h3 : R 3 ≤ 18) (hg : g < 10) (ha : a < R 0) (hb : b < R 0) (hn1 : 1 ≤ n) (hn : n ≤ 40) (x5 : Int32) : ∃ Hz, f_X3_bestHalves (nI g) (nI n) (nI a) (nI b) x5 H = some ((if x5 = 0 then (bf (gh R g a b n) (n + 1)).1 else (bf (gh R g a b n) (n + 1)).2), Hz) ∧ FU Hz R := by
  have hr := h.1.1
  have hnm := h.1.2.2.2.2.2.2.2 g hg
  obtain ⟨Ha, a1, a2, a3⟩ := load7 h.1 (by omega) h.2.2
  have ok := okR h.1 (show 0 < R 0 by omega)
  have t99 := tb_99 h.1
  have e0 : ts (tb R) (R (70 + g)) b (tb R (R (70 + g)) b + n) = tb (hR R g a b n 0) := by
    funext x q
    rw [hR_t h.1 h3 hg ha hn (by omega)]
    unfold ts
    by_cases c1 : x = R (70 + g) ∧ q = b
    · obtain ⟨rfl, rfl⟩ := c1; simp
    · simp [c1]
  have tl : tb R (R (70 + g)) b + n ≤ 1980 := by have := t99 (R (70 + g)) b; omega
  obtain ⟨H3, b1, b2⟩ := add7 ok a2 hnm hb rfl (nI n) (nI_add _ _) tl
  rw [e0] at b2
  have okk : ∀ k, k ≤ n → Ok (R 0) (R 2) (tb (hR R g a b n k)) := fun k hk => by
    have := tb_B (hR_w h.1 h3 hg ha hb hn hk)
    rw [hR_o h3 (by omega) (by omega)] at this
    exact ⟨hr, this, ok.2.2⟩
  obtain ⟨⟨y1, y2, Hz⟩, e1, e2, e3⟩ := up0 (fun m k (z : Int32 × Int32 × Hp) => f_X3_bestHalves_l43 (nI n) (nI a) (nI b) (nI (R (70 + g))) m z.1 z.2.1 (nI k) z.2.2) (n + 1) (by omega) (fun k z => (z.1, z.2.1) = bf (gh R g a b n) k ∧ FU z.2.2 R ∧ (k ≤ n → BO z.2.2 (R 0) (R 1) (R 2) (κR R) (tb (hR R g a b n k)) L0)) (fun z => (z.1, z.2.1) = bf (gh R g a b n) (n + 1) ∧ FU z.2.2 R) (0, 0, H3)
    ⟨rfl, h.fr (H2 := H3) (fun c k hc => by rw [fr_X2_add b1 c k (by omega), fr_X2_load a1 c k (by omega)]), fun _ => b2⟩
    (fun m z hz => ⟨z, by
      simp only [f_X3_bestHalves_l43]
      rw [if_pos (nI_lt (by omega) (by omega))], hz.1, hz.2.1⟩)
    (fun m k z hk hz => by
      obtain ⟨z1, z2, z3⟩ := hz
      have q1 : z.1 = (bf (gh R g a b n) k).1 := congrArg Prod.fst z1
      have q2 : z.2.1 = (bf (gh R g a b n) k).2 := congrArg Prod.snd z1
      obtain ⟨H4, s1, s2, s3, s4, s5⟩ := settle7 (okk k (by omega)) h.1.2.1 (z3 (by omega))
      have cl : ∀ q, q < R 0 → CB (κR R) (R 2) (tb (hR R g a b n k)) L0 q = CR (hR R g a b n k) q := fun q hq => (CR_like (hR_o h3 (by omega) (by omega)) (fun j hj => hR_o h3 (by omega) (by omega)) (by rw [mk0]) (by omega)).symm
      have ev : nI (PD (R 0) (R 1) (CB (κR R) (R 2) (tb (hR R g a b n k)) L0) a) + (if a = b then 0 else nI (PD (R 0) (R 1) (CB (κR R) (R 2) (tb (hR R g a b n k)) L0) b)) = gh R g a b n k := by
        rw [PD_congr cl ha, PD_congr cl hb]
        unfold gh
        split
        · exact nI_add _ 0
        · exact nI_add _ _
      have fold : ∀ j, f_X3_bestHalves_l43 (nI n) (nI a) (nI b) (nI (R (70 + g))) m (if nI k = 0 then nI k else if gh R g a b n k ≤ (bf (gh R g a b n) k).2 then (bf (gh R g a b n) k).1 else nI k) (if nI k = 0 then gh R g a b n k else if gh R g a b n k ≤ (bf (gh R g a b n) k).2 then (bf (gh R g a b n) k).2 else gh R g a b n k) (nI (k + 1)) j = f_X3_bestHalves_l43 (nI n) (nI a) (nI b) (nI (R (70 + g))) m (bf (gh R g a b n) (k + 1)).1 (bf (gh R g a b n) (k + 1)).2 (nI (k + 1)) j := by
        intro j
        have ek : (nI k = 0) = (k = 0) := nI_eq' (b := 0) (by omega) (by omega)
        simp only [ek, bf]
        by_cases k0 : k = 0
        · subst k0; simp only [if_true]; rfl
        · simp only [if_neg k0]
          by_cases gg : gh R g a b n k ≤ (bf (gh R g a b n) k).2
          · simp only [if_pos gg]
          · simp only [if_neg gg]
      have start : f_X3_bestHalves_l43 (nI n) (nI a) (nI b) (nI (R (70 + g))) (m + 1) z.1 z.2.1 (nI k) z.2.2 = Option.bind (if nI n ≤ nI k then some H4 else (f_X2_add (nI (R (70 + g))) (nI a) 1 H4).bind fun H8 => (f_X2_add (nI (R (70 + g))) (nI b) (-1) H8).bind fun H9 => some H9) fun j10 => f_X3_bestHalves_l43 (nI n) (nI a) (nI b) (nI (R (70 + g))) m (bf (gh R g a b n) (k + 1)).1 (bf (gh R g a b n) (k + 1)).2 (nI (k + 1)) j10 := by
        simp only [← fold]
        simp only [f_X3_bestHalves_l43]
        rw [if_neg (nI_nlt (by omega) (by omega)), s1, Option.bind_some, ag_n (by omega) (by omega), Option.bind_some, ag_n (by omega) (by omega), (s3 a ha).2, (s3 b hb).2, q1, q2, nI_1, ← ev]
        have eab : (nI a = nI b) = (a = b) := nI_eq' (by omega) (by omega)
        simp only [eab]
        by_cases gab : a = b
        · simp only [if_pos gab, Option.bind_some]
        · simp only [if_neg gab, Option.bind_some]
      rw [start]
      simp only [nI_le' (show n < 2 ^ 31 by omega) (show k < 2 ^ 31 by omega)]
      by_cases gk : n ≤ k
      · rw [if_pos gk, Option.bind_some]
        exact Or.inr ⟨((bf (gh R g a b n) (k + 1)).1, (bf (gh R g a b n) (k + 1)).2, H4), rfl, rfl, z2.fr (fun c j hc => fr_X2_settle s1 c j (by omega)), fun q => by omega⟩
      · rw [if_neg gk]
        have tt := hR_t h.1 (b := b) h3 hg ha hn (show k ≤ n by omega) (R (70 + g)) a
        have ttb := hR_t h.1 (b := b) h3 hg ha hn (show k ≤ n by omega) (R (70 + g)) b
        have u1 := t99 (R (70 + g)) a
        have u2 := t99 (R (70 + g)) b
        have bd1 : tb (hR R g a b n k) (R (70 + g)) a + 1 ≤ 1980 := by
          rw [tt]
          simp only [true_and, if_true]
          split <;> omega
        obtain ⟨H8, p1, p2⟩ := add7 (okk k (by omega)) s2 hnm ha rfl 1 (nI_1 _) bd1
        have bd2 : 1 ≤ ts (tb (hR R g a b n k)) (R (70 + g)) a (tb (hR R g a b n k) (R (70 + g)) a + 1) (R (70 + g)) b := by
          unfold ts
          split
          · omega
          · rw [ttb]; simp only [true_and, if_true]; omega
        have bd3 : ts (tb (hR R g a b n k)) (R (70 + g)) a (tb (hR R g a b n k) (R (70 + g)) a + 1) (R (70 + g)) b ≤ 1980 := by
          unfold ts
          split
          · exact bd1
          · exact ((okk k (by omega)).2.1 _ _).1
        obtain ⟨H9, r1, r2⟩ := add7 (v := ts (tb (hR R g a b n k)) (R (70 + g)) a (tb (hR R g a b n k) (R (70 + g)) a + 1) (R (70 + g)) b - 1) ⟨hr, ts_B (okk k (by omega)).2.1 ha bd1, ok.2.2⟩ p2 hnm hb rfl (-1) (by
          obtain ⟨u, hu⟩ := Nat.exists_eq_add_of_le' bd2
          rw [hu, pk_m1, Nat.add_sub_cancel]) (by omega)
        rw [hR_step h.1 h3 hg ha hn (by omega)] at r2
        rw [p1, Option.bind_some, r1, Option.bind_some, Option.bind_some]
        exact Or.inr ⟨((bf (gh R g a b n) (k + 1)).1, (bf (gh R g a b n) (k + 1)).2, H9), rfl, rfl, z2.fr (H2 := H9) (fun c j hc => by rw [fr_X2_add r1 c j (by omega), fr_X2_add p1 c j (by omega), fr_X2_settle s1 c j (by omega)]), fun _ => r2⟩)
  refine ⟨Hz, ?_, e3⟩
  have q1 : y1 = (bf (gh R g a b n) (n + 1)).1 := congrArg Prod.fst e2
  have q2 : y2 = (bf (gh R g a b n) (n + 1)).2 := congrArg Prod.snd e2
  unfold f_X3_bestHalves
  rw [ag_n hg (by omega), Option.bind_some, h.2.2.2.2.2.2.2.2.1 g hg, a1, Option.bind_some, b1, Option.bind_some, show f_X3_bestHalves_l43 (nI n) (nI a) (nI b) (nI (R (70 + g))) fuel 0 0 0 H3 = some (y1, y2, Hz) from e1, Option.bind_some, ← q1, ← q2]
theorem half8 {H : Hp} {R : Nat → Nat} (hRw : Rw R) (hH : Hr H 64 R) {g a b n : Nat} (h3 : R 3 ≤ 18) (hg : g < 10) (ha : a < R 0) (hb : b < R 0) (hn1 : 1 ≤ n) (hn : n ≤ 40) : ∃ Hz, f_X8_halves_l73 (nI g) (nI n) (nI a) (nI b) fuel (-1000000) 0 0 H = some ((bf (gh R g a b n) (n + 1)).1, (bf (gh R g a b n) (n + 1)).2, Hz) := by
  have hr := hRw.1
  obtain ⟨⟨y1, y2, Hz⟩, e1, e2⟩ := up0 (fun m k (z : Int32 × Int32 × Hp) => f_X8_halves_l73 (nI g) (nI n) (nI a) (nI b) m z.1 z.2.1 (nI k) z.2.2) (n + 1) (by omega) (fun k z => (z.1, z.2.1) = (if k = 0 then (-1000000, 0) else bf (gh R g a b n) k) ∧ Hr z.2.2 64 R) (fun z => (z.1, z.2.1) = bf (gh R g a b n) (n + 1)) (-1000000, 0, H)
    ⟨rfl, hH⟩
    (fun m z hz => ⟨z, by simp only [f_X8_halves_l73]; rw [if_pos (nI_lt (by omega) (by omega))], by rw [hz.1, if_neg (by omega)]⟩)
    (fun m k z hk hz => by
      obtain ⟨z1, z2⟩ := hz
      obtain ⟨H7, a1, a2, a3⟩ := then8 z2
      have t3 := TG3 R g a k
      have pa : ∃ j9, (if nI k ≤ 0 then some H7 else (f_X8_put 66 (nI g) (nI a) (nI k) H7).bind fun H8 => some H8) = some j9 ∧ Hr j9 66 (TG R g a k) ∧ ∀ c j, c ≠ 66 → j9 c j = z.2.2 c j := by
        by_cases k0 : k = 0
        · subst k0
          exact ⟨H7, by rw [if_pos (by decide)], by unfold TG; rw [if_pos rfl]; exact a2, a3⟩
        · obtain ⟨H8, p1, p2, p3⟩ := put8 a2 (by omega) g a k
          exact ⟨H8, by rw [if_neg (nI_nle (by omega) (by omega)), p1]; rfl, by unfold TG; rw [if_neg k0]; exact p2, fun c j hc => by rw [p3 c j hc, a3 c j hc]⟩
      obtain ⟨j9, b1, b2, b3⟩ := pa
      have pb : ∃ j11, (if nI n ≤ nI k then some j9 else (f_X8_put 66 (nI g) (nI b) (nI n - nI k) j9).bind fun H10 => some H10) = some j11 ∧ Hr j11 66 (hR R g a b n k) ∧ ∀ c j, c ≠ 66 → j11 c j = z.2.2 c j := by
        unfold hR
        simp only [nI_le' (show n < 2 ^ 31 by omega) (show k < 2 ^ 31 by omega)]
        by_cases kn : n ≤ k
        · exact ⟨j9, by rw [if_pos kn], by rw [show n - k = 0 by omega]; unfold TG at b2 ⊢; rw [if_pos rfl]; exact b2, b3⟩
        · rw [if_neg kn, pk_sub (by omega)]
          obtain ⟨H8, p1, p2, p3⟩ := put8 b2 (by omega) g b (n - k)
          refine ⟨H8, by rw [p1]; rfl, ?_, fun c j hc => by rw [p3 c j hc, b3 c j hc]⟩
          rw [show TG (TG R g a k) g b (n - k) = Pt (TG R g a k) g b (n - k) by rw [TG, if_neg (by omega)]]
          exact p2
      obtain ⟨j11, c1, c2, c3⟩ := pb
      obtain ⟨H12, d1, d2, -⟩ := rk66 (H := z.2.2) (hR_w hRw h3 hg ha hb hn (show k ≤ n by omega)) (by rw [hR_o h3 (by omega) (by omega)]; omega) c2 c3
      have e0 : hR R g a b n k 0 = R 0 := hR_o h3 (by omega) (by omega)
      have e1' : hR R g a b n k 1 = R 1 := hR_o h3 (by omega) (by omega)
      have va := (d2.2.2.1 a (by rw [e0]; exact ha)).2
      have vb := (d2.2.2.1 b (by rw [e0]; exact hb)).2
      rw [e0, e1'] at va vb
      have eg : (if nI a = nI b then (ag H12 73 6 (nI a)).bind fun v13 => some v13 else (ag H12 73 6 (nI a)).bind fun v14 => (ag H12 73 6 (nI b)).bind fun v15 => some (v14 + v15)) = some (gh R g a b n k) := by
        rw [ag_n (by omega) (by omega), ag_n (by omega) (by omega), va, vb]
        simp only [Option.bind_some, nI_eq' (show a < 2 ^ 31 by omega) (show b < 2 ^ 31 by omega)]
        unfold gh
        split
        · rfl
        · rw [nI_add]
      refine Or.inr ⟨((bf (gh R g a b n) (k + 1)).1, (bf (gh R g a b n) (k + 1)).2, H12), ?_, by rw [if_neg (by omega)], z2.fr (fun j _ => d2.1 64 j (by omega) (by omega))⟩
      simp only [f_X8_halves_l73]
      rw [if_neg (nI_nlt (by omega) (by omega)), a1, Option.bind_some, b1, Option.bind_some, c1, Option.bind_some, d1, Option.bind_some, eg, Option.bind_some, nI_1]
      by_cases k0 : k = 0
      · subst k0
        have q1 : z.1 = -1000000 := congrArg Prod.fst z1
        rw [q1, if_pos rfl, if_pos rfl]
        rfl
      · rw [if_neg k0] at z1
        have q1 : z.1 = (bf (gh R g a b n) k).1 := congrArg Prod.fst z1
        have q2 : z.2.1 = (bf (gh R g a b n) k).2 := congrArg Prod.snd z1
        obtain ⟨j, hj, ej⟩ := bf_1 (gh R g a b n) k
        have ne : ¬ (bf (gh R g a b n) k).1 = -1000000 := by rw [ej]; exact nI_none (by omega)
        rw [q1, q2, if_neg ne, if_neg ne]
        simp only [bf, if_neg k0]
        by_cases gg : gh R g a b n k ≤ (bf (gh R g a b n) k).2
        · simp only [if_pos gg]
        · simp only [if_neg gg])
  have q1 : y1 = (bf (gh R g a b n) (n + 1)).1 := congrArg Prod.fst e2
  have q2 : y2 = (bf (gh R g a b n) (n + 1)).2 := congrArg Prod.snd e2
  exact ⟨Hz, by rw [← q1, ← q2]; exact e1⟩
theorem q_halves {H : Hp} {R : Nat → Nat} (h : FU H R) (x1 x2 x3 x4 x5 : Int32) : ∃ (r : Int32) (H1 H2 : Hp), f_X7_halves x1 x2 x3 x4 x5 H = some (r, H1) ∧ f_X8_halves x1 x2 x3 x4 x5 H1 = some (r, H2) := by
  have hr := h.1.1
  have hg := h.1.2.2.2.2.1
  have m8 : ∀ H1, FU H1 R → f_X8_halves x1 x2 x3 x4 x5 H1 = (if R 0 = 0 ∨ (x1 < 0 ∨ 9 < x1) ∨ (x3 < 0 ∨ nI (R 0) ≤ x3) then some (-1000001, hset H1 60 0 0) else if x2 < 1 ∨ 40 < x2 then some (-1000001, hset H1 60 0 0) else if x4 < 0 ∨ nI (R 0) ≤ x4 then some (-1000001, hset H1 60 0 0) else if x5 < 0 ∨ 1 < x5 then some (-1000001, hset H1 60 0 0) else if nI (R 3) ≤ 18 then (f_X8_halves_l73 x1 x2 x3 x4 fuel (-1000000) 0 0 (hset H1 60 0 0)).bind fun l29 => some ((if x5 = 0 then l29.1 else l29.2.1), l29.2.2) else some (-1000003, hset H1 60 0 0)) := by
    intro H1 h1
    simp only [f_X8_halves, pf_e, Option.bind_some, in_1_40, in_0_1, within_eq]
    rw [isGv8 (h1.t.2.1 0 (by omega)) (by omega), isP8 (h1.t.2.1 0 (by omega)) (by omega), show ag (hset H1 60 0 0) 64 80 3 = ag (hset H1 60 0 0) 64 80 (nI 3) from rfl, ag_n (by omega) (by omega), h1.t.2.1 3 (by omega)]
    simp only [Option.bind_some, bz]
  have e18 : (nI (R 3) ≤ 18) = (R 3 ≤ 18) := nI_le' (b := 18) (by omega) (by omega)
  simp only [e18] at m8
  simp only [f_X7_halves, isG7, within_eq, isP7 h.2.2.2.2.2.1, Option.bind_some, bz, h.2.2.2.2.2.2.1, e18]
  by_cases g1 : x1 < 0 ∨ 9 < x1
  · simp only [if_pos g1]
    exact ⟨_, _, _, rfl, by rw [m8 H h, if_pos (Or.inr (Or.inl g1))]⟩
  simp only [if_neg g1]
  by_cases g3 : x3 < 0 ∨ nI (R 0) ≤ x3
  · simp only [if_pos g3]
    refine ⟨-1000001, H, hset H 60 0 0, by split <;> rfl, by rw [m8 H h, if_pos (Or.inr (Or.inr g3))]⟩
  obtain ⟨a, ha, rfl⟩ := gpI (by omega) g3
  have c0 := nor3 (show ¬ R 0 = 0 by omega) g1 g3
  by_cases g2 : x2 < 1 ∨ 40 < x2
  · simp only [if_pos g2]
    exact ⟨_, _, _, rfl, by rw [m8 H h, if_neg c0, if_pos g2]⟩
  simp only [if_neg g2, if_neg g3]
  by_cases g4 : x4 < 0 ∨ nI (R 0) ≤ x4
  · simp only [if_pos g4]
    exact ⟨_, _, _, rfl, by rw [m8 H h, if_neg c0, if_neg g2, if_pos g4]⟩
  by_cases g5 : x5 < 0 ∨ 1 < x5
  · simp only [if_neg g4, if_pos g5]
    exact ⟨_, _, _, rfl, by rw [m8 H h, if_neg c0, if_neg g2, if_neg g4, if_pos g5]⟩
  simp only [if_neg g4, if_neg g5]
  by_cases g6 : R 3 ≤ 18
  · rw [if_pos g6]
    obtain ⟨g, hg', rfl⟩ := giI g1
    obtain ⟨b, hb, rfl⟩ := gpI (by omega) g4
    obtain ⟨n, hn1, hn, rfl⟩ := i_rng x2 1 40 (by omega) (by omega) g2
    obtain ⟨Hz, z1, z2⟩ := half7 h g6 hg' ha hb hn1 hn x5
    obtain ⟨Hy, y1⟩ := half8 (a := a) (b := b) h.1 z2.t.2.1 g6 hg' ha hb hn1 hn
    rw [z1, Option.bind_some]
    exact ⟨_, _, _, rfl, by rw [m8 Hz z2, if_neg c0, if_neg g2, if_neg g4, if_neg g5, if_pos g6, y1, Option.bind_some]⟩
  · rw [if_neg g6]
    exact ⟨_, _, _, rfl, by rw [m8 H h, if_neg c0, if_neg g2, if_neg g4, if_neg g5, if_neg g6]⟩
