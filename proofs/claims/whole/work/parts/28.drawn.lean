/-! drawn -/
def Dr (T : Nat → Nat) (j g p c : Nat) : Nat → Nat := fun k => if k = 10 + 3 * j then g else if k = 11 + 3 * j then p else if k = 12 + 3 * j then c else T k
theorem Dr_o {T : Nat → Nat} {j g p c k : Nat} (h : k < 10 + 3 * j ∨ 13 + 3 * j ≤ k) : Dr T j g p c k = T k := by
  unfold Dr; rw [if_neg (by omega), if_neg (by omega), if_neg (by omega)]
theorem Dr_g (T : Nat → Nat) (j g p c : Nat) : Dr T j g p c (10 + 3 * j) = g := by unfold Dr; rw [if_pos rfl]
theorem Dr_p (T : Nat → Nat) (j g p c : Nat) : Dr T j g p c (11 + 3 * j) = p := by unfold Dr; rw [if_neg (by omega), if_pos rfl]
theorem Dr_c (T : Nat → Nat) (j g p c : Nat) : Dr T j g p c (12 + 3 * j) = c := by unfold Dr; rw [if_neg (by omega), if_neg (by omega), if_pos rfl]
theorem Dr_w {T : Nat → Nat} (h : Rw T) {j g p c : Nat} (hj : j < T 3) (hg : g < 10) (hp : p < T 0) (h1 : 1 ≤ c) (h2 : c ≤ 99) : Rw (Dr T j g p c) := by
  obtain ⟨r0, r1, r2, r3, r4, r5, r6, r7⟩ := h
  refine ⟨by rw [Dr_o (by omega)]; exact r0, by rw [Dr_o (by omega)]; exact r1, by rw [Dr_o (by omega)]; exact r2, by rw [Dr_o (by omega), Dr_o (by omega)]; exact r3, by rw [Dr_o (by omega)]; exact r4, fun q hq => ?_, fun i hi => ?_, fun a ha => by rw [Dr_o (by omega)]; exact r7 a ha⟩
  · rw [Dr_o (by omega)] at hq
    rw [Dr_o (by omega)]; exact r5 q hq
  · rw [Dr_o (by omega)] at hi
    rw [Dr_o (k := 0) (by omega)]
    by_cases q : i = j
    · rw [q, Dr_g, Dr_p, Dr_c]; exact ⟨hg, hp, h1, h2⟩
    · rw [Dr_o (by omega), Dr_o (by omega), Dr_o (by omega)]; exact r6 i hi
theorem Dr_t {T : Nat → Nat} (h : Rw T) {j g p c : Nat} (hj : j < T 3) (hg : g < 10) (x q : Nat) : tb (Dr T j g p c) x q + (if T (70 + T (10 + 3 * j)) = x ∧ T (11 + 3 * j) = q then T (12 + 3 * j) else 0) = tb T x q + (if T (70 + g) = x ∧ p = q then c else 0) := by
  have hb := h.2.2.2.2.1
  have := sm_upd (n := T 3) (g := j) (f := fun i => if T (70 + T (10 + 3 * i)) = x ∧ T (11 + 3 * i) = q then T (12 + 3 * i) else 0) (f2 := fun i => if Dr T j g p c (70 + Dr T j g p c (10 + 3 * i)) = x ∧ Dr T j g p c (11 + 3 * i) = q then Dr T j g p c (12 + 3 * i) else 0) hj (fun k hk hkj => by
    have := (h.2.2.2.2.2.2.1 k hk).1
    rw [Dr_o (k := 10 + 3 * k) (by omega), Dr_o (k := 11 + 3 * k) (by omega), Dr_o (k := 12 + 3 * k) (by omega), Dr_o (k := 70 + T (10 + 3 * k)) (by omega)])
  rw [Dr_g, Dr_p, Dr_c, Dr_o (k := 70 + g) (by omega)] at this
  unfold tb tk
  rw [Dr_o (k := 3) (by omega)]
  exact this
theorem Dr_ts {T : Nat → Nat} (h : Rw T) {j g p c : Nat} (hj : j < T 3) (hg : g < 10) : ts (ts (tb T) (T (70 + T (10 + 3 * j))) (T (11 + 3 * j)) (tb T (T (70 + T (10 + 3 * j))) (T (11 + 3 * j)) - T (12 + 3 * j))) (T (70 + g)) p (ts (tb T) (T (70 + T (10 + 3 * j))) (T (11 + 3 * j)) (tb T (T (70 + T (10 + 3 * j))) (T (11 + 3 * j)) - T (12 + 3 * j)) (T (70 + g)) p + c) = tb (Dr T j g p c) := by
  have ge : T (12 + 3 * j) ≤ tb T (T (70 + T (10 + 3 * j))) (T (11 + 3 * j)) := by
    have := sm_ge (n := T 3) (fun i => if T (70 + T (10 + 3 * i)) = T (70 + T (10 + 3 * j)) ∧ T (11 + 3 * i) = T (11 + 3 * j) then T (12 + 3 * i) else 0) hj
    rw [if_pos ⟨rfl, rfl⟩] at this
    exact this
  funext x q
  have e := Dr_t (p := p) (c := c) h hj hg x q
  unfold ts
  by_cases c1 : x = T (70 + g) ∧ q = p
  · rw [show (if T (70 + g) = x ∧ p = q then c else 0) = c from if_pos ⟨c1.1.symm, c1.2.symm⟩] at e
    rw [if_pos c1, ← c1.1, ← c1.2]
    rw [← c1.2] at e
    by_cases c2 : x = T (70 + T (10 + 3 * j)) ∧ q = T (11 + 3 * j)
    · rw [show (if T (70 + T (10 + 3 * j)) = x ∧ T (11 + 3 * j) = q then T (12 + 3 * j) else 0) = T (12 + 3 * j) from if_pos ⟨c2.1.symm, c2.2.symm⟩] at e
      rw [if_pos c2]
      rw [← c2.1, ← c2.2] at ge ⊢
      omega
    · rw [show (if T (70 + T (10 + 3 * j)) = x ∧ T (11 + 3 * j) = q then T (12 + 3 * j) else 0) = 0 from if_neg (fun z => c2 ⟨z.1.symm, z.2.symm⟩)] at e
      rw [if_neg c2]
      omega
  · rw [show (if T (70 + g) = x ∧ p = q then c else 0) = 0 from if_neg (fun z => c1 ⟨z.1.symm, z.2.symm⟩)] at e
    rw [if_neg c1]
    by_cases c2 : x = T (70 + T (10 + 3 * j)) ∧ q = T (11 + 3 * j)
    · rw [show (if T (70 + T (10 + 3 * j)) = x ∧ T (11 + 3 * j) = q then T (12 + 3 * j) else 0) = T (12 + 3 * j) from if_pos ⟨c2.1.symm, c2.2.symm⟩] at e
      rw [if_pos c2]
      rw [← c2.1, ← c2.2] at ge ⊢
      omega
    · rw [show (if T (70 + T (10 + 3 * j)) = x ∧ T (11 + 3 * j) = q then T (12 + 3 * j) else 0) = 0 from if_neg (fun z => c2 ⟨z.1.symm, z.2.symm⟩)] at e
      rw [if_neg c2]
      omega
def nx (x : Nat) : Nat := x * 16807 % 2147483647
def DR (T : Nat → Nat) (x : Nat) : Nat → Nat := if T 3 = 0 then T else Dr T (x % T 3) (x / 32 % 10) (x / 512 % T 0) (x / 4096 % 99 + 1)
theorem DR_w {T : Nat → Nat} (h : Rw T) (h0 : 0 < T 0) (x : Nat) : Rw (DR T x) := by
  unfold DR
  split
  · exact h
  · exact Dr_w h (Nat.mod_lt _ (by omega)) (Nat.mod_lt _ (by omega)) (Nat.mod_lt _ h0) (by omega) (by have := Nat.mod_lt (x / 4096) (show 0 < 99 by omega); omega)
theorem DR_o {T : Nat → Nat} (h : Rw T) (x : Nat) {k : Nat} (hk : k < 10 ∨ 70 ≤ k) : DR T x k = T k := by
  have := h.2.2.2.2.1
  unfold DR
  split
  · rfl
  · have := Nat.mod_lt x (show 0 < T 3 by omega)
    exact Dr_o (by omega)
theorem nxI {x : Nat} (hx : x < 2 ^ 31) : (lN x * 16807) - (lN x * 16807) / 2147483647 * 2147483647 = lN (nx x) := by
  rw [show (16807 : Int64) = lN 16807 from rfl, show (2147483647 : Int64) = lN 2147483647 from rfl, lN_mul, pk_lRem (by omega) (by omega) (by omega)]
  rfl
theorem nx_lt (x : Nat) : nx x < 2147483647 := Nat.mod_lt _ (by omega)
theorem rmI {x d : Nat} (hx : x < 2 ^ 31) (h0 : 0 < d) (hd : d < 2 ^ 31) : (lN x - lN x / lN d * lN d).toInt32 = nI (x % d) := by
  rw [pk_lRem (by omega) h0 (by omega), lN_i]
/-- the trial fund beside the board -/
def TR (H : Hp) (T : Nat → Nat) : Prop := Rp H 50 T
theorem redraw7 {H : Hp} {T : Nat → Nat} {n P e : Nat} {κ : Nat → Int32} (hT : Rw T) (h0 : 0 < T 0) (hn : T 0 = n) (ok : Ok n e (tb T)) (hP : Rp H 50 T) (hO : BO H n P e κ (tb T) L0) {x : Nat} (hx : x < 2 ^ 31) : ∃ H2, f_X3_redraw (lN x) H = some H2 ∧ Rp H2 50 (DR T x) ∧ BO H2 n P e κ (tb (DR T x)) L0 ∧ ∀ c k, (c < 38 ∨ (46 < c ∧ c < 53) ∨ 55 < c) → H2 c k = H c k := by
  obtain ⟨p0, p1, p2, p3, p4, p5, p6, p7⟩ := id hP
  have hg3 := hT.2.2.2.2.1
  have hr := hT.1
  unfold f_X3_redraw
  rw [p4]
  by_cases g : T 3 = 0
  · rw [g, if_pos (by decide)]
    have e : DR T x = T := by unfold DR; rw [if_pos g]
    rw [e]
    exact ⟨H, rfl, hP, hO, fun _ _ _ => rfl⟩
  rw [if_neg (nI_nle (by omega) (by omega)), p3, if_pos (show (0 : Int32) < _ from nI_lt (a := 0) (by omega) (by omega)), nI_l (show T 3 < 2 ^ 31 by omega), if_neg (by rw [show (0 : Int64) = lN 0 from rfl, pk_lEQ (by omega) (by omega)]; omega), rmI hx (by omega) (by omega)]
  have hj := Nat.mod_lt x (show 0 < T 3 by omega)
  obtain ⟨g1, g2, g3, g4⟩ := hT.2.2.2.2.2.2.1 _ hj
  have g5 := hT.2.2.2.2.2.2.2 _ g1
  obtain ⟨q1, q2, q3⟩ := p7 _ hj
  have ge : T (12 + 3 * (x % T 3)) ≤ tb T (T (70 + T (10 + 3 * (x % T 3)))) (T (11 + 3 * (x % T 3))) := by
    have := sm_ge (n := T 3) (fun i => if T (70 + T (10 + 3 * i)) = T (70 + T (10 + 3 * (x % T 3))) ∧ T (11 + 3 * i) = T (11 + 3 * (x % T 3)) then T (12 + 3 * i) else 0) hj
    rw [if_pos ⟨rfl, rfl⟩] at this
    exact this
  have tl := (tb_B hT (T (70 + T (10 + 3 * (x % T 3)))) (T (11 + 3 * (x % T 3)))).1
  obtain ⟨H5, a1, a2⟩ := add7 (v := tb T (T (70 + T (10 + 3 * (x % T 3)))) (T (11 + 3 * (x % T 3))) - T (12 + 3 * (x % T 3))) ok hO g5 (show T (11 + 3 * (x % T 3)) < n by omega) rfl (-nI (T (12 + 3 * (x % T 3)))) (by rw [← Int32.sub_eq_add_neg, pk_sub ge]) (by omega)
  have g10 := Nat.mod_lt (x / 32) (show 0 < 10 by omega)
  have pn := Nat.mod_lt (x / 512) h0
  have c99 := Nat.mod_lt (x / 4096) (show 0 < 99 by omega)
  have nn := hT.2.2.2.2.2.2.2 _ g10
  have hw := Dr_w (j := x % T 3) (g := x / 32 % 10) (p := x / 512 % T 0) (c := x / 4096 % 99 + 1) hT hj g10 pn (by omega) (by omega)
  have hB5 : Bt n (ts (tb T) (T (70 + T (10 + 3 * (x % T 3)))) (T (11 + 3 * (x % T 3))) (tb T (T (70 + T (10 + 3 * (x % T 3)))) (T (11 + 3 * (x % T 3))) - T (12 + 3 * (x % T 3)))) := ts_B ok.2.1 (by omega) (by omega)
  have f5 : ∀ c k, (c < 38 ∨ 46 < c) → H5 c k = H c k := fun c k hc => fr_X2_add a1 c k (by omega)
  have hO8 : BO (hset (hset (hset H5 53 (x % T 3) (nI (x / 32 % 10))) 54 (x % T 3) (nI (x / 512 % T 0))) 55 (x % T 3) (nI (x / 4096 % 99 + 1))) n P e κ _ L0 := a2.fr (fun c k hc => by rw [hset_c (by omega), hset_c (by omega), hset_c (by omega)])
  have e2 := Dr_ts (p := x / 512 % T 0) (c := x / 4096 % 99 + 1) hT hj g10
  have tl2 : ts (tb T) (T (70 + T (10 + 3 * (x % T 3)))) (T (11 + 3 * (x % T 3))) (tb T (T (70 + T (10 + 3 * (x % T 3)))) (T (11 + 3 * (x % T 3))) - T (12 + 3 * (x % T 3))) (T (70 + x / 32 % 10)) (x / 512 % T 0) + (x / 4096 % 99 + 1) ≤ 1980 := by
    have := (tb_B hw (T (70 + x / 32 % 10)) (x / 512 % T 0)).1
    rw [← e2, ts_at] at this
    exact this
  obtain ⟨H13, b1, b2⟩ := add7 ⟨ok.1, hB5, ok.2.2⟩ hO8 nn (show x / 512 % T 0 < n by omega) rfl (nI (x / 4096 % 99 + 1)) (nI_add _ _) tl2
  rw [e2] at b2
  have eD : DR T x = Dr T (x % T 3) (x / 32 % 10) (x / 512 % T 0) (x / 4096 % 99 + 1) := by unfold DR; rw [if_neg g]
  rw [eD]
  have f13 : ∀ c k, (c < 38 ∨ 46 < c) → H13 c k = hset (hset (hset H5 53 (x % T 3) (nI (x / 32 % 10))) 54 (x % T 3) (nI (x / 512 % T 0))) 55 (x % T 3) (nI (x / 4096 % 99 + 1)) c k := fun c k hc => fr_X2_add b1 c k (by omega)
  refine ⟨H13, ?_, ?_, b2, fun c k hc => by rw [f13 c k (by omega), hset_c (by omega), hset_c (by omega), hset_c (by omega), f5 c k (by omega)]⟩
  · rw [ag_n (show x % T 3 < 20 by omega) (by omega), Option.bind_some, show (53 : Nat) = 50 + 3 from rfl, q1, show (52 : Nat) = 50 + 2 from rfl, ag_n g1 (by omega), Option.bind_some, p6 _ g1, ag_n (show x % T 3 < 20 by omega) (by omega), Option.bind_some, show (54 : Nat) = 50 + 4 from rfl, q2, ag_n (show x % T 3 < 20 by omega) (by omega), Option.bind_some, show (55 : Nat) = 50 + 5 from rfl, q3, a1, Option.bind_some]
    rw [show (32 : Int64) = lN 32 from rfl, pk_lDiv (by omega) (by omega) (by omega), show (10 : Int64) = lN 10 from rfl, rmI (by omega) (by omega) (by omega), as_n (by omega) (by omega), Option.bind_some, hset_c (show 50 ≠ 50 + 3 by omega), f5 50 3 (by omega), p3, nI_l (by omega), if_neg (by rw [show (0 : Int64) = lN 0 from rfl, pk_lEQ (by omega) (by omega)]; omega), show (512 : Int64) = lN 512 from rfl, pk_lDiv (by omega) (by omega) (by omega), rmI (by omega) (by omega) (by omega), as_n (by omega) (by omega), Option.bind_some, show (4096 : Int64) = lN 4096 from rfl, pk_lDiv (by omega) (by omega) (by omega), show (99 : Int64) = lN 99 from rfl, rmI (by omega) (by omega) (by omega), nI_1, as_n (by omega) (by omega), Option.bind_some]
    rw [ag_n (by omega) (by omega), Option.bind_some, hset_c (show 50 + 3 ≠ 50 + 5 by omega), hset_c (show 50 + 3 ≠ 50 + 4 by omega), hset_self, ag_n (by omega) (by omega), Option.bind_some, hset_c (show 50 + 2 ≠ 50 + 5 by omega), hset_c (show 50 + 2 ≠ 50 + 4 by omega), hset_c (show 50 + 2 ≠ 50 + 3 by omega), f5 _ _ (by omega), p6 _ g10, ag_n (by omega) (by omega), Option.bind_some, hset_c (show 50 + 4 ≠ 50 + 5 by omega), hset_self, ag_n (by omega) (by omega), Option.bind_some, hset_self, b1]; rfl
  · have fr : ∀ c k, 50 ≤ c → c ≤ 55 → ¬ (53 ≤ c ∧ k = x % T 3) → H13 c k = H c k := fun c k h1 h2 h3 => by
      rw [f13 c k (by omega), hset_if, if_neg (by omega), hset_if, if_neg (by omega), hset_if, if_neg (by omega), f5 c k (by omega)]
    refine ⟨?_, ?_, ?_, ?_, ?_, fun p hp => ?_, fun a ha => ?_, fun i hi => ?_⟩
    · rw [fr _ _ (by omega) (by omega) (by omega), p0, Dr_o (by omega)]
    · rw [fr _ _ (by omega) (by omega) (by omega), p1, Dr_o (by omega)]
    · rw [fr _ _ (by omega) (by omega) (by omega), p2, Dr_o (by omega)]
    · rw [fr _ _ (by omega) (by omega) (by omega), p3, Dr_o (by omega)]
    · rw [fr _ _ (by omega) (by omega) (by omega), p4, Dr_o (by omega)]
    · rw [Dr_o (by omega)] at hp
      rw [fr _ _ (by omega) (by omega) (by omega), p5 p hp, Dr_o (by omega)]
    · rw [fr _ _ (by omega) (by omega) (by omega), p6 a ha, Dr_o (by omega)]
    · rw [Dr_o (by omega)] at hi
      by_cases q : i = x % T 3
      · rw [q, Dr_g, Dr_p, Dr_c, f13 _ _ (by omega), f13 _ _ (by omega), f13 _ _ (by omega)]
        refine ⟨?_, ?_, ?_⟩
        · rw [hset_c (show 50 + 3 ≠ 55 by omega), hset_c (show 50 + 3 ≠ 54 by omega)]; exact hset_self
        · rw [hset_c (show 50 + 4 ≠ 55 by omega)]; exact hset_self
        · exact hset_self
      · rw [fr _ _ (by omega) (by omega) (by omega), fr _ _ (by omega) (by omega) (by omega), fr _ _ (by omega) (by omega) (by omega), Dr_o (by omega), Dr_o (by omega), Dr_o (by omega)]
        exact p7 i hi
def dz (R : Nat → Nat) (s : Nat) : Nat → Nat × (Nat → Nat)
  | 0 => (s, R)
  | k + 1 => (nx (dz R s k).1, DR (dz R s k).2 (nx (dz R s k).1))
theorem dz_f {R : Nat → Nat} (h : Rw R) (h0 : 0 < R 0) {s : Nat} (hs : s < 2 ^ 31) (k : Nat) : Rw (dz R s k).2 ∧ (∀ i, i < 10 ∧ i ≠ 3 ∨ 70 ≤ i → (dz R s k).2 i = R i) ∧ (dz R s k).1 < 2 ^ 31 := by
  induction k with
  | zero => exact ⟨h, fun _ _ => rfl, hs⟩
  | succ k ih =>
    obtain ⟨i1, i2, i3⟩ := ih
    have e0 := i2 0 (by omega)
    refine ⟨DR_w i1 (by omega) _, fun i hi => ?_, Nat.lt_trans (nx_lt _) (by omega)⟩
    simp only [dz]
    rw [DR_o i1 _ (by omega), i2 i hi]
noncomputable def dp (R : Nat → Nat) (s k : Nat) : Nat := sm (R 0) (PD (R 0) (R 1) (CR (dz R s (k + 1)).2))
theorem dz_ok {R : Nat → Nat} (h : Rw R) (h0 : 0 < R 0) {s : Nat} (hs : s < 2 ^ 31) (k : Nat) : Ok (R 0) (R 2) (tb (dz R s k).2) ∧ ∀ q, q < R 0 → CB (κR R) (R 2) (tb (dz R s k).2) L0 q = CR (dz R s k).2 q := by
  obtain ⟨i1, i2, i3⟩ := dz_f h h0 hs k
  have b := tb_B i1
  rw [i2 0 (by omega)] at b
  have hr := h.1
  refine ⟨⟨h.1, b, h.2.2.2.1 h0, h.2.2.1⟩, fun q hq => (CR_like (i2 2 (by omega)) (fun j hj => ?_) (by rw [mk0]) (by omega)).symm⟩
  exact i2 _ (by omega)
theorem years7 {H : Hp} {R : Nat → Nat} (h : FU H R) (h0 : 0 < R 0) {n s : Nat} (hn : n ≤ 60) (hs : s < 2 ^ 31) (x3 : Int32) : ∃ Hz, f_X3_years (nI n) (nI s) x3 H = some ((if x3 = 0 then nI (sm n (dp R s)) else nI (RE (R 0) (R 1) (CR (dz R s n).2))), Hz) ∧ FU Hz R := by
  have hr := h.1.1
  obtain ⟨H1, l1, l2, l3⟩ := like7 (H := H) (b := 50) (o := 7) (by omega) h.1 h.2.2
  have hF1 : FU H1 R := h.fr (fun c k hc => l3 c k (by omega))
  obtain ⟨Ha, Hb, a1, b1, hF, b2, b3, b4, b5, b6⟩ := both hF1 h0
  obtain ⟨⟨y, Hz⟩, e1, e2, e3, e4⟩ := up0 (fun m k (z : Int32 × Hp) => f_X3_years_l39 (nI n) m z.1 (lN (dz R s k).1) (nI k) z.2) n (by omega) (fun k z => z.1 = nI (sm k (dp R s)) ∧ FU z.2 R ∧ z.2 38 14 = nI (RE (R 0) (R 1) (CR (dz R s k).2)) ∧ Rp z.2 50 (dz R s k).2 ∧ BO z.2 (R 0) (R 1) (R 2) (κR R) (tb (dz R s k).2) L0) (fun z => z.1 = nI (sm n (dp R s)) ∧ FU z.2 R ∧ z.2 38 14 = nI (RE (R 0) (R 1) (CR (dz R s n).2))) (0, Hb)
    ⟨by rw [sm_0]; rfl, hF, b5, l2.fr (fun c k h1 h2 => b6 c k (by omega)), b2⟩
    (fun m z hz => ⟨z, by simp only [f_X3_years_l39]; rw [if_pos (nI_le (Nat.le_refl _) (by omega))], hz.1, hz.2.1, hz.2.2.1⟩)
    (fun m k z hk hz => by
      obtain ⟨z1, z2, z3, z4, z5⟩ := hz
      obtain ⟨i1, i2, i3⟩ := dz_f h.1 h0 hs k
      obtain ⟨ok1, cr1⟩ := dz_ok h.1 h0 hs k
      obtain ⟨ok2, cr2⟩ := dz_ok h.1 h0 hs (k + 1)
      obtain ⟨H4, p1, p2, p3, p4⟩ := redraw7 i1 (by rw [i2 0 (by omega)]; exact h0) (i2 0 (by omega)) ok1 z4 z5 (Nat.lt_trans (nx_lt (dz R s k).1) (by omega))
      obtain ⟨H5, s1, s2, s3, s4, s5⟩ := settle7 (s := tb (dz R s (k + 1)).2) ok2 h.1.2.1 p3
      have e5 := allp7 hr s2.1.1 (fun p hp => (s3 p hp).2)
      have ed : sm (R 0) (PD (R 0) (R 1) (CB (κR R) (R 2) (tb (dz R s (k + 1)).2) L0)) = dp R s k := sm_congr (fun p hp => PD_congr cr2 hp)
      rw [ed] at e5
      have f5 : ∀ c j, (c < 38 ∨ (48 < c ∧ c < 53) ∨ 55 < c) → H5 c j = z.2 c j := fun c j hc => by rw [fr_X2_settle s1 c j (by omega), p4 c j (by omega)]
      refine Or.inr ⟨(nI (sm (k + 1) (dp R s)), H5), ?_, rfl, z2.fr (fun c j hc => f5 c j (by omega)), ?_, p2.fr (fun c j h1 h2 => fr_X2_settle s1 c j (by omega)), s2⟩
      · simp only [f_X3_years_l39]
        rw [if_neg (nI_ge hk (by omega)), nxI i3, p1, Option.bind_some, s1, Option.bind_some, e5, Option.bind_some, z1, nI_add, nI_1, sm_s]
        rfl
      · dsimp only
        rw [s5, RE_congr cr2])
  refine ⟨Hz, ?_, e3⟩
  unfold f_X3_years
  rw [l1, Option.bind_some, a1, Option.bind_some, b1, Option.bind_some, nI_l hs, show f_X3_years_l39 (nI n) fuel 0 (lN s) 0 Hb = some (y, Hz) from e1, Option.bind_some]
  dsimp only at e2 e4 ⊢
  rw [e2, e4]
theorem drawn8 {H : Hp} {R : Nat → Nat} (hR : Rw R) (hH : Hr H 64 R) (h0 : 0 < R 0) {n s : Nat} (hn : n ≤ 60) (hs : s < 2 ^ 31) : ∃ H6 H7 Hz, f_X8_layThen H = some H6 ∧ f_X8_reckon 66 H6 = some H7 ∧ f_X8_drawn_l74 (nI n) fuel (lN s) 0 0 H7 = some (nI (sm n (dp R s)), Hz) ∧ Hz 60 24 = nI (RE (R 0) (R 1) (CR (dz R s n).2)) := by
  have hr := hR.1
  obtain ⟨Ha, a1, a2, a3⟩ := then8 hH
  obtain ⟨Hb, b1, b2, b3⟩ := rk66 (H := H) hR h0 a2 a3
  obtain ⟨⟨y, Hz⟩, e1, e2, e3⟩ := up0 (fun m k (z : Int32 × Hp) => f_X8_drawn_l74 (nI n) m (lN (dz R s k).1) z.1 (nI k) z.2) n (by omega) (fun k z => z.1 = nI (sm k (dp R s)) ∧ z.2 60 24 = nI (RE (R 0) (R 1) (CR (dz R s k).2)) ∧ Hr z.2 66 (dz R s k).2) (fun z => z.1 = nI (sm n (dp R s)) ∧ z.2 60 24 = nI (RE (R 0) (R 1) (CR (dz R s n).2))) (0, Hb)
    ⟨by rw [sm_0]; rfl, b2.2.2.2, b3⟩
    (fun m z hz => ⟨z, by simp only [f_X8_drawn_l74]; rw [if_pos (nI_le (Nat.le_refl _) (by omega))], hz.1, hz.2.1⟩)
    (fun m k z hk hz => by
      obtain ⟨z1, z2, z3⟩ := hz
      obtain ⟨i1, i2, i3⟩ := dz_f hR h0 hs k
      obtain ⟨j1, j2, j3⟩ := dz_f hR h0 hs (k + 1)
      have hx := nx_lt (dz R s k).1
      have t3 := i1.2.2.2.2.1
      have t0 := i2 0 (by omega)
      have pj : ∃ j12, (if nI ((dz R s k).2 3) ≤ 0 then some z.2 else (ag z.2 66 80 3).bind fun v9 => if v9.toInt64 = 0 then none else (ag z.2 66 80 0).bind fun v10 => if v10.toInt64 = 0 then none else (f_X8_lay 66 (lN (nx (dz R s k).1) - lN (nx (dz R s k).1) / v9.toInt64 * v9.toInt64).toInt32 ((lN (nx (dz R s k).1) / 32) - (lN (nx (dz R s k).1) / 32) / 10 * 10).toInt32 ((lN (nx (dz R s k).1) / 512) - (lN (nx (dz R s k).1) / 512) / v10.toInt64 * v10.toInt64).toInt32 (((lN (nx (dz R s k).1) / 4096) - (lN (nx (dz R s k).1) / 4096) / 99 * 99).toInt32 + 1) z.2).bind fun H11 => some H11) = some j12 ∧ Hr j12 66 (dz R s (k + 1)).2 ∧ ∀ c j, c ≠ 66 → j12 c j = z.2 c j := by
        by_cases g : (dz R s k).2 3 = 0
        · refine ⟨z.2, by rw [g, if_pos (by decide)], ?_, fun _ _ _ => rfl⟩
          simp only [dz]
          unfold DR
          rw [if_pos g]; exact z3
        · have hj := Nat.mod_lt (nx (dz R s k).1) (show 0 < (dz R s k).2 3 by omega)
          rw [if_neg (nI_nle (by omega) (by omega)), show ag z.2 66 80 3 = ag z.2 66 80 (nI 3) from rfl, ag_n (by omega) (by omega), Option.bind_some, z3 3 (by omega), nI_l (by omega), if_neg (by rw [show (0 : Int64) = lN 0 from rfl, pk_lEQ (by omega) (by omega)]; omega), show ag z.2 66 80 0 = ag z.2 66 80 (nI 0) from rfl, ag_n (by omega) (by omega), Option.bind_some, z3 0 (by omega), nI_l (by omega), if_neg (by rw [show (0 : Int64) = lN 0 from rfl, pk_lEQ (by omega) (by omega)]; omega), rmI (by omega) (by omega) (by omega), show (32 : Int64) = lN 32 from rfl, pk_lDiv (by omega) (by omega) (by omega), show (10 : Int64) = lN 10 from rfl, rmI (by omega) (by omega) (by omega), show (512 : Int64) = lN 512 from rfl, pk_lDiv (by omega) (by omega) (by omega), rmI (by omega) (by omega) (by omega), show (4096 : Int64) = lN 4096 from rfl, pk_lDiv (by omega) (by omega) (by omega), show (99 : Int64) = lN 99 from rfl, rmI (by omega) (by omega) (by omega), nI_1, lay8 (by omega), Option.bind_some]
          refine ⟨_, rfl, fun i hi => ?_, fun c j hc => by rw [hset_c hc, hset_c hc, hset_c hc]⟩
          simp only [dz]
          unfold DR
          rw [if_neg g]
          by_cases q2 : i = 12 + 3 * (nx (dz R s k).1 % (dz R s k).2 3)
          · rw [q2, hset_self, Dr_c]
          rw [hset_k q2]
          by_cases q1 : i = 11 + 3 * (nx (dz R s k).1 % (dz R s k).2 3)
          · rw [q1, hset_self, Dr_p]
          rw [hset_k q1]
          by_cases q0 : i = 10 + 3 * (nx (dz R s k).1 % (dz R s k).2 3)
          · rw [q0, hset_self, Dr_g]
          rw [hset_k q0, z3 i hi, Dr_o (by omega)]
      obtain ⟨j12, p1, p2, p3⟩ := pj
      obtain ⟨H13, c1, c2, c3⟩ := rk66 (H := z.2) j1 (by rw [j2 0 (by omega)]; exact h0) p2 p3
      have re := c2.2.2.2
      rw [j2 0 (by omega), j2 1 (by omega)] at re
      have ps := PD_sum (n := R 0) (P := R 1) (c := CR (dz R s (k + 1)).2)
      refine Or.inr ⟨(nI (sm (k + 1) (dp R s)), H13), ?_, rfl, re, c3⟩
      simp only [f_X8_drawn_l74]
      rw [if_neg (nI_ge hk (by omega)), nxI i3, show ag z.2 66 80 3 = ag z.2 66 80 (nI 3) from rfl, ag_n (by omega) (by omega), Option.bind_some, z3 3 (by omega)]
      rw [show ag z.2 66 80 3 = ag z.2 66 80 (nI 3) from rfl, ag_n (show 3 < 80 by omega) (by omega), z3 3 (by omega)] at p1
      rw [p1, Option.bind_some, c1, Option.bind_some, show ag H13 66 80 1 = ag H13 66 80 (nI 1) from rfl, ag_n (by omega) (by omega), Option.bind_some, c3 1 (by omega), j2 1 (by omega), re, pk_sub (by omega), z1, nI_add, nI_1, sm_s, show R 1 - RE (R 0) (R 1) (CR (dz R s (k + 1)).2) = dp R s k by unfold dp; omega]
      rfl)
  exact ⟨Ha, Hb, Hz, a1, b1, by rw [← show y = nI (sm n (dp R s)) from e2]; exact e1, e3⟩
theorem q_drawn {H : Hp} {R : Nat → Nat} (h : FU H R) (x1 x2 x3 : Int32) : ∃ (r : Int32) (H1 H2 : Hp), f_X7_drawn x1 x2 x3 H = some (r, H1) ∧ f_X8_drawn x1 x2 x3 H1 = some (r, H2) := by
  have hr := h.1.1
  have m8 : ∀ H1, FU H1 R → f_X8_drawn x1 x2 x3 H1 = (if R 0 = 0 then some (-1000002, hset H1 60 0 0) else if x1 < 0 ∨ 60 < x1 then some (-1000001, hset H1 60 0 0) else if x2 < 1 ∨ 999999 < x2 then some (-1000001, hset H1 60 0 0) else if x3 < 0 ∨ 1 < x3 then some (-1000001, hset H1 60 0 0) else (f_X8_layThen (hset H1 60 0 0)).bind fun H6 => (f_X8_reckon 66 H6).bind fun H7 => (f_X8_drawn_l74 x1 fuel x2.toInt64 0 0 H7).bind fun l20 => some ((if x3 = 0 then l20.1 else (l20.2 60 24)), l20.2)) := by
    intro H1 h1
    simp only [f_X8_drawn, pf_e, Option.bind_some, in_0_60, in_1_999999, in_0_1, within_eq]
    rw [isT8 (h1.t.2.1 0 (by omega)) (by omega)]
    simp only [Option.bind_some, bz]
  simp only [f_X7_drawn, within_eq, st7 h.2.2, Option.bind_some, bz]
  by_cases g0 : R 0 = 0
  · simp only [if_pos g0]
    exact ⟨_, _, _, rfl, by rw [m8 H h, if_pos g0]⟩
  by_cases g1 : x1 < 0 ∨ 60 < x1
  · simp only [if_neg g0, if_pos g1]
    exact ⟨_, _, _, rfl, by rw [m8 H h, if_neg g0, if_pos g1]⟩
  by_cases g2 : x2 < 1 ∨ 999999 < x2
  · simp only [if_neg g0, if_neg g1, if_pos g2]
    exact ⟨_, _, _, rfl, by rw [m8 H h, if_neg g0, if_neg g1, if_pos g2]⟩
  by_cases g3 : x3 < 0 ∨ 1 < x3
  · simp only [if_neg g0, if_neg g1, if_neg g2, if_pos g3]
    exact ⟨_, _, _, rfl, by rw [m8 H h, if_neg g0, if_neg g1, if_neg g2, if_pos g3]⟩
  simp only [if_neg g0, if_neg g1, if_neg g2, if_neg g3]
  obtain ⟨n, -, hn, rfl⟩ := i_rng x1 0 60 (by omega) (by omega) g1
  obtain ⟨s, -, hs, rfl⟩ := i_rng x2 1 999999 (by omega) (by omega) g2
  obtain ⟨Hz, z1, z2⟩ := years7 h (by omega) hn (show s < 2 ^ 31 by omega) x3
  obtain ⟨H6, H7, Hy, y1, y2, y3, y4⟩ := drawn8 h.1 z2.t.2.1 (by omega) hn (show s < 2 ^ 31 by omega)
  rw [z1, Option.bind_some]
  exact ⟨_, _, _, rfl, by rw [m8 Hz z2, if_neg g0, if_neg g1, if_neg g2, if_neg g3, y1, Option.bind_some, y2, Option.bind_some, nI_l (by omega), y3, Option.bind_some]; dsimp only; rw [y4]⟩
