/-! likely: the component's cases -/
def Ls (s : Nat) : Nat → Bool := fun a => decide (s / 2 ^ a % 2 = 1)
theorem Ls_hi {s g a : Nat} (h : s < 2 ^ g) (ha : g ≤ a) : Ls s a = false := by
  unfold Ls
  rw [Nat.div_eq_of_lt (Nat.lt_of_lt_of_le h (Nat.pow_le_pow_right (by omega) ha))]
  rfl
theorem Ls_add {s g : Nat} (h : s < 2 ^ g) : Lp (Ls s) g true = Ls (s + 2 ^ g) := by
  funext a
  unfold Lp
  by_cases h1 : a = g
  · rw [if_pos h1, h1]
    unfold Ls
    rw [Nat.add_div_right _ (Nat.two_pow_pos g), Nat.div_eq_of_lt h]
    rfl
  · rw [if_neg h1]
    by_cases h2 : a < g
    · unfold Ls
      have e : 2 ^ g = 2 ^ a * (2 * 2 ^ (g - a - 1)) := by
        rw [← Nat.mul_assoc, ← Nat.pow_succ, ← Nat.pow_add]
        congr 1
        omega
      rw [e, Nat.add_mul_div_left _ _ (Nat.two_pow_pos a)]
      congr 2
      omega
    · rw [Ls_hi h (by omega), Ls_hi (g := g + 1) (by rw [Nat.pow_succ]; omega) (by omega)]
theorem Ls_0 : Ls 0 = L0 := by
  funext a
  unfold Ls L0
  rw [Nat.zero_div]; rfl
noncomputable def ind (R : Nat → Nat) (q v S : Nat) : Nat := if v ≤ PD (R 0) (R 1) (CB (κR R) (R 2) (tb R) (Ls S)) q then 1 else 0
noncomputable def gs (R : Nat → Nat) (g : Nat) : Bool := decide (0 < sm 6 (tb R g))
theorem PD_le {n P : Nat} {c : Nat → Nat} (p : Nat) (hp : p < n) (hP : P ≤ 999) : PD n P c p ≤ 999 := by
  have h1 := PD_sum (n := n) (P := P) (c := c)
  have h2 := sm_ge (n := n) (PD n P c) hp
  omega
theorem cases7 {R : Nat → Nat} (hR : Rw R) {q v p : Nat} (hq : q < R 0) (hv : v ≤ 9999) (hp : p ≤ 10) : ∀ (d g m s : Nat) (H : Hp), g + d = 10 → d < m → s < 2 ^ g → BO H (R 0) (R 1) (R 2) (κR R) (tb R) (Ls s) → ∃ H2, f_X3_casesPaid m (nI g) (nI q) (nI v) (nI p) H = some (lN (AS (gs R) p (ind R q v) g d s), H2) ∧ BO H2 (R 0) (R 1) (R 2) (κR R) (tb R) (Ls s) ∧ ∀ c k, c < 38 ∨ 48 < c → H2 c k = H c k := by
  have hn := hR.1
  have ok := okR hR (show 0 < R 0 by omega)
  intro d
  induction d with
  | zero =>
    intro g m s H hg hm hs hO
    obtain ⟨m, rfl⟩ : ∃ j, m = j + 1 := ⟨m - 1, by omega⟩
    obtain ⟨H9, s1, s2, s3, s4, s5⟩ := settle7 ok hR.2.1 hO
    refine ⟨H9, ?_, s2, fun c k hc => fr_X2_settle s1 c k (by omega)⟩
    have pl := PD_le (c := CB (κR R) (R 2) (tb R) (Ls s)) q hq hR.2.1
    simp only [f_X3_casesPaid]
    rw [if_neg (show ¬ nI g < (10 : Int32) from nI_nlt (a := g) (b := 10) (by omega) (by omega)), s1, Option.bind_some, ag_n (by omega) (by omega), Option.bind_some, (s3 q hq).2, AS_0]
    unfold ind
    simp only [nI_lt' (show PD (R 0) (R 1) (CB (κR R) (R 2) (tb R) (Ls s)) q < 2 ^ 31 by omega) (show v < 2 ^ 31 by omega)]
    by_cases g1 : PD (R 0) (R 1) (CB (κR R) (R 2) (tb R) (Ls s)) q < v
    · rw [if_pos g1, if_neg (by omega)]; rfl
    · rw [if_neg g1, if_pos (by omega)]; rfl
  | succ d ih =>
    intro g m s H hg hm hs hO
    obtain ⟨m, rfl⟩ : ∃ j, m = j + 1 := ⟨m - 1, by omega⟩
    have hs2 : s < 2 ^ (g + 1) := by rw [Nat.pow_succ]; omega
    simp only [f_X3_casesPaid]
    rw [if_pos (show nI g < (10 : Int32) from nI_lt (b := 10) (by omega) (by omega)), gives7 hn ok.2.1 hO.1 (by omega), Option.bind_some, nI_1, AS_s]
    by_cases g0 : 0 < sm 6 (tb R g)
    · rw [if_pos g0, if_neg (by decide), show gs R g = true by simp [gs, g0]]
      have w0 : wq true p 0 = 10 - p := rfl
      have w1 : wq true p 1 = p := rfl
      rw [w0, w1]
      have st1 : ∃ H4, (if (10 : Int32) ≤ nI p then some ((0 : Int64), H) else (f_X3_casesPaid m (nI (g + 1)) (nI q) (nI v) (nI p) H).bind fun q3 => some ((0 + ((10 - nI p).toInt64 * q3.1)), q3.2)) = some (lN ((10 - p) * AS (gs R) p (ind R q v) (g + 1) d s), H4) ∧ BO H4 (R 0) (R 1) (R 2) (κR R) (tb R) (Ls s) ∧ ∀ c k, c < 38 ∨ 48 < c → H4 c k = H c k := by
        by_cases p10 : p = 10
        · rw [p10, if_pos (by decide)]
          exact ⟨H, by rw [Nat.sub_self, Nat.zero_mul]; rfl, hO, fun _ _ _ => rfl⟩
        · obtain ⟨H4, a1, a2, a3⟩ := ih (g + 1) m s H (by omega) (by omega) hs2 hO
          refine ⟨H4, ?_, a2, a3⟩
          rw [if_neg (show ¬ (10 : Int32) ≤ nI p from nI_ge (b := 10) (by omega) (by omega)), a1, Option.bind_some, show (10 : Int32) - nI p = nI (10 - p) from pk_sub (a := 10) (by omega), nI_l (by omega), lN_mul, show (0 : Int64) = lN 0 from rfl, lN_add, Nat.zero_add]
      obtain ⟨H4, b1, b2, b3⟩ := st1
      rw [b1, Option.bind_some]
      by_cases p0 : p = 0
      · rw [p0, if_pos (show nI 0 ≤ 0 by decide), Option.bind_some]
        refine ⟨H4, ?_, b2, b3⟩
        rw [Nat.zero_mul]; rfl
      · have hLg : Ls s g = false := Ls_hi hs (Nat.le_refl _)
        obtain ⟨H5, c1, c2⟩ := leave7 ok b2 (show g < 10 by omega) hLg
        rw [Ls_add hs] at c2
        obtain ⟨H6, d1, d2, d3⟩ := ih (g + 1) m (s + 2 ^ g) H5 (by omega) (by omega) (by rw [Nat.pow_succ]; omega) c2
        obtain ⟨H7, e1, e2⟩ := join7 ok d2 (show g < 10 by omega) (by rw [← Ls_add hs]; simp [Lp])
        rw [← Ls_add hs, Lp_back _ _ hLg] at e2
        refine ⟨H7, ?_, e2, fun c k hc => by rw [fr_X2_join e1 c k (by omega), d3 c k hc, fr_X2_leave c1 c k (by omega), b3 c k hc]⟩
        rw [if_neg (nI_nle (by omega) (by omega)), c1, Option.bind_some, d1, Option.bind_some, e1, Option.bind_some, Option.bind_some, nI_l (by omega), lN_mul, lN_add]
    · obtain ⟨H4, a1, a2, a3⟩ := ih (g + 1) m s H (by omega) (by omega) hs2 hO
      rw [if_neg g0, if_pos rfl, a1, Option.bind_some, show gs R g = false by simp [gs, g0]]
      refine ⟨H4, ?_, a2, a3⟩
      rw [show wq false p 0 = 1 from rfl, show wq false p 1 = 0 from rfl, Nat.one_mul, Nat.zero_mul]; rfl
/-! the greatest common divisor: both are one Euclid -/
def eu : Nat → Nat → Nat → Nat
  | 0, x, _ => x
  | k + 1, x, y => if y = 0 then x else eu k y (x % y)
theorem eu7 : ∀ (k m x y st : Nat), y < 2 ^ k → x < 2 ^ 63 → k ≤ 60 → 2 * k + 1 + st ≤ 128 → 2 * k + 1 < m → f_X3_greatestCommon_l9 m (lN x) (lN y) (nI st) = some (lN (eu (2 * k + 1) x y)) ∧ f_X8_likely_l195 m (lN x) (lN y) = some (lN (eu (2 * k + 1) x y)) := by
  intro k
  induction k with
  | zero =>
    intro m x y st hy hx _ hst hm
    obtain ⟨m, rfl⟩ : ∃ j, m = j + 1 := ⟨m - 1, by omega⟩
    have y0 : y = 0 := by simpa using hy
    subst y0
    simp only [f_X3_greatestCommon_l9, f_X8_likely_l195, eu]
    rw [if_neg (show ¬ (128 : Int32) ≤ nI st from nI_ge (b := 128) (by omega) (by omega)), if_pos (show lN 0 = 0 from rfl), if_pos (show lN 0 = 0 from rfl), if_pos trivial]
    exact ⟨rfl, rfl⟩
  | succ k ih =>
    intro m x y st hy hx hk hst hm
    have h63 : 2 ^ (k + 1) ≤ 2 ^ 61 := Nat.pow_le_pow_right (by omega) (by omega)
    obtain ⟨m, rfl⟩ : ∃ j, m = j + 2 := ⟨m - 2, by omega⟩
    rw [show 2 * (k + 1) + 1 = (2 * k + 1) + 1 + 1 by omega]
    simp only [f_X3_greatestCommon_l9, f_X8_likely_l195, eu]
    rw [if_neg (show ¬ (128 : Int32) ≤ nI st from nI_ge (b := 128) (by omega) (by omega)), nI_1, if_neg (show ¬ (128 : Int32) ≤ nI (st + 1) from nI_ge (b := 128) (by omega) (by omega)), nI_1]
    have e0 : (lN y = 0) = (y = 0) := propext (pk_lEQ (b := 0) (by omega) (by omega))
    simp only [e0]
    by_cases y0 : y = 0
    · simp only [if_pos y0]
      exact ⟨trivial, trivial⟩
    · simp only [if_neg y0]
      have hr := Nat.mod_lt x (show 0 < y by omega)
      rw [pk_lRem hx (by omega) (by omega)]
      have e1 : (lN (x % y) = 0) = (x % y = 0) := propext (pk_lEQ (b := 0) (by omega) (by omega))
      simp only [e1]
      by_cases r0 : x % y = 0
      · simp only [if_pos r0]
        exact ⟨trivial, trivial⟩
      · simp only [if_neg r0]
        rw [pk_lRem (by omega) (by omega) (by omega)]
        have half : y % (x % y) < 2 ^ k := by
          have h1 := Nat.mod_lt y (show 0 < x % y by omega)
          have h2 := Nat.div_add_mod y (x % y)
          have h3 : 1 ≤ y / (x % y) := Nat.div_pos (by omega) (by omega)
          have h4 : x % y * 1 ≤ x % y * (y / (x % y)) := Nat.mul_le_mul_left _ h3
          rw [Nat.pow_succ] at hy
          omega
        exact ih m (x % y) (y % (x % y)) (st + 2) half (by omega) (by omega) (by omega) (by omega)
theorem eu_pos : ∀ (k x y : Nat), 0 < y → 0 < eu (k + 1) x y := by
  intro k
  induction k with
  | zero =>
    intro x y hy
    simp only [eu]
    rw [if_neg (by omega)]; exact hy
  | succ k ih =>
    intro x y hy
    rw [eu, if_neg (by omega)]
    by_cases r0 : x % y = 0
    · rw [r0, eu, if_pos rfl]; exact hy
    · exact ih y (x % y) (by omega)
theorem eu_le : ∀ (k x y B : Nat), x ≤ B → y ≤ B → eu k x y ≤ B := by
  intro k
  induction k with
  | zero => intro x y B hx _; exact hx
  | succ k ih =>
    intro x y B hx hy
    rw [eu]
    by_cases y0 : y = 0
    · rw [if_pos y0]; exact hx
    · rw [if_neg y0]
      exact ih y (x % y) B hy (Nat.le_trans (Nat.mod_le x y) hx)
