/-! fund: the bytes and the two readers -/
/-- the tape: n bytes B -/
def TP (H : Hp) (n : Nat) (B : Nat → Nat) : Prop := n ≤ 130 ∧ H 5 1 = nI n ∧ H 60 11 = nI n ∧ ∀ i, i < n → H 6 i = nI (B i) ∧ H 68 i = nI (B i) ∧ B i ≤ 255
def fig (n : Nat) (B : Nat → Nat) (q : Nat) : Bool := decide (q < n) && (decide (48 ≤ B q) && decide (B q ≤ 57))
/-- how many figures from q, at most k -/
def run (n : Nat) (B : Nat → Nat) : Nat → Nat → Nat
  | 0, _ => 0
  | k + 1, q => if fig n B q then run n B k (q + 1) + 1 else 0
theorem run_le (n : Nat) (B : Nat → Nat) : ∀ k q, run n B k q ≤ k := by
  intro k
  induction k with
  | zero => intro q; exact Nat.le_refl _
  | succ k ih =>
    intro q
    simp only [run]
    have := ih (q + 1)
    split <;> omega
def nval (n : Nat) (B : Nat → Nat) (q : Nat) : Nat := if fig n B (q + 1) then 10 * (B q - 48) + (B (q + 1) - 48) else B q - 48
/-- a component's state at q -/
def CA (H : Hp) (n : Nat) (B : Nat → Nat) (q : Nat) : Prop := TP H n B ∧ H 5 2 = nI q ∧ q ≤ n
theorem byte7 {H : Hp} {n q : Nat} {B : Nat → Nat} (h : CA H n B q) : f_X6_byteHere H = some (if q < n then nI (B q) else -1) := by
  obtain ⟨⟨h1, h2, h3, h4⟩, h5, h6⟩ := h
  unfold f_X6_byteHere
  rw [h2, h5]
  simp only [nI_le' (show n < 2 ^ 31 by omega) (show q < 2 ^ 31 by omega)]
  by_cases g : q < n
  · rw [if_neg (by omega), if_pos g, ag_n (by omega) (by omega), (h4 q g).1]; rfl
  · rw [if_pos (by omega), if_neg g]; rfl
theorem sign7 {H : Hp} {n q c : Nat} {B : Nat → Nat} (h : CA H n B q) (hc : c ≤ 255) : f_X6_readSign (nI c) H = some (if q < n ∧ B q = c then (1, hset H 5 2 (nI (q + 1))) else (0, hset (hset H 5 4 1) 5 5 (nI q))) := by
  have hb := byte7 h
  obtain ⟨⟨h1, h2, h3, h4⟩, h5, h6⟩ := h
  unfold f_X6_readSign f_X6_fails
  rw [hb, Option.bind_some]
  simp only [pf_e, Option.bind_some, h5, nI_1]
  by_cases g : q < n
  · have hq := (h4 q g).2.2
    rw [if_pos g]
    simp only [nI_eq' (show B q < 2 ^ 31 by omega) (show c < 2 ^ 31 by omega)]
    by_cases g2 : B q = c
    · rw [if_pos g2, if_pos ⟨g, g2⟩]
    · rw [if_neg g2, if_neg (fun z => g2 z.2), hset_k (by omega), h5]; rfl
  · rw [if_neg g, if_neg (by
      intro z
      have : (-1 : Int32).toInt = (nI c).toInt := by rw [z]
      rw [nI_toInt (by omega), show (-1 : Int32).toInt = -1 by decide] at this
      omega), if_neg (fun z => g z.1), hset_k (by omega), h5]; rfl
theorem CA_at {H : Hp} {n q q2 : Nat} {B : Nat → Nat} (h : CA H n B q) (h2 : q2 ≤ n) : CA (hset H 5 2 (nI q2)) n B q2 := by
  obtain ⟨⟨h1, h3, h4, h5⟩, -, -⟩ := h
  exact ⟨⟨h1, by rw [hset_k (by omega), h3], by rw [hset_c (by omega), h4], fun i hi => by rw [hset_c (by omega), hset_c (by omega)]; exact h5 i hi⟩, hset_self, h2⟩
theorem figI {H : Hp} {n i : Nat} {B : Nat → Nat} (h : TP H n B) (hi : i < n) : f_X6_isFigure (nI (B i)) = some (if fig n B i then 1 else 0) := by
  have hb := (h.2.2.2 i hi).2.2
  unfold f_X6_isFigure fig
  have e1 : (nI (B i) < (48 : Int32)) = (B i < 48) := nI_lt' (b := 48) (by omega) (by omega)
  have e2 : ((57 : Int32) < nI (B i)) = (57 < B i) := nI_lt' (a := 57) (by omega) (by omega)
  simp only [e1, e2]
  by_cases g1 : B i < 48
  · simp [g1, show ¬ 48 ≤ B i by omega]
  · by_cases g2 : 57 < B i
    · simp [g1, g2, show ¬ B i ≤ 57 by omega]
    · simp [g1, g2, hi, show 48 ≤ B i by omega, show B i ≤ 57 by omega]
theorem fig_v {n q : Nat} {B : Nat → Nat} (h : fig n B q = true) : q < n ∧ 48 ≤ B q ∧ B q ≤ 57 := by
  unfold fig at h
  simpa using h
/-- the component's loop over figures -/
theorem numl7 {H : Hp} {n q : Nat} {B : Nat → Nat} (h : CA H n B q) : ∃ v, f_X6_readNumber_l11 H fuel 0 0 (nI q) = some (nI (run n B 3 q), v) ∧ (1 ≤ run n B 3 q → run n B 3 q ≤ 2 → v = nI (nval n B q)) := by
  obtain ⟨hT, h5, h6⟩ := h
  obtain ⟨h1, h2, h3, h4⟩ := id hT
  obtain ⟨fq, hfq⟩ : ∃ k, fuel = k + 4 := ⟨4996, rfl⟩
  have stop : ∀ (m i : Nat) (x3 x4 : Int32), i ≤ n → fig n B i = false → f_X6_readNumber_l11 H (m + 1) x3 x4 (nI i) = some (x3, x4) := by
    intro m i x3 x4 hi hf
    simp only [f_X6_readNumber_l11]
    rw [h2]
    simp only [nI_le' (show n < 2 ^ 31 by omega) (show i < 2 ^ 31 by omega)]
    by_cases g : n ≤ i
    · rw [if_pos g]
    · rw [if_neg g, ag_n (by omega) (by omega), Option.bind_some, (h4 i (by omega)).1, figI hT (by omega), Option.bind_some, hf, if_pos (by decide)]
  have go : ∀ (m i : Nat) (x3 : Nat) (x4 : Int32), fig n B i = true → x3 ≤ 2 → f_X6_readNumber_l11 H (m + 1) (nI x3) x4 (nI i) = f_X6_readNumber_l11 H m (nI (x3 + 1)) (x4 * 10 + nI (B i) - 48) (nI (i + 1)) := by
    intro m i x3 x4 hf hx
    obtain ⟨f1, f2, f3⟩ := fig_v hf
    simp only [f_X6_readNumber_l11]
    rw [h2, if_neg (nI_ge f1 (by omega)), ag_n (by omega) (by omega), Option.bind_some, (h4 i f1).1, figI hT f1, Option.bind_some, hf, if_neg (by decide), if_neg (show ¬ (2 : Int32) < nI x3 from nI_nlt (b := x3) (a := 2) hx (by omega)), Option.bind_some, nI_1, nI_1]
  rw [hfq]
  by_cases f0 : fig n B q = true
  · obtain ⟨a1, a2, a3⟩ := fig_v f0
    have e1 : (0 : Int32) * 10 + nI (B q) - 48 = nI (B q - 48) := by
      rw [Int32.zero_mul, Int32.zero_add]
      exact pk_sub (b := 48) a2
    have s0 := go (fq + 3) q 0 0 f0 (by omega)
    rw [e1] at s0
    rw [show fq + 4 = fq + 3 + 1 from rfl, show f_X6_readNumber_l11 H (fq + 3 + 1) 0 0 (nI q) = f_X6_readNumber_l11 H (fq + 3 + 1) (nI 0) 0 (nI q) from rfl, s0]
    by_cases f1 : fig n B (q + 1) = true
    · obtain ⟨b1, b2, b3⟩ := fig_v f1
      have e2 : nI (B q - 48) * 10 + nI (B (q + 1)) - 48 = nI (10 * (B q - 48) + (B (q + 1) - 48)) := by
        rw [show (10 : Int32) = nI 10 from rfl, pk_mul, nI_add, show (48 : Int32) = nI 48 from rfl, pk_sub (by omega)]
        congr 1
        omega
      have s1 := go (fq + 2) (q + 1) 1 (nI (B q - 48)) f1 (by omega)
      rw [e2] at s1
      rw [s1]
      by_cases f2 : fig n B (q + 1 + 1) = true
      · obtain ⟨c1, c2, c3⟩ := fig_v f2
        rw [go (fq + 1) (q + 1 + 1) 2 _ f2 (by omega)]
        have er : run n B 3 q = 3 := by simp [run, f0, f1, f2]
        rw [er]
        have last : ∃ v, f_X6_readNumber_l11 H (fq + 1) (nI 3) (nI (10 * (B q - 48) + (B (q + 1) - 48)) * 10 + nI (B (q + 1 + 1)) - 48) (nI (q + 1 + 1 + 1)) = some (nI 3, v) := by
          by_cases f3 : fig n B (q + 1 + 1 + 1) = true
          · obtain ⟨d1, d2, d3⟩ := fig_v f3
            simp only [f_X6_readNumber_l11]
            rw [h2, if_neg (nI_ge d1 (by omega)), ag_n (by omega) (by omega), Option.bind_some, (h4 _ d1).1, figI hT d1, Option.bind_some, f3, if_neg (by decide), if_pos (show (2 : Int32) < nI 3 by decide)]
            exact ⟨_, rfl⟩
          · exact ⟨_, stop fq _ _ _ (by omega) (by simpa using f3)⟩
        obtain ⟨v, hv⟩ := last
        exact ⟨v, hv, fun _ z => by omega⟩
      · rw [stop (fq + 1) (q + 1 + 1) _ _ (by omega) (by simpa using f2)]
        have er : run n B 3 q = 2 := by simp [run, f0, f1, f2]
        rw [er]
        exact ⟨_, rfl, fun _ _ => by unfold nval; rw [if_pos f1]⟩
    · rw [stop (fq + 2) (q + 1) _ _ (by omega) (by simpa using f1)]
      have er : run n B 3 q = 1 := by simp [run, f0, f1]
      rw [er]
      exact ⟨_, rfl, fun _ _ => by unfold nval; rw [if_neg f1]⟩
  · rw [show fq + 4 = fq + 3 + 1 from rfl, stop (fq + 3) q 0 0 h6 (by simpa using f0)]
    have er : run n B 3 q = 0 := by simp [run, f0]
    rw [er]
    exact ⟨_, rfl, fun z => by omega⟩
