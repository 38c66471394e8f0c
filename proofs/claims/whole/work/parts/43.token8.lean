/-! fund: the model's tokens -/
def Tm (H : Hp) (n : Nat) (B : Nat → Nat) : Prop := n ≤ 130 ∧ H 60 11 = nI n ∧ ∀ i, i < n → H 68 i = nI (B i) ∧ B i ≤ 255
theorem Tm.fr {H H2 : Hp} {n : Nat} {B : Nat → Nat} (h : Tm H n B) (f1 : H2 60 11 = H 60 11) (f2 : ∀ k, H2 68 k = H 68 k) : Tm H2 n B := ⟨h.1, by rw [f1, h.2.1], fun i hi => by rw [f2]; exact h.2.2 i hi⟩
def Tkn (H : Hp) (n : Nat) (B : Nat → Nat) (q : Nat) : Prop :=
  (q = n ∧ H 60 14 = 1) ∨ (q < n ∧ 97 ≤ B q ∧ B q ≤ 122 ∧ H 60 14 = 2 ∧ H 60 15 = nI (B q) ∧ H 60 12 = nI (q + 1)) ∨ (fig n B q = true ∧ run n B 3 q ≤ 2 ∧ H 60 14 = 3 ∧ H 60 15 = nI (nval n B q) ∧ H 60 12 = nI (q + run n B 3 q)) ∨ (q < n ∧ (B q = 44 ∨ B q = 59) ∧ H 60 14 = 4 ∧ H 60 15 = nI (B q) ∧ H 60 12 = nI (q + 1)) ∨ (q < n ∧ ¬ (97 ≤ B q ∧ B q ≤ 122) ∧ B q ≠ 44 ∧ B q ≠ 59 ∧ (fig n B q = false ∨ run n B 3 q = 3) ∧ H 60 14 = 0)
theorem fig_e {n q : Nat} {B : Nat → Nat} (hq : q < n) : (fig n B q = true) = (48 ≤ B q ∧ B q ≤ 57) := by
  unfold fig
  simp [hq]
theorem l165_stop {X : Hp} {n k : Nat} {B : Nat → Nat} (m : Nat) (h : Tm X n B) (h12 : X 60 12 = nI k) (hk : k ≤ n) (hf : fig n B k = false) : f_X8_nextToken_l165 (m + 1) X = some X := by
  obtain ⟨t1, t2, t3⟩ := h
  simp only [f_X8_nextToken_l165]
  rw [t2, h12]
  simp only [nI_le' (show n < 2 ^ 31 by omega) (show k < 2 ^ 31 by omega)]
  by_cases g : n ≤ k
  · rw [if_pos g]
  · have hb := (t3 k (by omega)).2
    have w1 : (nI (B k) < 48) = (B k < 48) := nI_lt' (b := 48) (by omega) (by omega)
    have w2 : ((57 : Int32) < nI (B k)) = (57 < B k) := nI_lt' (a := 57) (by omega) (by omega)
    have hf2 : ¬ (48 ≤ B k ∧ B k ≤ 57) := fun z => by
      rw [(fig_e (B := B) (show k < n by omega)).mpr z] at hf
      cases hf
    rw [if_neg g, ag_n (by omega) (by omega), Option.bind_some, (t3 k (by omega)).1, in_48_57, within_eq, Option.bind_some]
    simp only [w1, w2, bz]
    rw [if_pos (by omega)]
theorem l165_go {X : Hp} {n k q : Nat} {B : Nat → Nat} (m : Nat) (h : Tm X n B) (h12 : X 60 12 = nI k) (h13 : X 60 13 = nI q) (hqk : q ≤ k) (hf : fig n B k = true) : f_X8_nextToken_l165 (m + 1) X = f_X8_nextToken_l165 m (hset (hset X 60 15 (if 2 ≤ k - q then X 60 15 else 10 * X 60 15 + nI (B k) - 48)) 60 12 (nI (k + 1))) := by
  obtain ⟨t1, t2, t3⟩ := h
  obtain ⟨f1, f2, f3⟩ := fig_v hf
  have w1 : (nI (B k) < 48) = (B k < 48) := nI_lt' (b := 48) (by omega) (by omega)
  have w2 : ((57 : Int32) < nI (B k)) = (57 < B k) := nI_lt' (a := 57) (by omega) (by omega)
  have w3 : ((2 : Int32) ≤ nI (k - q)) = (2 ≤ k - q) := nI_le' (a := 2) (by omega) (by omega)
  simp only [f_X8_nextToken_l165]
  rw [t2, h12, h13, if_neg (nI_ge f1 (by omega)), ag_n (by omega) (by omega), Option.bind_some, (t3 k f1).1, in_48_57, within_eq, Option.bind_some, pk_sub hqk]
  simp only [w1, w2, w3, bz]
  rw [if_neg (by omega)]
  by_cases g : 2 ≤ k - q
  · rw [if_pos g, if_pos g, Option.bind_some, pf_e, Option.bind_some, pf_e, Option.bind_some, hset_k (by omega), h12, nI_1]
  · rw [if_neg g, if_neg g, Option.bind_some, Option.bind_some, pf_e, Option.bind_some, pf_e, Option.bind_some, hset_k (by omega), h12, nI_1]
theorem l165_rest {n q : Nat} {B : Nat → Nat} : ∀ (d m k : Nat) (X : Hp), k + d = n → d < m → q ≤ k → Tm X n B → X 60 12 = nI k → X 60 13 = nI q → ∃ l e, f_X8_nextToken_l165 m X = some l ∧ k ≤ e ∧ e ≤ n ∧ l 60 12 = nI e ∧ ∀ c j, (c ≠ 60 ∨ (j ≠ 12 ∧ j ≠ 15)) → l c j = X c j := by
  intro d
  induction d with
  | zero =>
    intro m k X hk hm hq hT h12 h13
    obtain ⟨m, rfl⟩ : ∃ j, m = j + 1 := ⟨m - 1, by omega⟩
    have hf : fig n B k = false := by
      unfold fig
      simp [show ¬ k < n by omega]
    exact ⟨X, k, l165_stop m hT h12 (by omega) hf, by omega, by omega, h12, fun _ _ _ => rfl⟩
  | succ d ih =>
    intro m k X hk hm hq hT h12 h13
    obtain ⟨m, rfl⟩ : ∃ j, m = j + 1 := ⟨m - 1, by omega⟩
    by_cases hf : fig n B k = true
    · rw [l165_go m hT h12 h13 hq hf]
      obtain ⟨l, e, e1, e2, e3, e4, e5⟩ := ih m (k + 1) (hset (hset X 60 15 (if 2 ≤ k - q then X 60 15 else 10 * X 60 15 + nI (B k) - 48)) 60 12 (nI (k + 1))) (by omega) (by omega) (by omega) (hT.fr (by rw [hset_k (by omega), hset_k (by omega)]) (fun j => by rw [hset_c (by omega), hset_c (by omega)])) hset_self (by rw [hset_k (by omega), hset_k (by omega), h13])
      refine ⟨l, e, e1, by omega, e3, e4, fun c j hc => ?_⟩
      rw [e5 c j hc, hset_if, if_neg (by omega), hset_if, if_neg (by omega)]
    · exact ⟨X, k, l165_stop m hT h12 (by omega) (by simpa using hf), by omega, by omega, h12, fun _ _ _ => rfl⟩
/-- the loop behind a first figure at q -/
theorem l165_all {X : Hp} {n q : Nat} {B : Nat → Nat} (hT : Tm X n B) (hf : fig n B q = true) (h12 : X 60 12 = nI (q + 1)) (h13 : X 60 13 = nI q) (h15 : X 60 15 = nI (B q - 48)) : ∃ l e, f_X8_nextToken_l165 fuel X = some l ∧ q ≤ e ∧ e ≤ n ∧ l 60 12 = nI e ∧ (∀ c j, (c ≠ 60 ∨ (j ≠ 12 ∧ j ≠ 15)) → l c j = X c j) ∧ ((run n B 3 q ≤ 2 ∧ e = q + run n B 3 q ∧ l 60 15 = nI (nval n B q)) ∨ (run n B 3 q = 3 ∧ q + 3 ≤ e)) := by
  have t1 := hT.1
  obtain ⟨a1, a2, a3⟩ := fig_v hf
  obtain ⟨fq, hfq⟩ : ∃ k, fuel = k + 3 := ⟨4997, rfl⟩
  by_cases f1 : fig n B (q + 1) = true
  · obtain ⟨b1, b2, b3⟩ := fig_v f1
    have s1 := l165_go (fq + 2) hT h12 h13 (by omega) f1
    rw [if_neg (by omega), h15, show 10 * nI (B q - 48) + nI (B (q + 1)) - 48 = nI (10 * (B q - 48) + (B (q + 1) - 48)) by
      rw [show (10 : Int32) = nI 10 from rfl, pk_mul, nI_add, show (48 : Int32) = nI 48 from rfl, pk_sub (by omega)]
      congr 1
      omega] at s1
    have hT2 : Tm (hset (hset X 60 15 (nI (10 * (B q - 48) + (B (q + 1) - 48)))) 60 12 (nI (q + 1 + 1))) n B := hT.fr (by rw [hset_k (by omega), hset_k (by omega)]) (fun j => by rw [hset_c (by omega), hset_c (by omega)])
    have fr2 : ∀ c j, (c ≠ 60 ∨ (j ≠ 12 ∧ j ≠ 15)) → hset (hset X 60 15 (nI (10 * (B q - 48) + (B (q + 1) - 48)))) 60 12 (nI (q + 1 + 1)) c j = X c j := fun c j hc => by rw [hset_if, if_neg (by omega), hset_if, if_neg (by omega)]
    have v2 : hset (hset X 60 15 (nI (10 * (B q - 48) + (B (q + 1) - 48)))) 60 12 (nI (q + 1 + 1)) 60 15 = nI (nval n B q) := by
      rw [hset_k (by omega), hset_self]
      unfold nval
      rw [if_pos f1]
    by_cases f2 : fig n B (q + 1 + 1) = true
    · have er : run n B 3 q = 3 := by simp [run, hf, f1, f2]
      obtain ⟨l, e, e1, e2, e3, e4, e5⟩ := l165_rest (q := q) (n - (q + 1 + 1 + 1)) (fq + 1) (q + 1 + 1 + 1) (hset (hset (hset (hset X 60 15 (nI (10 * (B q - 48) + (B (q + 1) - 48)))) 60 12 (nI (q + 1 + 1))) 60 15 (if 2 ≤ q + 1 + 1 - q then (hset (hset X 60 15 (nI (10 * (B q - 48) + (B (q + 1) - 48)))) 60 12 (nI (q + 1 + 1))) 60 15 else 10 * (hset (hset X 60 15 (nI (10 * (B q - 48) + (B (q + 1) - 48)))) 60 12 (nI (q + 1 + 1))) 60 15 + nI (B (q + 1 + 1)) - 48)) 60 12 (nI (q + 1 + 1 + 1))) (by have := (fig_v f2).1; omega) (by
        have : fuel = 5000 := rfl
        omega) (by omega) (hT2.fr (by rw [hset_k (by omega), hset_k (by omega)]) (fun j => by rw [hset_c (show 68 ≠ 60 by omega), hset_c (show 68 ≠ 60 by omega)])) hset_self (by rw [hset_k (by omega), hset_k (by omega), fr2 _ _ (by omega), h13])
      refine ⟨l, e, ?_, by omega, e3, e4, fun c j hc => ?_, Or.inr ⟨er, by omega⟩⟩
      · rw [hfq, show fq + 3 = fq + 2 + 1 from rfl, s1, l165_go (fq + 1) hT2 hset_self (by rw [fr2 _ _ (by omega), h13]) (by omega) f2]
        exact e1
      · rw [e5 c j hc, hset_if, if_neg (by omega), hset_if, if_neg (by omega), fr2 c j hc]
    · have er : run n B 3 q = 2 := by simp [run, hf, f1, f2]
      refine ⟨_, q + 1 + 1, ?_, by omega, by omega, hset_self, fr2, Or.inl ⟨by omega, by omega, v2⟩⟩
      rw [hfq, show fq + 3 = fq + 2 + 1 from rfl, s1, l165_stop (fq + 1) hT2 hset_self (by omega) (by simpa using f2)]
  · have er : run n B 3 q = 1 := by simp [run, hf, f1]
    refine ⟨X, q + 1, ?_, by omega, by omega, h12, fun _ _ _ => rfl, Or.inl ⟨by omega, by omega, ?_⟩⟩
    · rw [hfq, l165_stop (fq + 2) hT h12 (by omega) (by simpa using f1)]
    · rw [h15]
      unfold nval
      rw [if_neg f1]
theorem tok8 {H : Hp} {n q : Nat} {B : Nat → Nat} (h : Tm H n B) (h12 : H 60 12 = nI q) (hq : q ≤ n) : ∃ H2, f_X8_nextToken H = some H2 ∧ H2 60 13 = nI q ∧ Tkn H2 n B q := by
  obtain ⟨t1, t2, t3⟩ := id h
  unfold f_X8_nextToken
  simp only [pf_e, Option.bind_some]
  rw [h12]
  have a11 : hset H 60 13 (nI q) 60 11 = nI n := by rw [hset_k (by omega), t2]
  have a12 : hset H 60 13 (nI q) 60 12 = nI q := by rw [hset_k (by omega), h12]
  have a13 : hset H 60 13 (nI q) 60 13 = nI q := hset_self
  have a68 : ∀ i, hset H 60 13 (nI q) 68 i = H 68 i := fun i => hset_c (by omega)
  generalize hset H 60 13 (nI q) = X at a11 a12 a13 a68 ⊢
  rw [a11, a12]
  by_cases g : q < n
  · obtain ⟨u1, u2⟩ := t3 q g
    rw [if_neg (nI_ge g (by omega)), ag_n (by omega) (by omega), Option.bind_some, Option.bind_some, a68 q, u1]
    have b11 : hset X 60 15 (nI (B q)) 60 11 = nI n := by rw [hset_k (by omega), a11]
    have b12 : hset X 60 15 (nI (B q)) 60 12 = nI q := by rw [hset_k (by omega), a12]
    have b13 : hset X 60 15 (nI (B q)) 60 13 = nI q := by rw [hset_k (by omega), a13]
    have b15 : hset X 60 15 (nI (B q)) 60 15 = nI (B q) := hset_self
    have b68 : ∀ i, hset X 60 15 (nI (B q)) 68 i = H 68 i := fun i => by rw [hset_c (by omega), a68]
    generalize hset X 60 15 (nI (B q)) = Y at b11 b12 b13 b15 b68 ⊢
    have w1 : (nI (B q) < 97) = (B q < 97) := nI_lt' (b := 97) (by omega) (by omega)
    have w2 : ((122 : Int32) < nI (B q)) = (122 < B q) := nI_lt' (a := 122) (by omega) (by omega)
    have w3 : (nI (B q) < 48) = (B q < 48) := nI_lt' (b := 48) (by omega) (by omega)
    have w4 : ((57 : Int32) < nI (B q)) = (57 < B q) := nI_lt' (a := 57) (by omega) (by omega)
    have w5 : (nI (B q) = 44) = (B q = 44) := nI_eq' (b := 44) (by omega) (by omega)
    have w6 : (nI (B q) = 59) = (B q = 59) := nI_eq' (b := 59) (by omega) (by omega)
    have fe := fig_e (B := B) g
    rw [b11, b12, b15, in_97_122, in_48_57, within_eq, within_eq, Option.bind_some, Option.bind_some, if_neg (show ¬ nI q = nI n from fun z => by rw [nI_eq (by omega) (by omega)] at z; omega)]
    simp only [w1, w2, w3, w4, w5, w6, bz]
    have nx : ∀ s : Int32, hset Y 60 14 s 60 12 + (if hset Y 60 14 s 60 11 ≤ hset Y 60 14 s 60 12 then 0 else 1 : Int32) = nI (q + 1) := fun s => by
      rw [hset_k (show 12 ≠ 14 by omega), hset_k (show 11 ≠ 14 by omega), b11, b12, if_neg (nI_ge g (by omega)), nI_1]
    have out : ∀ s : Int32, hset (hset Y 60 14 s) 60 12 (nI (q + 1)) 60 14 = s := fun s => by rw [hset_k (by omega), hset_self]
    have o15 : ∀ s : Int32, hset (hset Y 60 14 s) 60 12 (nI (q + 1)) 60 15 = nI (B q) := fun s => by rw [hset_k (by omega), hset_k (by omega), b15]
    have o13 : ∀ s : Int32, hset (hset Y 60 14 s) 60 12 (nI (q + 1)) 60 13 = nI q := fun s => by rw [hset_k (by omega), hset_k (by omega), b13]
    by_cases c1 : B q < 97 ∨ 122 < B q
    · rw [if_pos c1]
      by_cases c2 : B q < 48 ∨ 57 < B q
      · have nf : fig n B q = false := by
          by_cases z : fig n B q = true
          · rw [fe] at z; omega
          · simpa using z
        rw [if_pos c2]
        by_cases c3 : B q = 44
        · rw [if_pos c3, Option.bind_some, nx, out, if_neg (by decide), Option.bind_some]
          exact ⟨_, rfl, o13 4, Or.inr (Or.inr (Or.inr (Or.inl ⟨g, Or.inl c3, out 4, o15 4, hset_self⟩)))⟩
        by_cases c4 : B q = 59
        · rw [if_neg c3, if_pos c4, Option.bind_some, nx, out, if_neg (by decide), Option.bind_some]
          exact ⟨_, rfl, o13 4, Or.inr (Or.inr (Or.inr (Or.inl ⟨g, Or.inr c4, out 4, o15 4, hset_self⟩)))⟩
        · rw [if_neg c3, if_neg c4, Option.bind_some, nx, out, if_neg (by decide), Option.bind_some]
          exact ⟨_, rfl, o13 0, Or.inr (Or.inr (Or.inr (Or.inr ⟨g, by omega, c3, c4, Or.inl nf, out 0⟩)))⟩
      · have ff : fig n B q = true := by rw [fe]; omega
        rw [if_neg c2, Option.bind_some, nx, out, if_pos rfl, o15, show nI (B q) - 48 = nI (B q - 48) from pk_sub (b := 48) (by omega)]
        have hT : Tm (hset (hset (hset Y 60 14 3) 60 12 (nI (q + 1))) 60 15 (nI (B q - 48))) n B := h.fr (by rw [hset_k (by omega), hset_k (by omega), hset_k (by omega), b11, t2]) (fun k => by rw [hset_c (by omega), hset_c (by omega), hset_c (by omega), b68])
        obtain ⟨l, e, e1, e2, e3, e4, e5, e6⟩ := l165_all hT ff (by rw [hset_k (by omega), hset_self]) (by rw [hset_k (by omega), o13]) hset_self
        have l13 : l 60 13 = nI q := by rw [e5 _ _ (by omega), hset_k (by omega), o13]
        have z2 : (nI (e - q) ≤ 2) = (e - q ≤ 2) := nI_le' (b := 2) (by omega) (by omega)
        rw [e1, Option.bind_some, Option.bind_some, e4, l13, pk_sub e2]
        simp only [z2]
        rcases e6 with ⟨y1, y2, y3⟩ | ⟨y1, y2⟩
        · rw [if_pos (by omega)]
          exact ⟨_, rfl, by rw [hset_k (by omega), l13], Or.inr (Or.inr (Or.inl ⟨ff, y1, hset_self, by rw [hset_k (by omega), y3], by rw [hset_k (by omega), e4, y2]⟩))⟩
        · rw [if_neg (by omega)]
          exact ⟨_, rfl, by rw [hset_k (by omega), l13], Or.inr (Or.inr (Or.inr (Or.inr ⟨g, by omega, by omega, by omega, Or.inr y1, hset_self⟩)))⟩
    · rw [if_neg c1, Option.bind_some, nx, out, if_neg (by decide), Option.bind_some]
      exact ⟨_, rfl, o13 2, Or.inr (Or.inl ⟨g, by omega, by omega, out 2, o15 2, hset_self⟩)⟩
  · have eq : q = n := by omega
    subst eq
    rw [if_pos (nI_le (Nat.le_refl _) (by omega)), Option.bind_some]
    have b11 : hset X 60 15 (-1000000) 60 11 = nI q := by rw [hset_k (by omega), a11]
    have b12 : hset X 60 15 (-1000000) 60 12 = nI q := by rw [hset_k (by omega), a12]
    have b13 : hset X 60 15 (-1000000) 60 13 = nI q := by rw [hset_k (by omega), a13]
    generalize hset X 60 15 (-1000000) = Y at b11 b12 b13 ⊢
    rw [b11, b12, if_pos rfl, Option.bind_some, hset_k (show 14 ≠ 12 by omega), hset_self, if_neg (by decide), Option.bind_some]
    exact ⟨_, rfl, by rw [hset_k (by omega), hset_k (by omega), b13], Or.inl ⟨rfl, by rw [hset_k (by omega), hset_self]⟩⟩
