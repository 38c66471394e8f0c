/-! numbers, loops, places -/
theorem i0 : (0 : Int32) = nI 0 := rfl
theorem i1 : (1 : Int32) = nI 1 := rfl
theorem ag_n {H : Hp} {c n k : Nat} (h : k < n) (hn : n ≤ 2000) : ag H c n (nI k) = some (H c k) := by
  unfold ag
  rw [if_neg (nI_in h (by omega)), nI_clamp (by omega)]
theorem as_n {H : Hp} {c n k : Nat} {x : Int32} (h : k < n) (hn : n ≤ 2000) : as H c n (nI k) x = some (hset H c k x) := by
  unfold as
  rw [if_neg (nI_in h (by omega)), nI_clamp (by omega)]
theorem hset_self {H : Hp} {c k : Nat} {x : Int32} : hset H c k x c k = x := by unfold hset upd; simp
theorem hset_k {H : Hp} {c k k2 : Nat} {x : Int32} (h : k2 ≠ k) : hset H c k x c k2 = H c k2 := hset_at (fun z => h z.2)
theorem hset_c {H : Hp} {c c2 k k2 : Nat} {x : Int32} (h : c2 ≠ c) : hset H c k x c2 k2 = H c2 k2 := hset_at (fun z => h z.1)
theorem hset_if (H : Hp) (c k c2 k2 : Nat) (x : Int32) : hset H c k x c2 k2 = if c2 = c ∧ k2 = k then x else H c2 k2 := by
  by_cases h : c2 = c ∧ k2 = k
  · rw [if_pos h, h.1, h.2, hset_self]
  · rw [if_neg h, hset_at h]
/-- a counted loop, that may end early -/
theorem upx {α β : Type} (F : Nat → Nat → α → Option β) (e : Nat) (Inv : Nat → α → Prop) (Q : β → Prop)
    (hx : ∀ m a, Inv e a → ∃ b, F (m + 1) e a = some b ∧ Q b)
    (hs : ∀ m k a, k < e → Inv k a → (∃ b, F (m + 1) k a = some b ∧ Q b) ∨ ∃ a2, F (m + 1) k a = F m (k + 1) a2 ∧ Inv (k + 1) a2) :
    ∀ (d m k : Nat) (a : α), k + d = e → d < m → Inv k a → ∃ b, F m k a = some b ∧ Q b := by
  intro d
  induction d with
  | zero =>
    intro m k a hk hm hI
    obtain ⟨m, rfl⟩ : ∃ j, m = j + 1 := ⟨m - 1, by omega⟩
    obtain rfl : k = e := by omega
    exact hx m a hI
  | succ d ih =>
    intro m k a hk hm hI
    obtain ⟨m, rfl⟩ : ∃ j, m = j + 1 := ⟨m - 1, by omega⟩
    rcases hs m k a (by omega) hI with h | ⟨a2, h1, h2⟩
    · exact h
    · rw [h1]
      exact ih m (k + 1) a2 (by omega) (by omega) h2
/-- the same from 0 by fuel -/
theorem up0 {α β : Type} (F : Nat → Nat → α → Option β) (e : Nat) (he : e < 5000) (Inv : Nat → α → Prop) (Q : β → Prop) (a : α) (h0 : Inv 0 a)
    (hx : ∀ m a, Inv e a → ∃ b, F (m + 1) e a = some b ∧ Q b)
    (hs : ∀ m k a, k < e → Inv k a → (∃ b, F (m + 1) k a = some b ∧ Q b) ∨ ∃ a2, F (m + 1) k a = F m (k + 1) a2 ∧ Inv (k + 1) a2) : ∃ b, F fuel 0 a = some b ∧ Q b :=
  upx F e Inv Q hx hs e fuel 0 a (by omega) he h0
theorem nI_le' {a b : Nat} (ha : a < 2 ^ 31) (hb : b < 2 ^ 31) : (nI a ≤ nI b) = (a ≤ b) := propext (nI_leI ha hb)
theorem nI_lt' {a b : Nat} (ha : a < 2 ^ 31) (hb : b < 2 ^ 31) : (nI a < nI b) = (a < b) := propext (nI_ltI ha hb)
theorem nI_eq' {a b : Nat} (ha : a < 2 ^ 31) (hb : b < 2 ^ 31) : (nI a = nI b) = (a = b) := propext (nI_eq ha hb)
/-- every int is a small number, or negative, or great -/
theorem i_rng (x : Int32) (lo hi : Nat) (hl : lo ≤ hi) (h : hi < 2 ^ 31) (h1 : ¬ (x < nI lo ∨ nI hi < x)) : ∃ k, lo ≤ k ∧ k ≤ hi ∧ x = nI k := by
  have a1 : ¬ x < nI lo := fun z => h1 (Or.inl z)
  have a2 : ¬ nI hi < x := fun z => h1 (Or.inr z)
  rw [Int32.lt_iff_toInt_lt, nI_toInt (by omega)] at a1 a2
  refine ⟨x.toInt.toNat, by omega, by omega, ?_⟩
  apply Int32.toInt_inj.mp
  rw [nI_toInt (by omega)]
  omega
/-- Java's 'in' over longs of ints is over ints -/
theorem i64_lt (x y : Int32) : (x.toInt64 < y.toInt64) ↔ x < y := by
  rw [Int64.lt_iff_toInt_lt, Int32.lt_iff_toInt_lt, Int32.toInt_toInt64, Int32.toInt_toInt64]
theorem in_eq (x y z : Int32) : f_X8_in x.toInt64 y.toInt64 z.toInt64 = f_X7_within x y z := by
  unfold f_X8_in f_X7_within
  simp only [i64_lt]
theorem zr01 {c : Prop} [Decidable c] : zr (if c then 0 else 1) = some (if c then 0 else 1) := by unfold zr; split <;> simp
theorem within_eq (x a b : Int32) : f_X7_within x a b = some (if x < a ∨ b < x then 0 else 1) := by
  unfold f_X7_within
  by_cases h1 : x < a
  · simp [h1]
  · by_cases h2 : b < x
    · simp [h1, h2]
    · simp [h1, h2]
theorem isRow7 (x : Int32) : f_X5_isRow x = f_X7_within x 0 7 := by
  unfold f_X5_isRow f_X7_within
  have : (8 ≤ x) ↔ (7 < x) := by
    rw [Int32.le_iff_toInt_le, Int32.lt_iff_toInt_lt]
    show (8 : Int) ≤ _ ↔ (7 : Int) < _
    omega
  simp only [this]
theorem isRow8 (x : Int32) : f_X8_isRow x = f_X7_within x 0 7 := by
  unfold f_X8_isRow
  rw [show (0 : Int64) = (0 : Int32).toInt64 from rfl, show (7 : Int64) = (7 : Int32).toInt64 from rfl, in_eq, within_eq]
  exact zr01

theorem bz {c : Prop} [Decidable c] : ((if c then (0 : Int32) else 1) = 0) = c := by
  by_cases h : c <;> simp [h]
theorem bo {c : Prop} [Decidable c] : ((if c then (1 : Int32) else 0) = 0) = ¬ c := by
  by_cases h : c <;> simp [h]
theorem in0 (x z : Int32) : f_X8_in x.toInt64 0 z.toInt64 = f_X7_within x 0 z := in_eq x 0 z
theorem in_0_7 (x : Int32) : f_X8_in x.toInt64 0 7 = f_X7_within x 0 7 := in_eq x 0 7
theorem in_0_2 (x : Int32) : f_X8_in x.toInt64 0 2 = f_X7_within x 0 2 := in_eq x 0 2
theorem in_0_255 (x : Int32) : f_X8_in x.toInt64 0 255 = f_X7_within x 0 255 := in_eq x 0 255
theorem in_97_122 (x : Int32) : f_X8_in x.toInt64 97 122 = f_X7_within x 97 122 := in_eq x 97 122
theorem in_48_57 (x : Int32) : f_X8_in x.toInt64 48 57 = f_X7_within x 48 57 := in_eq x 48 57
theorem in_1_99 (x : Int32) : f_X8_in x.toInt64 1 99 = f_X7_within x 1 99 := in_eq x 1 99
theorem in_0_99 (x : Int32) : f_X8_in x.toInt64 0 99 = f_X7_within x 0 99 := in_eq x 0 99
theorem in_0_9 (x : Int32) : f_X8_in x.toInt64 0 9 = f_X7_within x 0 9 := in_eq x 0 9
theorem in_0_999 (x : Int32) : f_X8_in x.toInt64 0 999 = f_X7_within x 0 999 := in_eq x 0 999
theorem in_1_5 (x : Int32) : f_X8_in x.toInt64 1 5 = f_X7_within x 1 5 := in_eq x 1 5
theorem in_0_1980 (x : Int32) : f_X8_in x.toInt64 0 1980 = f_X7_within x 0 1980 := in_eq x 0 1980
theorem in_0_1 (x : Int32) : f_X8_in x.toInt64 0 1 = f_X7_within x 0 1 := in_eq x 0 1
theorem in_1_9999 (x : Int32) : f_X8_in x.toInt64 1 9999 = f_X7_within x 1 9999 := in_eq x 1 9999
theorem in_1_40 (x : Int32) : f_X8_in x.toInt64 1 40 = f_X7_within x 1 40 := in_eq x 1 40
theorem in_0_4 (x : Int32) : f_X8_in x.toInt64 0 4 = f_X7_within x 0 4 := in_eq x 0 4
theorem in_1_20 (x : Int32) : f_X8_in x.toInt64 1 20 = f_X7_within x 1 20 := in_eq x 1 20
theorem in_0_9999 (x : Int32) : f_X8_in x.toInt64 0 9999 = f_X7_within x 0 9999 := in_eq x 0 9999
theorem in_0_10 (x : Int32) : f_X8_in x.toInt64 0 10 = f_X7_within x 0 10 := in_eq x 0 10
theorem in_0_60 (x : Int32) : f_X8_in x.toInt64 0 60 = f_X7_within x 0 60 := in_eq x 0 60
theorem in_1_999999 (x : Int32) : f_X8_in x.toInt64 1 999999 = f_X7_within x 1 999999 := in_eq x 1 999999
theorem in_0_5 (x : Int32) : f_X8_in x.toInt64 0 5 = f_X7_within x 0 5 := in_eq x 0 5

/-! a stretch of a row that is filled -/
def fillH (H : Hp) (c off k : Nat) (v : Nat → Int32) : Hp := fun c2 j => if c2 = c ∧ off ≤ j ∧ j < off + k then v (j - off) else H c2 j
theorem fill_0 {H : Hp} {c off : Nat} {v : Nat → Int32} : fillH H c off 0 v = H := by
  funext c2 j
  unfold fillH
  rw [if_neg (by omega)]
theorem fill_s {H : Hp} {c off k : Nat} {v : Nat → Int32} {x : Int32} (hx : x = v k) : hset (fillH H c off k v) c (off + k) x = fillH H c off (k + 1) v := by
  subst hx
  funext c2 j
  rw [hset_if]
  unfold fillH
  by_cases h1 : c2 = c
  · by_cases h2 : j = off + k
    · rw [if_pos ⟨h1, h2⟩, if_pos (by omega), h2, Nat.add_sub_cancel_left]
    · rw [if_neg (by omega)]
      by_cases h3 : off ≤ j ∧ j < off + k
      · rw [if_pos ⟨h1, h3⟩, if_pos (by omega)]
      · rw [if_neg (by omega), if_neg (by omega)]
  · rw [if_neg (by omega), if_neg (by omega), if_neg (by omega)]
theorem fill_in {H : Hp} {c off k j : Nat} {v : Nat → Int32} (h : off ≤ j) (h2 : j < off + k) : fillH H c off k v c j = v (j - off) := if_pos ⟨rfl, h, h2⟩
theorem fill_c {H : Hp} {c c2 off k j : Nat} {v : Nat → Int32} (h : c2 ≠ c) : fillH H c off k v c2 j = H c2 j := if_neg (fun z => h z.1)
theorem fill_out {H : Hp} {c c2 off k j : Nat} {v : Nat → Int32} (h : j < off ∨ off + k ≤ j) : fillH H c off k v c2 j = H c2 j := if_neg (by omega)
theorem hset_fill {H : Hp} {c1 k1 c off k : Nat} {x : Int32} {v : Nat → Int32} (h : c1 ≠ c) : hset (fillH H c off k v) c1 k1 x = fillH (hset H c1 k1 x) c off k v := by
  funext c2 j
  rw [hset_if]
  unfold fillH
  rw [hset_if]
  by_cases h1 : c2 = c1 ∧ j = k1
  · rw [if_pos h1, if_neg (by omega), if_pos h1]
  · rw [if_neg h1, if_neg h1]
theorem fill_loop (F : Nat → Nat → Hp → Option Hp) (c off e : Nat) (v : Nat → Int32) (H : Hp) (he : e < 5000) (hx : ∀ m, F (m + 1) e (fillH H c off e v) = some (fillH H c off e v)) (hs : ∀ m k, k < e → F (m + 1) k (fillH H c off k v) = F m (k + 1) (fillH H c off (k + 1) v)) : F fuel 0 H = some (fillH H c off e v) := by
  obtain ⟨b, h1, h2⟩ := up0 F e he (fun k a => a = fillH H c off k v) (fun b => b = fillH H c off e v) H fill_0.symm
    (fun m a ha => ⟨_, by rw [ha]; exact hx m, rfl⟩) (fun m k a hk ha => Or.inr ⟨_, by rw [ha]; exact hs m k hk, rfl⟩)
  rw [h1, h2]
theorem hcpy_fill {H : Hp} {c0 sp c1 dp n : Nat} : hcpy H c0 sp c1 dp n = fillH H c1 dp n (fun t => H c0 (sp + t)) := by
  funext c2 j
  unfold hcpy fillH va_cpy
  by_cases h1 : c2 = c1
  · subst h1
    rw [if_pos rfl]
    by_cases h2 : dp ≤ j ∧ j < dp + n
    · rw [if_pos h2, if_pos ⟨rfl, h2⟩]
    · rw [if_neg h2, if_neg (by omega)]
  · rw [if_neg h1, if_neg (by omega)]
theorem x40 (r k : Nat) : nI r * 40 + nI k = nI (40 * r + k) := by rw [show (40 : Int32) = nI 40 from rfl, pk_mul, nI_add, Nat.mul_comm]
theorem y40 (r k : Nat) : 40 * nI r + nI k = nI (40 * r + k) := by rw [show (40 : Int32) = nI 40 from rfl, pk_mul, nI_add]
/-! rows: the component's loops and the model's -/
theorem lay_l17 {r n : Nat} (hr : r < 8) (hn : n ≤ 40) (H : Hp) : f_X5_lay_l17 (nI r) (nI n) fuel 0 H = some (fillH H 4 (40 * r) n (fun _ => 0)) := by
  refine fill_loop (fun m k a => f_X5_lay_l17 (nI r) (nI n) m (nI k) a) 4 (40 * r) n (fun _ => 0) H (by omega) (fun m => ?_) (fun m k hk => ?_)
  · simp only [f_X5_lay_l17, nI_le' (show n < 2 ^ 31 by omega) (show n < 2 ^ 31 by omega), Nat.le_refl, if_true]
  · simp only [f_X5_lay_l17, nI_le' (show n < 2 ^ 31 by omega) (show k < 2 ^ 31 by omega), if_neg (show ¬ n ≤ k by omega), x40, as_n (show 40 * r + k < 320 by omega) (by omega), Option.bind_some, fill_s, nI_1]
theorem row_l65 {r : Nat} (hr : r < 8) (H : Hp) : f_X8_row_l65 (nI r) fuel 0 H = some (fillH H 63 (40 * r) 40 (fun _ => 0)) := by
  refine fill_loop (fun m k a => f_X8_row_l65 (nI r) m (nI k) a) 63 (40 * r) 40 (fun _ => 0) H (by omega) (fun m => ?_) (fun m k hk => ?_)
  · simp only [f_X8_row_l65]
    rw [if_pos (by decide)]
  · simp only [f_X8_row_l65]
    rw [if_neg (show ¬ (40 : Int32) ≤ nI k from nI_ge (b := 40) hk (by omega)), y40, as_n (by omega) (by omega), Option.bind_some, fill_s rfl, nI_1]
