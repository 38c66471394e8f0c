/-! fund: the model's steps -/
def Fb (H0 H : Hp) : Prop := ∀ c k, c ≠ 65 → (c ≠ 60 ∨ k < 12 ∨ 17 < k) → H c k = H0 c k
def Mf (H0 H : Hp) (f p : Nat) : Prop := Fb H0 H ∧ H 60 16 = nI f ∧ H 60 17 = nI p ∧ 1 ≤ f ∧ f ≤ 3
def Ms (H0 H : Hp) (n : Nat) (B : Nat → Nat) (q : Nat) (R : Nat → Nat) : Prop := Fb H0 H ∧ H 60 16 = 0 ∧ H 60 13 = nI q ∧ q ≤ n ∧ Tkn H n B q ∧ Hr H 65 R
theorem Fb.f {H0 H : Hp} (h : Fb H0 H) (k : Nat) (x : Int32) : Fb H0 (hset H 65 k x) := fun c j h1 h2 => by rw [hset_c h1, h c j h1 h2]
theorem Fb.tm {H0 H : Hp} {n : Nat} {B : Nat → Nat} (h : Fb H0 H) (t : Tm H0 n B) : Tm H n B := t.fr (h 60 11 (by omega) (by omega)) (fun k => h 68 k (by omega) (by omega))
theorem Mf.ne {H0 H : Hp} {f p : Nat} (h : Mf H0 H f p) : ¬ H 60 16 = 0 := by
  obtain ⟨-, h2, -, h4, h5⟩ := h
  rw [h2]
  exact nI_ne0 (by omega) (by omega)
theorem Mf.f {H0 H : Hp} {f p : Nat} (h : Mf H0 H f p) (k : Nat) (x : Int32) : Mf H0 (hset H 65 k x) f p := ⟨h.1.f k x, by rw [hset_c (by omega)]; exact h.2.1, by rw [hset_c (by omega)]; exact h.2.2.1, h.2.2.2⟩
theorem Tkn.fr {H H2 : Hp} {n q : Nat} {B : Nat → Nat} (h : Tkn H n B q) (f : ∀ k, H2 60 k = H 60 k) : Tkn H2 n B q := by
  unfold Tkn at h ⊢
  rw [f, f, f]
  exact h
theorem Ms.f {H0 H : Hp} {n q : Nat} {B R : Nat → Nat} (h : Ms H0 H n B q R) (k v : Nat) : Ms H0 (hset H 65 k (nI v)) n B q (ru R k v) := ⟨h.1.f k _, by rw [hset_c (by omega)]; exact h.2.1, by rw [hset_c (by omega)]; exact h.2.2.1, h.2.2.2.1, h.2.2.2.2.1.fr (fun _ => hset_c (by omega)), Hr_ru h.2.2.2.2.2⟩
theorem bad8 {H0 H : Hp} {n q : Nat} {B R : Nat → Nat} (f : Nat) (h : Ms H0 H n B q R) (h1 : 1 ≤ f) (h2 : f ≤ 3) : ∃ H2, f_X8_bad (nI f) H = some H2 ∧ Mf H0 H2 f q := by
  obtain ⟨a1, a2, a3, -, -, -⟩ := h
  unfold f_X8_bad
  rw [a2, if_pos rfl]
  simp only [pf_e, Option.bind_some]
  refine ⟨_, rfl, fun c k c1 c2 => ?_, by rw [hset_k (by omega), hset_self], by rw [hset_self, hset_k (by omega), a3], h1, h2⟩
  rw [hset_if, if_neg (by omega), hset_if, if_neg (by omega), a1 c k c1 c2]
theorem badF {H0 H : Hp} {f p : Nat} (h : Mf H0 H f p) (x : Int32) : f_X8_bad x H = some H := by
  unfold f_X8_bad
  rw [if_neg h.ne]; rfl
theorem mustF {H0 H : Hp} {f p : Nat} (h : Mf H0 H f p) (x : Int32) : f_X8_must x H = some H := by
  unfold f_X8_must
  rw [badF h, Option.bind_some]
  by_cases g : x = 0
  · rw [if_pos g, Option.bind_some, if_neg h.ne]; rfl
  · rw [if_neg g, Option.bind_some, if_neg h.ne]; rfl
theorem sgF {H0 H : Hp} {f p : Nat} (h : Mf H0 H f p) (x : Int32) : f_X8_mustSign x H = some H := by
  unfold f_X8_mustSign
  rw [mustF h]; rfl
theorem nmF {H0 H : Hp} {f p : Nat} (h : Mf H0 H f p) (x y : Int32) : f_X8_number x y H = some (x, H) := by
  unfold f_X8_number
  rw [if_neg h.ne, Option.bind_some, if_neg h.ne, Option.bind_some, mustF h, Option.bind_some, if_neg h.ne]
theorem must0 {H0 H : Hp} {n q : Nat} {B R : Nat → Nat} (h : Ms H0 H n B q R) : ∃ H2, f_X8_must 0 H = some H2 ∧ Mf H0 H2 1 q := by
  obtain ⟨H2, e, z⟩ := bad8 1 h (by omega) (by omega)
  replace e : f_X8_bad 1 H = some H2 := e
  unfold f_X8_must
  rw [if_pos rfl, e, Option.bind_some, Option.bind_some, if_neg z.ne]
  exact ⟨H2, rfl, z⟩
theorem must1 {H0 H : Hp} {n q q2 : Nat} {B R : Nat → Nat} (t : Tm H0 n B) (h : Ms H0 H n B q R) (h12 : H 60 12 = nI q2) (hq2 : q2 ≤ n) : ∃ H2, f_X8_must 1 H = some H2 ∧ Ms H0 H2 n B q2 R := by
  obtain ⟨a1, a2, a3, a4, a5, a6⟩ := h
  obtain ⟨H2, e1, e2, e3⟩ := tok8 (a1.tm t) h12 hq2
  have fr := fr_X8_nextToken e1
  unfold f_X8_must
  rw [if_neg (by decide), Option.bind_some, if_pos a2, e1, Option.bind_some, Option.bind_some]
  refine ⟨H2, rfl, fun c k c1 c2 => ?_, ?_, e2, hq2, e3, fun k hk => ?_⟩
  · rw [fr c k (by omega), a1 c k c1 c2]
  · rw [fr 60 16 (by omega), a2]
  · rw [fr 65 k (by omega), a6 k hk]
theorem tk_sg {H : Hp} {n q c : Nat} {B : Nat → Nat} (hb : q < n → B q ≤ 255) (hc : c = 44 ∨ c = 59) (h : Tkn H n B q) : (if H 60 14 = 4 then (if H 60 15 = nI c then 1 else 0) else 0 : Int32) = (if q < n ∧ B q = c then 1 else 0) ∧ (q < n ∧ B q = c → H 60 12 = nI (q + 1)) := by
  rcases h with ⟨a, s⟩ | ⟨g, l1, l2, s, v, e⟩ | ⟨f, r, s, v, e⟩ | ⟨g, c1, s, v, e⟩ | ⟨g, x1, x2, x3, x4, s⟩
  · rw [s, if_neg (by decide), if_neg (by omega)]; exact ⟨rfl, fun z => by omega⟩
  · rw [s, if_neg (by decide), if_neg (by omega)]; exact ⟨rfl, fun z => by omega⟩
  · have := fig_v f
    rw [s, if_neg (by decide), if_neg (by omega)]; exact ⟨rfl, fun z => by omega⟩
  · have := hb g
    rw [s, if_pos rfl, v, e]
    have z : (nI (B q) = nI c) = (B q = c) := nI_eq' (by omega) (by omega)
    simp only [z]
    by_cases g2 : B q = c
    · rw [if_pos g2, if_pos ⟨g, g2⟩]; exact ⟨rfl, fun _ => trivial⟩
    · rw [if_neg g2, if_neg (fun z => g2 z.2)]; exact ⟨rfl, fun _ => trivial⟩
  · rw [s, if_neg (by decide), if_neg (by omega)]; exact ⟨rfl, fun z => by omega⟩
theorem tk_lt {H : Hp} {n q c : Nat} {B : Nat → Nat} (hc : 97 ≤ c ∧ c ≤ 122) (h : Tkn H n B q) : (if H 60 14 = 2 then (if H 60 15 = nI c then 1 else 0) else 0 : Int32) = (if q < n ∧ B q = c then 1 else 0) ∧ (q < n ∧ B q = c → H 60 12 = nI (q + 1)) := by
  rcases h with ⟨a, s⟩ | ⟨g, l1, l2, s, v, e⟩ | ⟨f, r, s, v, e⟩ | ⟨g, c1, s, v, e⟩ | ⟨g, x1, x2, x3, x4, s⟩
  · rw [s, if_neg (by decide), if_neg (by omega)]; exact ⟨rfl, fun z => by omega⟩
  · rw [s, if_pos rfl, v, e]
    have z : (nI (B q) = nI c) = (B q = c) := nI_eq' (by omega) (by omega)
    simp only [z]
    by_cases g2 : B q = c
    · rw [if_pos g2, if_pos ⟨g, g2⟩]; exact ⟨rfl, fun _ => trivial⟩
    · rw [if_neg g2, if_neg (fun z => g2 z.2)]; exact ⟨rfl, fun _ => trivial⟩
  · have := fig_v f
    rw [s, if_neg (by decide), if_neg (by omega)]; exact ⟨rfl, fun z => by omega⟩
  · rw [s, if_neg (by decide), if_neg (by omega)]; exact ⟨rfl, fun z => by omega⟩
  · rw [s, if_neg (by decide), if_neg (by omega)]; exact ⟨rfl, fun z => by omega⟩
theorem sg8 {H0 H : Hp} {n q : Nat} {B R : Nat → Nat} (c : Nat) (t : Tm H0 n B) (h : Ms H0 H n B q R) (hc : c = 44 ∨ c = 59) : (∃ f p H2, tx_sgn n B c q = .error (f, p) ∧ f_X8_mustSign (nI c) H = some H2 ∧ Mf H0 H2 f p) ∨ ∃ q2 H2, tx_sgn n B c q = .ok q2 ∧ f_X8_mustSign (nI c) H = some H2 ∧ Ms H0 H2 n B q2 R := by
  obtain ⟨s1, s2⟩ := tk_sg (fun g => (t.2.2 q g).2) hc h.2.2.2.2.1
  unfold f_X8_mustSign tx_sgn
  rw [s1]
  by_cases g : q < n ∧ B q = c
  · obtain ⟨H2, e1, e2⟩ := must1 t h (s2 g) g.1
    rw [if_pos g, if_pos g, e1]
    exact Or.inr ⟨q + 1, H2, rfl, rfl, e2⟩
  · obtain ⟨H2, e1, e2⟩ := must0 h
    rw [if_neg g, if_neg g, e1]
    exact Or.inl ⟨1, q, H2, rfl, rfl, e2⟩
theorem nm8 {H0 H : Hp} {n q : Nat} {B R : Nat → Nat} (lo hi : Nat) (t : Tm H0 n B) (h : Ms H0 H n B q R) (hlo : lo ≤ 99) (hhi : hi ≤ 99) : (∃ f p v H2, tx_num n B lo hi q = .error (f, p) ∧ f_X8_number (nI lo) (nI hi) H = some (v, H2) ∧ Mf H0 H2 f p) ∨ ∃ v q2 H2, tx_num n B lo hi q = .ok (v, q2) ∧ f_X8_number (nI lo) (nI hi) H = some (nI v, H2) ∧ Ms H0 H2 n B q2 R ∧ v ≤ hi := by
  have hrn := run_n n B 3 q h.2.2.2.1
  have hrl := run_le n B 3 q
  obtain ⟨Hf, f1, f2⟩ := bad8 1 h (by omega) (by omega)
  obtain ⟨Hg, g1, g2⟩ := bad8 2 h (by omega) (by omega)
  replace f1 : f_X8_bad 1 H = some Hf := f1
  replace g1 : f_X8_bad 2 H = some Hg := g1
  have key : (1 ≤ run n B 3 q ∧ run n B 3 q ≤ 2 ∧ H 60 14 = 3 ∧ H 60 15 = nI (nval n B q) ∧ H 60 12 = nI (q + run n B 3 q)) ∨ (¬ (1 ≤ run n B 3 q ∧ run n B 3 q ≤ 2) ∧ ¬ H 60 14 = 3) := by
    have r1 : fig n B q = true → 1 ≤ run n B 3 q := fun z => by
      simp only [run]
      rw [if_pos z]; omega
    have r0 : fig n B q = false → run n B 3 q = 0 := fun z => by
      simp only [run]
      rw [if_neg (by rw [z]; decide)]
    rcases h.2.2.2.2.1 with ⟨a, s⟩ | ⟨g, l1, l2, s, v, e⟩ | ⟨f, r, s, v, e⟩ | ⟨g, c1, s, v, e⟩ | ⟨g, x1, x2, x3, x4, s⟩
    · refine Or.inr ⟨by omega, by rw [s]; decide⟩
    · refine Or.inr ⟨?_, by rw [s]; decide⟩
      have := r0 (by
        by_cases z : fig n B q = true
        · have := fig_v z; omega
        · simpa using z)
      omega
    · exact Or.inl ⟨r1 f, r, s, v, e⟩
    · refine Or.inr ⟨?_, by rw [s]; decide⟩
      have := r0 (by
        by_cases z : fig n B q = true
        · have := fig_v z; omega
        · simpa using z)
      omega
    · refine Or.inr ⟨?_, by rw [s]; decide⟩
      rcases x4 with z | z
      · have := r0 z
        omega
      · omega
  unfold f_X8_number tx_num
  rw [if_pos h.2.1]
  rcases key with ⟨k1, k2, k3, k4, k5⟩ | ⟨k1, k2⟩
  · rw [if_pos k3, Option.bind_some, if_pos h.2.1, k4, in_eq, within_eq, Option.bind_some, if_pos ⟨k1, k2⟩]
    have hv := nval_le (n := n) (B := B) (q := q) (by omega)
    have w1 : (nI (nval n B q) < nI lo) = (nval n B q < lo) := nI_lt' (by omega) (by omega)
    have w2 : (nI hi < nI (nval n B q)) = (hi < nval n B q) := nI_lt' (by omega) (by omega)
    simp only [w1, w2, bz]
    by_cases c3 : lo ≤ nval n B q ∧ nval n B q ≤ hi
    · obtain ⟨H2, e1, e2⟩ := must1 t h k5 hrn
      rw [if_neg (show ¬ (nval n B q < lo ∨ hi < nval n B q) by omega), if_pos c3, Option.bind_some, e1, Option.bind_some, if_pos h.2.1, k4]
      exact Or.inr ⟨_, _, H2, rfl, rfl, e2, c3.2⟩
    · rw [if_pos (show nval n B q < lo ∨ hi < nval n B q by omega), if_neg c3, g1, Option.bind_some, Option.bind_some, mustF g2, Option.bind_some]
      exact Or.inl ⟨2, q, _, Hg, rfl, rfl, g2⟩
  · rw [if_neg k2, f1, Option.bind_some, Option.bind_some, if_neg f2.ne, Option.bind_some, mustF f2, Option.bind_some, if_neg k1]
    exact Or.inl ⟨1, q, _, Hf, rfl, rfl, f2⟩
/-! the projects -/
theorem kd_l {c : Nat} (h : kd c ≠ 0) : 97 ≤ c ∧ c ≤ 122 := by
  unfold kd at h
  by_cases h1 : c = 99
  · omega
  by_cases h2 : c = 102
  · omega
  by_cases h3 : c = 104
  · omega
  by_cases h4 : c = 111
  · omega
  by_cases h5 : c = 115
  · omega
  rw [if_neg h1, if_neg h2, if_neg h3, if_neg h4, if_neg h5] at h
  exact absurd rfl h
theorem kb8 {b : Nat} (hb : b ≤ 255) : f_X8_kindBy (nI b) = some (if kd b = 0 then -1000000 else nI (kd b)) := by
  by_cases h1 : b = 99
  · subst h1; decide
  by_cases h2 : b = 102
  · subst h2; decide
  by_cases h3 : b = 104
  · subst h3; decide
  by_cases h4 : b = 111
  · subst h4; decide
  by_cases h5 : b = 115
  · subst h5; decide
  have e0 : kd b = 0 := by
    unfold kd
    rw [if_neg h1, if_neg h2, if_neg h3, if_neg h4, if_neg h5]
  have e1 : (nI b = 99) = (b = 99) := nI_eq' (b := 99) (by omega) (by omega)
  have e2 : (nI b = 102) = (b = 102) := nI_eq' (b := 102) (by omega) (by omega)
  have e3 : (nI b = 104) = (b = 104) := nI_eq' (b := 104) (by omega) (by omega)
  have e4 : (nI b = 111) = (b = 111) := nI_eq' (b := 111) (by omega) (by omega)
  have e5 : (nI b = 115) = (b = 115) := nI_eq' (b := 115) (by omega) (by omega)
  unfold f_X8_kindBy
  simp only [e1, e2, e3, e4, e5]
  rw [if_neg h1, if_neg h2, if_neg h3, if_neg h4, if_neg h5, if_pos e0]
theorem nk8 {k : Nat} (h : k ≤ 5) : ¬ nI k = -1000000 := nI_none (by omega)
theorem isSort8 {H0 H : Hp} {n q : Nat} {B R : Nat → Nat} (t : Tm H0 n B) (h : Ms H0 H n B q R) : f_X8_isSort H = some (if q < n ∧ kd (B q) ≠ 0 then 1 else 0) := by
  have k5 := kd_le (B q)
  have no : (¬ (97 ≤ B q ∧ B q ≤ 122) ∨ ¬ q < n) → ¬ (q < n ∧ kd (B q) ≠ 0) := fun z y => by
    have := kd_l y.2
    omega
  unfold f_X8_isSort
  rw [if_pos h.2.1]
  rcases h.2.2.2.2.1 with ⟨a, s⟩ | ⟨g, l1, l2, s, v, e⟩ | ⟨f, r, s, v, e⟩ | ⟨g, c1, s, v, e⟩ | ⟨g, x1, x2, x3, x4, s⟩
  · rw [s, if_neg (by decide), Option.bind_some, zr_0, if_neg (no (by omega))]
  · rw [s, if_pos rfl, v, kb8 (t.2.2 q g).2, Option.bind_some]
    by_cases g0 : kd (B q) = 0
    · rw [if_pos g0, if_pos rfl, Option.bind_some, zr_0, if_neg (by omega)]
    · rw [if_neg g0, if_neg (nk8 k5), Option.bind_some, zr_1, if_pos ⟨g, g0⟩]
  · have := fig_v f
    rw [s, if_neg (by decide), Option.bind_some, zr_0, if_neg (no (by omega))]
  · rw [s, if_neg (by decide), Option.bind_some, zr_0, if_neg (no (by omega))]
  · rw [s, if_neg (by decide), Option.bind_some, zr_0, if_neg (no (by omega))]
theorem isSortF {H0 H : Hp} {f p : Nat} (h : Mf H0 H f p) : f_X8_isSort H = some 0 := by
  unfold f_X8_isSort
  rw [if_neg h.ne, Option.bind_some, zr_0]
theorem ag65 {H : Hp} {R : Nat → Nat} (h : Hr H 65 R) : ag H 65 80 0 = some (nI (R 0)) := by
  rw [show ag H 65 80 0 = ag H 65 80 (nI 0) from rfl, ag_n (by omega) (by omega), h 0 (by omega)]
theorem rp8 {H0 H : Hp} {n q : Nat} {B R : Nat → Nat} (t : Tm H0 n B) (h : Ms H0 H n B q R) (g : q < n) (gk : kd (B q) ≠ 0) (h6 : R 0 ≤ 6) : (R 0 = 6 → ∃ H2, f_X8_readProject H = some H2 ∧ Mf H0 H2 3 q) ∧ (R 0 < 6 → (∃ f p H2, tx_sgn n B 59 (q + 1) = .error (f, p) ∧ f_X8_readProject H = some H2 ∧ Mf H0 H2 f p) ∨ ∃ a H2, tx_sgn n B 59 (q + 1) = .ok a ∧ f_X8_readProject H = some H2 ∧ Ms H0 H2 n B a (ru (ru R (4 + R 0) (kd (B q))) 0 (R 0 + 1))) := by
  have lt := kd_l gk
  have tk : H 60 15 = nI (B q) ∧ H 60 12 = nI (q + 1) := by
    rcases h.2.2.2.2.1 with ⟨a, s⟩ | ⟨g, l1, l2, s, v, e⟩ | ⟨f, r, s, v, e⟩ | ⟨g, c1, s, v, e⟩ | ⟨g, x1, x2, x3, x4, s⟩
    · omega
    · exact ⟨v, e⟩
    · have := fig_v f
      omega
    · omega
    · omega
  have z6 : (nI (R 0) = 6) = (R 0 = 6) := nI_eq' (b := 6) (by omega) (by omega)
  unfold f_X8_readProject
  rw [tk.1, kb8 (by omega), if_neg gk, Option.bind_some, ag65 h.2.2.2.2.2, Option.bind_some]
  simp only [z6]
  refine ⟨fun g6 => ?_, fun g6 => ?_⟩
  · obtain ⟨Hg, g1, g2⟩ := bad8 3 h (by omega) (by omega)
    replace g1 : f_X8_bad 3 H = some Hg := g1
    rw [if_pos g6, g1, Option.bind_some, Option.bind_some, mustF g2, Option.bind_some, sgF g2, Option.bind_some, if_neg g2.ne]
    exact ⟨Hg, rfl, g2⟩
  · obtain ⟨H5, e5, h5⟩ := must1 t h tk.2 g
    rw [if_neg (by omega), Option.bind_some, e5, Option.bind_some, show (59 : Int32) = nI 59 from rfl]
    rcases sg8 59 t h5 (Or.inr rfl) with ⟨f, p, H7, s7, e7, z⟩ | ⟨a, H7, s7, e7, h7⟩
    · rw [e7, Option.bind_some, if_neg z.ne]
      exact Or.inl ⟨f, p, H7, s7, rfl, z⟩
    · rw [e7, Option.bind_some, if_pos h7.2.1, ag65 h7.2.2.2.2.2, Option.bind_some, z4, as_n (by omega) (by omega), Option.bind_some, show ag (hset H7 65 (4 + R 0) (nI (kd (B q)))) 65 80 0 = ag (hset H7 65 (4 + R 0) (nI (kd (B q)))) 65 80 (nI 0) from rfl, ag_n (by omega) (by omega), Option.bind_some, hset_k (show 0 ≠ 4 + R 0 by omega), h7.2.2.2.2.2 0 (by omega), nI_1, show as (hset H7 65 (4 + R 0) (nI (kd (B q)))) 65 80 0 (nI (R 0 + 1)) = as (hset H7 65 (4 + R 0) (nI (kd (B q)))) 65 80 (nI 0) (nI (R 0 + 1)) from rfl, as_n (by omega) (by omega), Option.bind_some, Option.bind_some]
      exact Or.inr ⟨a, _, s7, rfl, (h7.f _ _).f _ _⟩
theorem prj8 {H0 : Hp} {n : Nat} {B : Nat → Nat} (t : Tm H0 n B) : ∀ (m d q : Nat) (R : Nat → Nat) (H : Hp), R 0 + d = 6 → d + 1 < m → Ms H0 H n B q R → (0 < R 0 ∨ (q < n ∧ kd (B q) ≠ 0)) → R 3 = 0 → (∃ f p H2, tx_prj n B (d + 1) q R = .error (f, p) ∧ f_X8_fund_l106 m H = some H2 ∧ Mf H0 H2 f p) ∨ ∃ q2 R2 H2, tx_prj n B (d + 1) q R = .ok (q2, R2) ∧ f_X8_fund_l106 m H = some H2 ∧ Ms H0 H2 n B q2 R2 ∧ 0 < R2 0 ∧ R2 0 ≤ 6 ∧ R2 3 = 0 := by
  intro m
  induction m with
  | zero => intro d q R H _ h; omega
  | succ m ih =>
    intro d q R H hd hm h h0 h3
    simp only [f_X8_fund_l106, tx_prj]
    rw [isSort8 t h, Option.bind_some]
    have stop : ∀ f p H2, Mf H0 H2 f p → f_X8_fund_l106 m H2 = some H2 := fun f p H2 z => by
      obtain ⟨m, rfl⟩ : ∃ j, m = j + 1 := ⟨m - 1, by omega⟩
      simp only [f_X8_fund_l106]
      rw [isSortF z, Option.bind_some, if_pos rfl]
    by_cases g : q < n ∧ kd (B q) ≠ 0
    · obtain ⟨p1, p2⟩ := rp8 t h g.1 g.2 (by omega)
      rw [if_pos g, if_pos g, if_neg ne10]
      by_cases g6 : R 0 = 6
      · obtain ⟨H2, e1, z⟩ := p1 g6
        rw [if_pos g6, e1, Option.bind_some, stop _ _ _ z]
        exact Or.inl ⟨3, q, H2, rfl, rfl, z⟩
      · rw [if_neg g6]
        rcases p2 (by omega) with ⟨f, p, H2, s1, e1, z⟩ | ⟨a, H2, s1, e1, h1⟩
        · rw [s1, e1, Option.bind_some, stop _ _ _ z]
          exact Or.inl ⟨f, p, H2, rfl, rfl, z⟩
        · rw [s1, e1, Option.bind_some]
          obtain ⟨d, rfl⟩ : ∃ e, d = e + 1 := ⟨d - 1, by omega⟩
          exact ih d a (ru (ru R (4 + R 0) (kd (B q))) 0 (R 0 + 1)) H2 (by rw [ru_s]; omega) (by omega) h1 (Or.inl (by rw [ru_s]; omega)) (by rw [ru_o (by omega), ru_o (by omega), h3])
    · rw [if_neg g, if_neg g, if_neg (show ¬ R 0 = 0 by omega), if_pos rfl]
      exact Or.inr ⟨q, R, H, rfl, rfl, h, by omega, by omega, h3⟩
