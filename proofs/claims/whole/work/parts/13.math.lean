/-! sums of naturals -/
def smD : Nat → (Nat → Nat) → Nat
  | 0, _ => 0
  | n + 1, f => smD n f + f n
theorem sm_ex : ∃ s : Nat → (Nat → Nat) → Nat, s = smD := ⟨_, rfl⟩
noncomputable def sm : Nat → (Nat → Nat) → Nat := sm_ex.choose
theorem sm_d : sm = smD := sm_ex.choose_spec
theorem sm_0 (f : Nat → Nat) : sm 0 f = 0 := by rw [sm_d]; rfl
theorem sm_s (n : Nat) (f : Nat → Nat) : sm (n + 1) f = sm n f + f n := by rw [sm_d]; rfl
theorem sm_congr {n : Nat} {f g : Nat → Nat} (h : ∀ k, k < n → f k = g k) : sm n f = sm n g := by
  induction n with
  | zero => rw [sm_0, sm_0]
  | succ n ih => rw [sm_s, sm_s, ih (fun k hk => h k (by omega)), h n (by omega)]
theorem sm_le {n B : Nat} {f : Nat → Nat} (h : ∀ k, k < n → f k ≤ B) : sm n f ≤ n * B := by
  induction n with
  | zero => simp [sm_0]
  | succ n ih =>
    have := ih (fun k hk => h k (by omega))
    have := h n (by omega)
    rw [sm_s, Nat.succ_mul]
    omega
theorem sm_mono {n : Nat} {f g : Nat → Nat} (h : ∀ k, k < n → f k ≤ g k) : sm n f ≤ sm n g := by
  induction n with
  | zero => simp [sm_0]
  | succ n ih =>
    have := ih (fun k hk => h k (by omega))
    have := h n (by omega)
    rw [sm_s, sm_s]
    omega
theorem sm_add (n : Nat) (f g : Nat → Nat) : sm n (fun k => f k + g k) = sm n f + sm n g := by
  induction n with
  | zero => simp [sm_0]
  | succ n ih => rw [sm_s, sm_s, sm_s, ih]; omega
theorem sm_z {n : Nat} {f : Nat → Nat} (h : ∀ k, k < n → f k = 0) : sm n f = 0 := by
  induction n with
  | zero => rw [sm_0]
  | succ n ih => rw [sm_s, ih (fun k hk => h k (by omega)), h n (by omega)]
theorem sm_ge {n k : Nat} (f : Nat → Nat) (h : k < n) : f k ≤ sm n f := by
  induction n with
  | zero => omega
  | succ n ih =>
    rw [sm_s]
    by_cases hk : k = n
    · subst hk; omega
    · have := ih (by omega); omega
theorem sm_ext {m n : Nat} {f : Nat → Nat} (hm : m ≤ n) (h : ∀ k, m ≤ k → k < n → f k = 0) : sm n f = sm m f := by
  induction n with
  | zero => rw [show m = 0 by omega]
  | succ n ih =>
    by_cases hk : m = n + 1
    · rw [hk]
    · rw [sm_s, ih (by omega) (fun k h1 h2 => h k h1 (by omega)), h n (by omega) (by omega)]; rfl
theorem sm_mul (n c : Nat) (f : Nat → Nat) : sm n (fun k => f k * c) = sm n f * c := by
  induction n with
  | zero => simp [sm_0]
  | succ n ih => rw [sm_s, sm_s, ih, Nat.add_mul]
theorem sm_one {n g : Nat} (f : Nat → Nat) (h : g < n) : sm n (fun k => if k = g then f k else 0) = f g := by
  induction n with
  | zero => omega
  | succ n ih =>
    rw [sm_s]
    by_cases hg : g = n
    · subst hg
      rw [if_pos rfl, sm_z (fun k hk => if_neg (by omega))]; omega
    · rw [ih (by omega), if_neg (by omega)]; rfl
/-- one place is changed -/
theorem sm_upd {n g : Nat} {f f2 : Nat → Nat} (h : g < n) (he : ∀ k, k < n → k ≠ g → f2 k = f k) : sm n f2 + f g = sm n f + f2 g := by
  have e1 : sm n f2 = sm n (fun k => if k = g then 0 else f k) + f2 g := by
    rw [← sm_one f2 h, ← sm_add]
    refine sm_congr (fun k hk => ?_)
    by_cases hg : k = g
    · simp [hg]
    · simp [hg, he k hk hg]
  have e2 : sm n f = sm n (fun k => if k = g then 0 else f k) + f g := by
    rw [← sm_one f h, ← sm_add]
    refine sm_congr (fun k hk => ?_)
    by_cases hg : k = g
    · simp [hg]
    · simp [hg]
  omega
/-! the root -/
def rA (v : Nat) : Nat → Nat → Nat
  | 0, r => r
  | k + 1, r => rA v k (if 10000 * v < (r + 2 ^ k) * (r + 2 ^ k) then r else r + 2 ^ k)
def rB (v : Nat) : Nat → Nat → Nat → Nat
  | 0, lo, _ => lo
  | k + 1, lo, hi => if hi - lo ≤ 1 then lo else rB v k (if 10000 * v < ((lo + hi) / 2) * ((lo + hi) / 2) then lo else (lo + hi) / 2) (if 10000 * v < ((lo + hi) / 2) * ((lo + hi) / 2) then (lo + hi) / 2 else hi)
theorem rt_ex : ∃ s : Nat → Nat, s = fun v => rA v 13 0 := ⟨_, rfl⟩
noncomputable def rt : Nat → Nat := rt_ex.choose
theorem rt_d (v : Nat) : rt v = rA v 13 0 := congrFun rt_ex.choose_spec v
theorem rt_chk : (List.range 1981).all (fun v => rB v 13 0 4450 == rA v 13 0 && rA v 13 0 ≤ 4449 && (v == 0 || 100 ≤ rA v 13 0)) = true := by decide +kernel
theorem rt_fact {v : Nat} (h : v ≤ 1980) : rB v 13 0 4450 = rt v ∧ rt v ≤ 4449 ∧ (0 < v → 100 ≤ rt v) := by
  have := List.all_eq_true.mp rt_chk v (List.mem_range.mpr (by omega))
  simp only [Bool.and_eq_true, Bool.or_eq_true, decide_eq_true_eq, beq_iff_eq] at this
  rw [rt_d]
  exact ⟨this.1.1, this.1.2, fun h => this.2.resolve_left (by omega)⟩
theorem rt_0 : rt 0 = 0 := by rw [rt_d]; decide +kernel
theorem rt_pos {v : Nat} (h : v ≤ 1980) : (rt v = 0) = (v = 0) := by
  apply propext
  constructor
  · intro z
    have := (rt_fact h).2.2
    omega
  · rintro rfl; exact rt_0
theorem mul_lt' {a b c d : Nat} (h1 : a ≤ c) (h2 : b ≤ d) : a * b ≤ c * d := Nat.mul_le_mul h1 h2
theorem rootA (v : Nat) (hv : v ≤ 1980) : ∀ (k m r : Nat), k < m → k ≤ 13 → r + 2 ^ k ≤ 8192 → f_X2_rootOf_l6 (nI v) m (nI r) (nI (2 ^ k / 2)) = some (nI (rA v k r)) := by
  intro k
  induction k with
  | zero =>
    intro m r hm _ _
    obtain ⟨m, rfl⟩ : ∃ j, m = j + 1 := ⟨m - 1, by omega⟩
    simp only [f_X2_rootOf_l6, rA]
    rw [if_pos (by decide)]
  | succ k ih =>
    intro m r hm hk hr
    obtain ⟨m, rfl⟩ : ∃ j, m = j + 1 := ⟨m - 1, by omega⟩
    have e1 : 2 ^ (k + 1) / 2 = 2 ^ k := by rw [Nat.pow_succ]; omega
    have e2 : 2 ^ (k + 1) = 2 ^ k + 2 ^ k := by rw [Nat.pow_succ]; omega
    have e3 : 0 < 2 ^ k := Nat.two_pow_pos k
    rw [e1]
    simp only [f_X2_rootOf_l6, rA]
    have hb : (r + 2 ^ k) * (r + 2 ^ k) ≤ 8192 * 8192 := mul_lt' (by omega) (by omega)
    rw [if_neg (nI_nle e3 (by omega)), show (10000 : Int32) = nI 10000 from rfl, pk_mul, nI_add, pk_mul, pk_shrN (by omega) _ 1 (by decide)]
    simp only [nI_lt' (show 10000 * v < 2 ^ 31 by omega) (show (r + 2 ^ k) * (r + 2 ^ k) < 2 ^ 31 by omega)]
    rw [show (2 ^ k) / 2 ^ 1 = 2 ^ k / 2 by rfl]
    split
    · exact ih m r (by omega) (by omega) (by omega)
    · exact ih m (r + 2 ^ k) (by omega) (by omega) (by omega)
theorem root7 {v : Nat} (hv : v ≤ 1980) : f_X2_rootOf (nI v) = some (nI (rt v)) := by
  unfold f_X2_rootOf
  rw [show (4096 : Int32) = nI (2 ^ 13 / 2) from rfl, show (0 : Int32) = nI 0 from rfl, rootA v hv 13 fuel 0 (by decide) (by omega) (by decide), rt_d]
  rfl
theorem rootB (v : Nat) (hv : v ≤ 1980) : ∀ (k m lo hi : Nat), k < m → lo ≤ hi → hi ≤ 4450 → hi - lo ≤ 2 ^ k → f_X8_rootOf_l6 (nI v) m (nI lo) (nI hi) = some (nI (rB v k lo hi)) := by
  intro k
  induction k with
  | zero =>
    intro m lo hi hm h1 h2 h3
    obtain ⟨m, rfl⟩ : ∃ j, m = j + 1 := ⟨m - 1, by omega⟩
    simp only [f_X8_rootOf_l6, rB]
    rw [pk_sub h1, show (1 : Int32) = nI 1 from rfl, if_pos (nI_le (by omega) (by omega))]
  | succ k ih =>
    intro m lo hi hm h1 h2 h3
    obtain ⟨m, rfl⟩ : ∃ j, m = j + 1 := ⟨m - 1, by omega⟩
    have e2 : 2 ^ (k + 1) = 2 ^ k + 2 ^ k := by rw [Nat.pow_succ]; omega
    simp only [f_X8_rootOf_l6, rB]
    have hb : ((lo + hi) / 2) * ((lo + hi) / 2) ≤ 4450 * 4450 := mul_lt' (by omega) (by omega)
    rw [pk_sub h1, show (1 : Int32) = nI 1 from rfl]
    simp only [nI_le' (show hi - lo < 2 ^ 31 by omega) (show 1 < 2 ^ 31 by omega)]
    by_cases g : hi - lo ≤ 1
    · rw [if_pos g, if_pos g]
    rw [if_neg g, if_neg g, nI_add, show (2 : Int32) = nI 2 from rfl, pk_div (by omega) (by omega) (by omega), show (10000 : Int32) = nI 10000 from rfl, pk_mul, pk_mul]
    simp only [nI_lt' (show 10000 * v < 2 ^ 31 by omega) (show ((lo + hi) / 2) * ((lo + hi) / 2) < 2 ^ 31 by omega)]
    by_cases g2 : 10000 * v < (lo + hi) / 2 * ((lo + hi) / 2)
    · simp only [if_pos g2]
      exact ih m lo ((lo + hi) / 2) (by omega) (by omega) (by omega) (by omega)
    · simp only [if_neg g2]
      exact ih m ((lo + hi) / 2) hi (by omega) (by omega) (by omega) (by omega)
theorem root8 {v : Nat} (hv : v ≤ 1980) : f_X8_rootOf (nI v) = some (nI (rt v)) := by
  unfold f_X8_rootOf
  rw [show (4450 : Int32) = nI 4450 from rfl, show (0 : Int32) = nI 0 from rfl, rootB v hv 13 fuel 0 4450 (by decide) (by omega) (by omega) (by decide), (rt_fact hv).1]
  rfl
/-! tables of sums -/
noncomputable def ov (t : Nat → Nat → Nat) (a b : Nat) : Nat := sm 6 (fun p => rt (t a p) * rt (t b p)) / 10000
noncomputable def tm (e : Nat) (t : Nat → Nat → Nat) (a b p : Nat) : Nat := 2 * (rt (t a p) * rt (t b p)) * e / (10000 * (e + ov t a b))
noncomputable def TM (e : Nat) (t : Nat → Nat → Nat) (p : Nat) : Nat := sm 10 (fun a => sm 10 (fun b => if a < b then tm e t a b p else 0))
noncomputable def CO (t : Nat → Nat → Nat) (p : Nat) : Nat := sm 10 (fun a => t a p)
noncomputable def RS (t : Nat → Nat → Nat) (p : Nat) : Nat := sm 10 (fun a => rt (t a p))
noncomputable def HD (t : Nat → Nat → Nat) (p : Nat) : Nat := sm 10 (fun a => if 0 < t a p then 1 else 0)
noncomputable def CL (κ : Nat → Int32) (e : Nat) (t : Nat → Nat → Nat) (p : Nat) : Nat :=
  if κ p = 1 then TM e t p else if κ p = 2 then RS t p * RS t p / 10000 - CO t p else if κ p = 3 then TM e t p / 2 else if κ p = 4 then CO t p else min (CO t p) (5 * HD t p)
/-- each sum is at most 1980, and none to a project that is not there -/
def Bt (n : Nat) (t : Nat → Nat → Nat) : Prop := ∀ a p, t a p ≤ 1980 ∧ (n ≤ p → t a p = 0)
theorem ov_comm (t : Nat → Nat → Nat) (a b : Nat) : ov t a b = ov t b a := by
  unfold ov
  rw [sm_congr (fun p _ => Nat.mul_comm (rt (t a p)) (rt (t b p)))]
theorem tm_comm (e : Nat) (t : Nat → Nat → Nat) (a b p : Nat) : tm e t a b p = tm e t b a p := by
  unfold tm
  rw [ov_comm, Nat.mul_comm (rt (t a p))]
theorem ov_n {n : Nat} {t : Nat → Nat → Nat} (h : Bt n t) (hn : n ≤ 6) (a b : Nat) : sm n (fun p => rt (t a p) * rt (t b p)) / 10000 = ov t a b := by
  unfold ov
  rw [sm_ext hn (fun p h1 _ => by rw [(h a p).2 h1, rt_0, Nat.zero_mul])]
theorem rr_le {n : Nat} {t : Nat → Nat → Nat} (h : Bt n t) (a b p : Nat) : rt (t a p) * rt (t b p) ≤ 4449 * 4449 := mul_lt' (rt_fact (h a p).1).2.1 (rt_fact (h b p).1).2.1
theorem ov_le {n : Nat} {t : Nat → Nat → Nat} (h : Bt n t) (a b k : Nat) (hk : k ≤ 6) : sm k (fun p => rt (t a p) * rt (t b p)) ≤ 6 * (4449 * 4449) := by
  have := sm_le (n := k) (fun p _ => rr_le h a b p)
  exact Nat.le_trans this (Nat.mul_le_mul_right _ hk)
theorem ov_le2 {n : Nat} {t : Nat → Nat → Nat} (h : Bt n t) (a b : Nat) : ov t a b ≤ 12000 := by
  exact Nat.le_trans (Nat.div_le_div_right (ov_le h a b 6 (by omega))) (by decide)
theorem tm_le {n e : Nat} {t : Nat → Nat → Nat} (h : Bt n t) (a b p : Nat) : tm e t a b p ≤ 4000 := by
  unfold tm
  have h1 := rr_le h a b p
  by_cases he : e = 0
  · subst he; simp
  have h2 : 2 * (rt (t a p) * rt (t b p)) * e ≤ 40000000 * e := Nat.mul_le_mul_right _ (by omega)
  have h3 : 2 * (rt (t a p) * rt (t b p)) * e / (10000 * (e + ov t a b)) ≤ 2 * (rt (t a p) * rt (t b p)) * e / (10000 * e) := Nat.div_le_div_left (by omega) (by omega)
  have h4 : 2 * (rt (t a p) * rt (t b p)) * e / (10000 * e) ≤ 40000000 * e / (10000 * e) := Nat.div_le_div_right h2
  have h5 : 40000000 * e / (10000 * e) = 40000000 / 10000 := Nat.mul_div_mul_right 40000000 10000 (by omega)
  omega
theorem tm_z {e : Nat} {t : Nat → Nat → Nat} {a b p : Nat} (h : rt (t a p) * rt (t b p) = 0) : tm e t a b p = 0 := by
  unfold tm
  rw [h]; simp
theorem tm_ov {n e : Nat} {t : Nat → Nat → Nat} (h : Bt n t) {a b : Nat} (h0 : ov t a b = 0) (p : Nat) (hp : p < 6) : tm e t a b p = 0 := by
  apply tm_z
  apply Classical.byContradiction
  intro hz
  have h1 := sm_ge (n := 6) (fun p => rt (t a p) * rt (t b p)) hp
  unfold ov at h0
  have h2 : rt (t a p) ≠ 0 := fun z => hz (by rw [z, Nat.zero_mul])
  have h3 : rt (t b p) ≠ 0 := fun z => hz (by rw [z, Nat.mul_zero])
  have e2 := (rt_fact (h a p).1).2.2 (Nat.pos_of_ne_zero (fun z => h2 (by rw [z, rt_0])))
  have e3 := (rt_fact (h b p).1).2.2 (Nat.pos_of_ne_zero (fun z => h3 (by rw [z, rt_0])))
  have := mul_lt' e2 e3
  omega
theorem TM_le {n e : Nat} {t : Nat → Nat → Nat} (h : Bt n t) (p : Nat) : TM e t p ≤ 400000 := by
  unfold TM
  have := sm_le (n := 10) (B := 40000) (f := fun a => sm 10 (fun b => if a < b then tm e t a b p else 0)) (fun a _ => by
    have := sm_le (n := 10) (B := 4000) (f := fun b => if a < b then tm e t a b p else 0) (fun b _ => by
      have := tm_le (e := e) h a b p
      split <;> omega)
    omega)
  omega
theorem CO_le {n : Nat} {t : Nat → Nat → Nat} (h : Bt n t) (p : Nat) : CO t p ≤ 19800 := by
  have := sm_le (n := 10) (fun a _ => (h a p).1)
  unfold CO
  omega
theorem RS_le {n : Nat} {t : Nat → Nat → Nat} (h : Bt n t) (p : Nat) : RS t p ≤ 44490 := by
  have := sm_le (n := 10) (fun a _ => (rt_fact (h a p).1).2.1)
  unfold RS
  omega
theorem HD_le (t : Nat → Nat → Nat) (p : Nat) : HD t p ≤ 10 := by
  have := sm_le (n := 10) (B := 1) (f := fun a => if 0 < t a p then 1 else 0) (fun a _ => by split <;> omega)
  unfold HD
  omega
theorem CL_le {n e : Nat} {t : Nat → Nat → Nat} (h : Bt n t) (κ : Nat → Int32) (p : Nat) : CL κ e t p ≤ 400000 := by
  have h1 := TM_le (e := e) h p
  have h2 := CO_le h p
  have h3 := RS_le h p
  have h4 := mul_lt' h3 h3
  unfold CL
  repeat' split
  all_goals omega
/-- a giver comes in: t2 is t with the row of g, which was empty -/
theorem TM_in {e g : Nat} {t t2 : Nat → Nat → Nat} (hg : g < 10) (h : ∀ a, a ≠ g → t2 a = t a) (h0 : ∀ p, t g p = 0) (p : Nat) : TM e t2 p = TM e t p + sm 10 (fun o => if o = g then 0 else tm e t2 g o p) := by
  have e0 : ∀ a b, a < 10 → b < 10 → a < b → tm e t2 a b p = tm e t a b p + (if a = g then tm e t2 g b p else 0) + (if b = g then tm e t2 g a p else 0) := by
    intro a b _ _ hab
    by_cases ha : a = g
    · subst ha
      rw [if_pos rfl, if_neg (by omega), tm_z (t := t) (by rw [h0, rt_0, Nat.zero_mul])]; omega
    · by_cases hb : b = g
      · subst hb
        rw [if_neg ha, if_pos rfl, tm_z (t := t) (by rw [h0, rt_0, Nat.mul_zero]), tm_comm]; omega
      · rw [if_neg ha, if_neg hb]
        unfold tm ov
        rw [h a ha, h b hb]; rfl
  have e1 : TM e t2 p = sm 10 (fun a => sm 10 (fun b => if a < b then tm e t a b p else 0) + (if a = g then sm 10 (fun b => if g < b then tm e t2 g b p else 0) else 0) + (if a < g then tm e t2 g a p else 0)) := by
    unfold TM
    refine sm_congr (fun a ha => ?_)
    have q1 : sm 10 (fun b => if a < b then tm e t2 a b p else 0) = sm 10 (fun b => ((if a < b then tm e t a b p else 0) + (if a = g then (if g < b then tm e t2 g b p else 0) else 0)) + (if b = g then (if a < b then tm e t2 g a p else 0) else 0)) := by
      refine sm_congr (fun b hb => ?_)
      by_cases hab : a < b
      · rw [if_pos hab, if_pos hab, e0 a b ha hb hab]
        by_cases hag : a = g
        · subst hag; simp [hab]
        · simp [hag, hab]
      · rw [if_neg hab, if_neg hab]
        by_cases hag : a = g
        · subst hag; simp [hab]
        · simp [hag, hab]
    rw [q1, sm_add, sm_add, sm_one (fun b => if a < b then tm e t2 g a p else 0) hg]
    by_cases hag : a = g
    · subst hag; simp
    · simp only [if_neg hag]
      rw [sm_z (n := 10) (f := fun _ => 0) (fun _ _ => rfl)]
  rw [e1, sm_add, sm_add, sm_one (fun _ => sm 10 (fun b => if g < b then tm e t2 g b p else 0)) hg]
  have e2 : sm 10 (fun o => if o = g then 0 else tm e t2 g o p) = sm 10 (fun b => if g < b then tm e t2 g b p else 0) + sm 10 (fun a => if a < g then tm e t2 g a p else 0) := by
    rw [← sm_add]
    refine sm_congr (fun o _ => ?_)
    by_cases h1 : o = g
    · subst h1; simp
    · by_cases h2 : g < o
      · simp [h1, h2, show ¬ o < g by omega]
      · simp [h1, h2, show o < g by omega]
  rw [e2]
  unfold TM
  omega
theorem CO_in {g : Nat} {t t2 : Nat → Nat → Nat} (hg : g < 10) (h : ∀ a, a ≠ g → t2 a = t a) (h0 : ∀ p, t g p = 0) (p : Nat) : CO t2 p = CO t p + t2 g p := by
  have := sm_upd (f := fun a => t a p) (f2 := fun a => t2 a p) hg (fun k _ hk => by rw [h k hk])
  rw [h0] at this
  exact this
theorem RS_in {g : Nat} {t t2 : Nat → Nat → Nat} (hg : g < 10) (h : ∀ a, a ≠ g → t2 a = t a) (h0 : ∀ p, t g p = 0) (p : Nat) : RS t2 p = RS t p + rt (t2 g p) := by
  have := sm_upd (f := fun a => rt (t a p)) (f2 := fun a => rt (t2 a p)) hg (fun k _ hk => by rw [h k hk])
  rw [h0, rt_0] at this
  exact this
theorem HD_in {g : Nat} {t t2 : Nat → Nat → Nat} (hg : g < 10) (h : ∀ a, a ≠ g → t2 a = t a) (h0 : ∀ p, t g p = 0) (p : Nat) : HD t2 p = HD t p + (if 0 < t2 g p then 1 else 0) := by
  have := sm_upd (f := fun a => if 0 < t a p then 1 else 0) (f2 := fun a => if 0 < t2 a p then 1 else 0) hg (fun k _ hk => by rw [h k hk])
  rw [h0] at this
  exact this
/-! what is paid -/
noncomputable def bs (n P : Nat) (c : Nat → Nat) (p : Nat) : Nat := c p * P / sm n c
def lf (c : Nat → Nat) (l : Nat) : Nat → Nat
  | 0 => l
  | p + 1 => if 0 < c p then lf c l p - 1 else lf c l p
noncomputable def lv (n P : Nat) (c : Nat → Nat) : Nat := P - sm n (bs n P c)
noncomputable def PD (n P : Nat) (c : Nat → Nat) (p : Nat) : Nat := if sm n c ≤ P then c p else bs n P c p + (if 0 < c p ∧ 0 < lf c (lv n P c) p then 1 else 0)
noncomputable def RE (n P : Nat) (c : Nat → Nat) : Nat := if sm n c ≤ P then P - sm n c else 0
theorem bs_sum (n P : Nat) (c : Nat → Nat) : sm n c * sm n (bs n P c) ≤ sm n c * P := by
  have h1 : ∀ k, sm k (bs n P c) * sm n c ≤ sm k c * P := by
    intro k
    rw [← sm_mul, ← sm_mul]
    refine sm_mono (fun p _ => ?_)
    exact Nat.div_mul_le_self _ _
  have := h1 n
  rw [Nat.mul_comm (sm n c) (sm n (bs n P c))]
  exact this
theorem bs_le (n P : Nat) (c : Nat → Nat) (h : 0 < sm n c) : sm n (bs n P c) ≤ P := Nat.le_of_mul_le_mul_left (bs_sum n P c) h
noncomputable def cn (n : Nat) (c : Nat → Nat) : Nat := sm n (fun p => if 0 < c p then 1 else 0)
theorem lf_cn (c : Nat → Nat) (l : Nat) (n : Nat) : lf c l n = l - cn n c := by
  induction n with
  | zero => simp [lf, cn, sm_0]
  | succ n ih =>
    unfold cn at ih ⊢
    rw [sm_s]
    simp only [lf]
    rw [ih]
    split <;> omega
theorem bs_ge (n P : Nat) (c : Nat → Nat) (h : 0 < sm n c) : P ≤ sm n (bs n P c) + cn n c := by
  have h1 : sm n c * P ≤ sm n (fun p => (bs n P c p + (if 0 < c p then 1 else 0)) * sm n c) := by
    rw [← sm_mul]
    refine sm_mono (fun p _ => ?_)
    by_cases hc : 0 < c p
    · rw [if_pos hc]
      unfold bs
      have := Nat.lt_div_mul_add (a := c p * P) h
      rw [Nat.add_mul]
      omega
    · rw [show c p = 0 by omega]; simp
  rw [sm_mul, sm_add, Nat.mul_comm] at h1
  exact Nat.le_of_mul_le_mul_right h1 h
theorem lf_end (n P : Nat) (c : Nat → Nat) (h : P < sm n c) : lf c (lv n P c) n = 0 := by
  rw [lf_cn]
  have := bs_ge n P c (by omega)
  unfold lv
  omega
