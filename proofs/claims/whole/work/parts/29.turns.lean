/-! byTurns -/
noncomputable def leaf (R T : Nat → Nat) : Int32 := nI (PD (R 0) (R 1) (CR T) 0) - nI (PD (R 0) (R 1) (CR T) (R 0 - 1))
def mx3 (i f s : Int32) : Int32 := if i < (if f < s then s else f) then (if f < s then s else f) else i
def mn3 (i f s : Int32) : Int32 := if (if s < f then s else f) < i then (if s < f then s else f) else i
noncomputable def GV (R : Nat → Nat) (v : Nat) : Nat → Nat → Nat → Bool → (Nat → Nat) → Int32
  | 0, _, _, _, T => leaf R T
  | l + 1, a, b, w, T => if w then mx3 (GV R v l b a (!w) T) (GV R v l b a (!w) (Pt T a 0 v)) (GV R v l b a (!w) (Pt T a (R 0 - 1) v)) else mn3 (GV R v l b a (!w) T) (GV R v l b a (!w) (Pt T a 0 v)) (GV R v l b a (!w) (Pt T a (R 0 - 1) v))
/-- a row that came of R by gifts -/
def Fr (R T : Nat → Nat) : Prop := Rw T ∧ ∀ i, i ≠ 3 → i < 10 ∨ 70 ≤ i → T i = R i
theorem Fr_Pt {R T : Nat → Nat} (h : Fr R T) {a p v : Nat} (h3 : T 3 < 20) (ha : a < 10) (hp : p < R 0) (h1 : 1 ≤ v) (h2 : v ≤ 99) : Fr R (Pt T a p v) := by
  refine ⟨Rw_Pt h.1 h3 ha (by rw [h.2 0 (by omega) (by omega)]; exact hp) h1 h2, fun i h4 h5 => ?_⟩
  rw [Pt_o h4 (by omega), h.2 i h4 h5]
theorem Fr_ok {R T : Nat → Nat} (hR : Rw R) (h0 : 0 < R 0) (h : Fr R T) : Ok (R 0) (R 2) (tb T) ∧ ∀ q, q < R 0 → CB (κR R) (R 2) (tb T) L0 q = CR T q := by
  have b := tb_B h.1
  rw [h.2 0 (by omega) (by omega)] at b
  have hr := hR.1
  exact ⟨⟨hR.1, b, hR.2.2.2.1 h0, hR.2.2.1⟩, fun q hq => (CR_like (h.2 2 (by omega) (by omega)) (fun j hj => h.2 _ (by omega) (by omega)) (by rw [mk0]) (by omega)).symm⟩
theorem tb_PtT {T : Nat → Nat} (h : Rw T) {a p v : Nat} (h3 : T 3 < 20) (ha : a < 10) (hv : 1 ≤ v) : tb (Pt T a p v) = ts (tb T) (T (70 + a)) p (tb T (T (70 + a)) p + v) := by
  have := tb_TG (p := p) (v := v) h (Or.inr h3) ha
  rw [show TG T a p v = Pt T a p v by unfold TG; rw [if_neg (by omega)]] at this
  exact this
theorem turns7 {R : Nat → Nat} (hR : Rw R) (h0 : 0 < R 0) {v : Nat} (hv1 : 1 ≤ v) (hv : v ≤ 20) : ∀ (l m a b : Nat) (w : Bool) (T : Nat → Nat) (H : Hp), l < m → l ≤ 4 → a < 10 → b < 10 → Fr R T → T 3 + l ≤ 20 → H 7 3 = nI (R 0) → BO H (R 0) (R 1) (R 2) (κR R) (tb T) L0 → ∃ H2, f_X3_turnsFrom m (nI (R (70 + a))) (nI (R (70 + b))) (nI l) (nI v) (if w then 1 else 0) H = some (GV R v l a b w T, H2) ∧ BO H2 (R 0) (R 1) (R 2) (κR R) (tb T) L0 ∧ ∀ c k, c < 38 ∨ 48 < c → H2 c k = H c k := by
  intro l
  induction l with
  | zero =>
    intro m a b w T H hm _ _ _ hF _ h73 hO
    obtain ⟨m, rfl⟩ : ∃ j, m = j + 1 := ⟨m - 1, by omega⟩
    obtain ⟨ok, cr⟩ := Fr_ok hR h0 hF
    have hr := hR.1
    obtain ⟨H1, s1, s2, s3, s4, s5⟩ := settle7 ok hR.2.1 hO
    refine ⟨H1, ?_, s2, fun c k hc => fr_X2_settle s1 c k (by omega)⟩
    simp only [f_X3_turnsFrom]
    rw [if_pos (show nI 0 ≤ 0 by decide), s1, Option.bind_some, show ag H1 48 6 0 = ag H1 48 6 (nI 0) from rfl, ag_n (by omega) (by omega), Option.bind_some, h73, show nI (R 0) - 1 = nI (R 0 - 1) from pk_sub (b := 1) (by omega), ag_n (by omega) (by omega), Option.bind_some, (s3 0 h0).2, (s3 (R 0 - 1) (by omega)).2, PD_congr cr h0, PD_congr cr (show R 0 - 1 < R 0 by omega)]
    rfl
  | succ l ih =>
    intro m a b w T H hm hl ha hb hF h3 h73 hO
    obtain ⟨m, rfl⟩ : ∃ j, m = j + 1 := ⟨m - 1, by omega⟩
    obtain ⟨ok, cr⟩ := Fr_ok hR h0 hF
    have hr := hR.1
    have hnm := hR.2.2.2.2.2.2.2 a ha
    have enm : T (70 + a) = R (70 + a) := hF.2 _ (by omega) (by omega)
    have hw : (if (if w then (1 : Int32) else 0) = 0 then (1 : Int32) else 0) = (if (!w) then 1 else 0) := by cases w <;> rfl
    have t0 := Fr_Pt hF (a := a) (p := 0) (v := v) (by omega) ha h0 hv1 (by omega)
    have t1 := Fr_Pt hF (a := a) (p := R 0 - 1) (v := v) (by omega) ha (by omega) hv1 (by omega)
    have e0 := tb_PtT (p := 0) (v := v) hF.1 (show T 3 < 20 by omega) ha hv1
    have e1 := tb_PtT (p := R 0 - 1) (v := v) hF.1 (show T 3 < 20 by omega) ha hv1
    rw [enm] at e0 e1
    have u0 : tb T (R (70 + a)) 0 + v ≤ 1980 := by have := (tb_B t0.1 (R (70 + a)) 0).1; rw [e0, ts_at] at this; exact this
    have u1 : tb T (R (70 + a)) (R 0 - 1) + v ≤ 1980 := by have := (tb_B t1.1 (R (70 + a)) (R 0 - 1)).1; rw [e1, ts_at] at this; exact this
    obtain ⟨H4, a1, a2, a3⟩ := ih m b a (!w) T H (by omega) (by omega) hb ha hF (by omega) h73 hO
    obtain ⟨H5, b1, b2⟩ := add7 ok a2 hnm h0 rfl (nI v) (nI_add _ _) u0
    rw [← e0] at b2
    have f5 : ∀ c k, c < 38 ∨ 48 < c → H5 c k = H c k := fun c k hc => by rw [fr_X2_add b1 c k (by omega), a3 c k hc]
    obtain ⟨H6, c1, c2, c3⟩ := ih m b a (!w) (Pt T a 0 v) H5 (by omega) (by omega) hb ha t0 (by rw [Pt_3]; omega) (by rw [f5 7 3 (by omega), h73]) b2
    have ok0 := (Fr_ok hR h0 t0).1
    obtain ⟨H7, d1, d2⟩ := add7 (v := tb T (R (70 + a)) 0) ok0 c2 hnm h0 rfl (-nI v) (by rw [e0, ts_at, ← Int32.sub_eq_add_neg, pk_sub (by omega), Nat.add_sub_cancel]) (by omega)
    rw [e0, ts_ts, ts_self] at d2
    obtain ⟨H8, g1, g2⟩ := add7 ok d2 hnm (show R 0 - 1 < R 0 by omega) rfl (nI v) (nI_add _ _) u1
    rw [← e1] at g2
    have f8 : ∀ c k, c < 38 ∨ 48 < c → H8 c k = H c k := fun c k hc => by rw [fr_X2_add g1 c k (by omega), fr_X2_add d1 c k (by omega), c3 c k hc, f5 c k hc]
    obtain ⟨H9, i1, i2, i3⟩ := ih m b a (!w) (Pt T a (R 0 - 1) v) H8 (by omega) (by omega) hb ha t1 (by rw [Pt_3]; omega) (by rw [f8 7 3 (by omega), h73]) g2
    have ok1 := (Fr_ok hR h0 t1).1
    obtain ⟨H10, j1, j2⟩ := add7 (v := tb T (R (70 + a)) (R 0 - 1)) ok1 i2 hnm (show R 0 - 1 < R 0 by omega) rfl (-nI v) (by rw [e1, ts_at, ← Int32.sub_eq_add_neg, pk_sub (by omega), Nat.add_sub_cancel]) (by omega)
    rw [e1, ts_ts, ts_self] at j2
    refine ⟨H10, ?_, j2, fun c k hc => by rw [fr_X2_add j1 c k (by omega), i3 c k hc, f8 c k hc]⟩
    simp only [f_X3_turnsFrom]
    rw [if_neg (nI_nle (by omega) (by omega)), if_pos (show nI (l + 1) ≤ 4 from nI_le (b := 4) (by omega) (by omega)), hw, show nI (l + 1) - 1 = nI l from nI_pred l, a1, Option.bind_some]
    rw [show (f_X2_add (nI (R (70 + a))) 0 (nI v) H4) = some H5 from b1, Option.bind_some, c1, Option.bind_some, show (f_X2_add (nI (R (70 + a))) 0 (-nI v) H6) = some H7 from d1, Option.bind_some, h73, show nI (R 0) - 1 = nI (R 0 - 1) from pk_sub (b := 1) (by omega), g1, Option.bind_some, i1, Option.bind_some, j1, Option.bind_some]
    simp only [GV]
    cases w
    · rw [if_pos (show (if false = true then (1 : Int32) else 0) = 0 from rfl)]; rfl
    · rw [if_neg (show ¬ (if true = true then (1 : Int32) else 0) = 0 by decide)]; rfl
/-- the fund after the first k of a row of steps -/
def Tk (R : Nat → Nat) (a b v : Nat) : Nat → Nat → Nat → Nat
  | 0, _ => R
  | k + 1, row => if row / 3 ^ k % 3 = 0 then Pt (Tk R a b v k row) (if k % 2 = 0 then a else b) 0 v else if row / 3 ^ k % 3 = 1 then Pt (Tk R a b v k row) (if k % 2 = 0 then a else b) (R 0 - 1) v else Tk R a b v k row
theorem Tk_f {R : Nat → Nat} (hR : Rw R) (h0 : 0 < R 0) (h3 : R 3 ≤ 16) {a b v : Nat} (ha : a < 10) (hb : b < 10) (hv1 : 1 ≤ v) (hv : v ≤ 20) (row : Nat) : ∀ k, k ≤ 4 → Fr R (Tk R a b v k row) ∧ Tk R a b v k row 3 ≤ R 3 + k := by
  intro k
  induction k with
  | zero => exact fun _ => ⟨⟨hR, fun _ _ _ => rfl⟩, by simp [Tk]⟩
  | succ k ih =>
    intro hk
    obtain ⟨i1, i2⟩ := ih (by omega)
    have hp : (if k % 2 = 0 then a else b) < 10 := by split <;> assumption
    simp only [Tk]
    split
    · exact ⟨Fr_Pt i1 (by omega) hp h0 hv1 (by omega), by rw [Pt_3]; omega⟩
    · split
      · exact ⟨Fr_Pt i1 (by omega) hp (by omega) hv1 (by omega), by rw [Pt_3]; omega⟩
      · exact ⟨i1, by omega⟩
theorem Tk_d (R : Nat → Nat) (a b v : Nat) {r1 r2 : Nat} : ∀ k, (∀ i, i < k → r1 / 3 ^ i % 3 = r2 / 3 ^ i % 3) → Tk R a b v k r1 = Tk R a b v k r2 := by
  intro k
  induction k with
  | zero => intro _; rfl
  | succ k ih =>
    intro h
    simp only [Tk]
    rw [h k (by omega), ih (fun i hi => h i (by omega))]
theorem dig_lo (row st k i : Nat) (h : i < k) : (row + 3 ^ k * st) / 3 ^ i % 3 = row / 3 ^ i % 3 := by
  have e : 3 ^ k * st = 3 ^ i * (3 * (3 ^ (k - i - 1) * st)) := by
    rw [← Nat.mul_assoc, ← Nat.mul_assoc, ← Nat.pow_succ, ← Nat.pow_add]
    congr 2
    omega
  rw [e, Nat.add_mul_div_left _ _ (Nat.pow_pos (by omega)), Nat.add_mul_mod_self_left]
theorem dig_hi {row st k : Nat} (h : row < 3 ^ k) (hs : st < 3) : (row + 3 ^ k * st) / 3 ^ k % 3 = st := by
  rw [Nat.add_mul_div_left _ _ (Nat.pow_pos (by omega)), Nat.div_eq_of_lt h, Nat.zero_add, Nat.mod_eq_of_lt hs]
