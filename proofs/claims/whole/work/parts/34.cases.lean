/-! likely: sums over sets -/
def wq (gv : Bool) (p b : Nat) : Nat := if gv then (if b = 1 then p else 10 - p) else (if b = 1 then 0 else 1)
def WG (gs : Nat → Bool) (p : Nat) : Nat → Nat → Nat → Nat
  | _, 0, _ => 1
  | g, d + 1, u => wq (gs g) p (u % 2) * WG gs p (g + 1) d (u / 2)
noncomputable def AS (gs : Nat → Bool) (p : Nat) (ind : Nat → Nat) (g d s : Nat) : Nat := sm (2 ^ d) (fun u => WG gs p g d u * ind (s + 2 ^ g * u))
theorem sm_par (m : Nat) (f : Nat → Nat) : sm (2 * m) f = sm m (fun u => f (2 * u) + f (2 * u + 1)) := by
  induction m with
  | zero => rw [Nat.mul_zero, sm_0, sm_0]
  | succ m ih => rw [show 2 * (m + 1) = 2 * m + 1 + 1 by omega, sm_s, sm_s, sm_s, ih]; omega
theorem AS_0 (gs : Nat → Bool) (p : Nat) (ind : Nat → Nat) (g s : Nat) : AS gs p ind g 0 s = ind s := by
  unfold AS
  rw [Nat.pow_zero, sm_s, sm_0]
  simp [WG]
theorem AS_s (gs : Nat → Bool) (p : Nat) (ind : Nat → Nat) (g d s : Nat) : AS gs p ind g (d + 1) s = wq (gs g) p 0 * AS gs p ind (g + 1) d s + wq (gs g) p 1 * AS gs p ind (g + 1) d (s + 2 ^ g) := by
  unfold AS
  rw [Nat.pow_succ, Nat.mul_comm, sm_par, sm_add]
  congr 1
  · rw [Nat.mul_comm, ← sm_mul]
    refine sm_congr (fun u _ => ?_)
    simp only [WG]
    rw [show 2 * u % 2 = 0 by omega, show 2 * u / 2 = u by omega, Nat.pow_succ, show 2 ^ g * (2 * u) = 2 ^ g * 2 * u by rw [Nat.mul_assoc], Nat.mul_assoc, Nat.mul_comm]
  · rw [Nat.mul_comm, ← sm_mul]
    refine sm_congr (fun u _ => ?_)
    simp only [WG]
    rw [show (2 * u + 1) % 2 = 1 by omega, show (2 * u + 1) / 2 = u by omega, Nat.pow_succ, show s + 2 ^ g * (2 * u + 1) = s + 2 ^ g + 2 ^ g * 2 * u by rw [Nat.mul_add, Nat.mul_one, Nat.mul_assoc]; omega, Nat.mul_assoc, Nat.mul_comm]
/-- all cases together -/
def BW (gs : Nat → Bool) : Nat → Nat → Nat
  | _, 0 => 1
  | g, d + 1 => (if gs g then 10 else 1) * BW gs (g + 1) d
theorem AS_one (gs : Nat → Bool) {p : Nat} (hp : p ≤ 10) : ∀ (d g s : Nat), AS gs p (fun _ => 1) g d s = BW gs g d := by
  intro d
  induction d with
  | zero => intro g s; rw [AS_0]; rfl
  | succ d ih =>
    intro g s
    rw [AS_s, ih, ih, ← Nat.add_mul]
    simp only [BW]
    congr 1
    unfold wq
    cases gs g
    · simp
    · simp; omega
theorem BW_le (gs : Nat → Bool) : ∀ (d g : Nat), 1 ≤ BW gs g d ∧ BW gs g d ≤ 10 ^ d := by
  intro d
  induction d with
  | zero => intro g; exact ⟨Nat.le_refl _, Nat.le_refl _⟩
  | succ d ih =>
    intro g
    obtain ⟨i1, i2⟩ := ih (g + 1)
    simp only [BW]
    rw [Nat.pow_succ]
    split <;> omega
theorem AS_le (gs : Nat → Bool) {p : Nat} (hp : p ≤ 10) (ind : Nat → Nat) (hi : ∀ s, ind s ≤ 1) (g d s : Nat) : AS gs p ind g d s ≤ BW gs g d := by
  rw [← AS_one gs hp d g s]
  exact sm_mono (fun u _ => Nat.mul_le_mul_left _ (hi _))
