/-! likely -/
theorem sub_le {gs : Nat → Bool} {S : Nat} (hS : S < 2 ^ 10) (h : Sub gs S) : S ≤ bsum 10 gs := by
  have e : S &&& bsum 10 gs = S := by
    apply Nat.eq_of_testBit_eq
    intro i
    rw [Nat.testBit_and, tb_bsum]
    by_cases hi : i < 10
    · by_cases hb : S / 2 ^ i % 2 = 1
      · simp [hi, h i hi hb]
      · rw [Nat.testBit_eq_decide_div_mod_eq]; simp [hb]
    · rw [Nat.testBit_lt_two_pow (Nat.lt_of_lt_of_le hS (Nat.pow_le_pow_right (by omega) (by omega)))]
      rfl
  rw [← e]
  exact Nat.and_le_right
theorem WG_nosub {gs : Nat → Bool} {p S : Nat} (h : ¬ Sub gs S) : WG gs p 0 10 S = 0 := by
  unfold Sub at h
  obtain ⟨i, hi⟩ := Classical.not_forall.mp h
  obtain ⟨h1, h2⟩ := Classical.not_imp.mp hi
  obtain ⟨h3, h4⟩ := Classical.not_imp.mp h2
  exact WG_no gs p 10 0 S i h1 h3 (by rw [Nat.zero_add]; simpa using h4)
theorem like8 {H : Hp} {R : Nat → Nat} (hR : Rw R) (hH : Hr H 64 R) {q v p : Nat} (hq : q < R 0) (hv : v ≤ 9999) (hp : p ≤ 10) : ∃ Hz, f_X8_likely_l71 (nI q) (nI v) (nI p) (nI (bsum 10 (gs R))) fuel 0 0 0 H = some (lN (AS (gs R) p (ind R q v) 0 10 0), lN (BW (gs R) 0 10), Hz) := by
  have hA := bsum_lt 10 (gs R)
  have hn := hR.1
  obtain ⟨⟨y1, y2, Hz⟩, e1, e2, e3⟩ := up0 (fun m k (z : Int64 × Int64 × Hp) => f_X8_likely_l71 (nI q) (nI v) (nI p) (nI (bsum 10 (gs R))) m z.1 z.2.1 (nI k) z.2.2) (bsum 10 (gs R) + 1) (by omega) (fun k z => z.1 = lN (sm k (fun S => WG (gs R) p 0 10 S * ind R q v S)) ∧ z.2.1 = lN (sm k (fun S => WG (gs R) p 0 10 S)) ∧ Hr z.2.2 64 R) (fun z => z.1 = lN (sm (bsum 10 (gs R) + 1) (fun S => WG (gs R) p 0 10 S * ind R q v S)) ∧ z.2.1 = lN (sm (bsum 10 (gs R) + 1) (fun S => WG (gs R) p 0 10 S))) (0, 0, H)
    ⟨by rw [sm_0]; rfl, by rw [sm_0]; rfl, hH⟩
    (fun m z hz => ⟨z, by simp only [f_X8_likely_l71]; rw [if_pos (nI_lt (by omega) (by omega))], hz.1, hz.2.1⟩)
    (fun m S z hS hz => by
      obtain ⟨z1, z2, z3⟩ := hz
      simp only [f_X8_likely_l71]
      rw [if_neg (nI_nlt (by omega) (by omega)), nI_1]
      have es := sub8 (gs R) (show S < 2 ^ 10 by omega)
      by_cases g : Sub (gs R) S
      · obtain ⟨H15, b1, b2⟩ := without8 hR (by omega) z3 (show S < 2 ^ 31 by omega)
        obtain ⟨w0, w1, w2⟩ := wo_PD hR (L := fun a => decide (S / 2 ^ a % 2 = 1)) (L2 := Ls S) (fun a _ => rfl)
        have b4 := (b2.2.2.1 q (by rw [w0]; exact hq)).2
        rw [w0, w1, PD_congr w2 hq] at b4
        have pl := PD_le (c := CB (κR R) (R 2) (tb R) (Ls S)) q hq hR.2.1
        have ew : WF (gs R) p 0 10 S = WG (gs R) p 0 10 S := (WG_sub (gs R) p 10 0 S (fun i hi hb => by rw [Nat.zero_add]; exact g i hi hb)).symm
        rw [if_pos (by rw [es]; exact g), ways8 (gs R) hp (by omega), Option.bind_some, b1, Option.bind_some, ag_n (by omega) (by omega), Option.bind_some, Option.bind_some, b4, ew, z1, z2]
        simp only [nI_lt' (show PD (R 0) (R 1) (CB (κR R) (R 2) (tb R) (Ls S)) q < 2 ^ 31 by omega) (show v < 2 ^ 31 by omega)]
        refine Or.inr ⟨(lN (sm (S + 1) (fun S => WG (gs R) p 0 10 S * ind R q v S)), lN (sm (S + 1) (fun S => WG (gs R) p 0 10 S)), H15), ?_, rfl, rfl, z3.fr (fun j _ => b2.1 64 j (by omega) (by omega))⟩
        rw [sm_s S, sm_s S, lN_add]
        unfold ind
        by_cases g1 : PD (R 0) (R 1) (CB (κR R) (R 2) (tb R) (Ls S)) q < v
        · rw [if_pos g1, if_neg (by omega), show (0 : Int64) = lN 0 from rfl, lN_add, Nat.mul_zero]
        · rw [if_neg g1, if_pos (by omega), lN_add, Nat.mul_one]
      · rw [if_neg (by rw [es]; exact g), Option.bind_some]
        refine Or.inr ⟨z, rfl, ?_, ?_, z3⟩
        · rw [sm_s S, WG_nosub g, Nat.zero_mul, z1]; rfl
        · rw [sm_s S, WG_nosub g, z2]; rfl)
  have x1 : sm (bsum 10 (gs R) + 1) (fun S => WG (gs R) p 0 10 S * ind R q v S) = AS (gs R) p (ind R q v) 0 10 0 := by
    unfold AS
    rw [← sm_ext (n := 2 ^ 10) (m := bsum 10 (gs R) + 1) (by omega) (fun S h1 h2 => by rw [WG_nosub (fun z => by have := sub_le h2 z; omega), Nat.zero_mul])]
    exact sm_congr (fun u _ => by rw [Nat.pow_zero, Nat.one_mul, Nat.zero_add])
  have x2 : sm (bsum 10 (gs R) + 1) (fun S => WG (gs R) p 0 10 S) = BW (gs R) 0 10 := by
    rw [← AS_one (gs R) hp 10 0 0]
    unfold AS
    rw [← sm_ext (n := 2 ^ 10) (m := bsum 10 (gs R) + 1) (by omega) (fun S h1 h2 => WG_nosub (fun z => by have := sub_le h2 z; omega))]
    exact sm_congr (fun u _ => by rw [Nat.mul_one])
  dsimp only at e2 e3
  exact ⟨Hz, by rw [← x1, ← x2, ← e2, ← e3]; exact e1⟩
theorem q_likely {H : Hp} {R : Nat → Nat} (h : FU H R) (x1 x2 x3 x4 : Int32) : ∃ (r : Int64) (H1 H2 : Hp), f_X7_likely x1 x2 x3 x4 H = some (r, H1) ∧ f_X8_likely x1 x2 x3 x4 H1 = some (r, H2) := by
  have hn := h.1.1
  have m8 : ∀ H1, FU H1 R → f_X8_likely x1 x2 x3 x4 H1 = (if x1 < 0 ∨ nI (R 0) ≤ x1 then some (-1000001, hset H1 60 0 0) else if x2 < 0 ∨ 9999 < x2 then some (-1000001, hset H1 60 0 0) else if x3 < 0 ∨ 10 < x3 then some (-1000001, hset H1 60 0 0) else if x4 < 0 ∨ 1 < x4 then some (-1000001, hset H1 60 0 0) else (f_X8_givers 64 (hset H1 60 0 0)).bind fun q6 => (f_X8_likely_l71 x1 x2 x3 q6.1 fuel 0 0 0 q6.2).bind fun l24 => (f_X8_likely_l195 fuel l24.1 l24.2.1).bind fun l27 => if l27 = 0 then none else some (((if x4 = 0 then l24.1 else l24.2.1) / l27), l24.2.2)) := by
    intro H1 h1
    simp only [f_X8_likely, pf_e, Option.bind_some, in_0_9999, in_0_10, in_0_1, within_eq]
    rw [isP8 (h1.t.2.1 0 (by omega)) (by omega)]
    simp only [Option.bind_some, bz]
  simp only [f_X7_likely, within_eq, isP7 h.2.2.2.2.2.1, Option.bind_some, bz]
  by_cases g1 : x1 < 0 ∨ nI (R 0) ≤ x1
  · simp only [if_pos g1]
    exact ⟨_, _, _, rfl, by rw [m8 H h, if_pos g1]⟩
  by_cases g2 : x2 < 0 ∨ 9999 < x2
  · simp only [if_neg g1, if_pos g2]
    exact ⟨_, _, _, rfl, by rw [m8 H h, if_neg g1, if_pos g2]⟩
  by_cases g3 : x3 < 0 ∨ 10 < x3
  · simp only [if_neg g1, if_neg g2, if_pos g3]
    exact ⟨_, _, _, rfl, by rw [m8 H h, if_neg g1, if_neg g2, if_pos g3]⟩
  by_cases g4 : x4 < 0 ∨ 1 < x4
  · simp only [if_neg g1, if_neg g2, if_neg g3, if_pos g4]
    exact ⟨_, _, _, rfl, by rw [m8 H h, if_neg g1, if_neg g2, if_neg g3, if_pos g4]⟩
  simp only [if_neg g1, if_neg g2, if_neg g3, if_neg g4]
  obtain ⟨q, hq, rfl⟩ := gpI (by omega) g1
  obtain ⟨v, -, hv, rfl⟩ := i_rng x2 0 9999 (by omega) (by omega) g2
  obtain ⟨p, -, hp, rfl⟩ := i_rng x3 0 10 (by omega) (by omega) g3
  obtain ⟨Ha, a1, a2, a3⟩ := load7 h.1 (by omega) h.2.2
  obtain ⟨Hb, b1, b2, b3⟩ := cases7 h.1 hq hv hp 10 0 12 0 Ha (by omega) (by omega) (by decide) (by rw [Ls_0]; exact a2)
  have hF : FU Hb R := h.fr (fun c k hc => by rw [b3 c k (by omega), fr_X2_load a1 c k (by omega)])
  have hc := chance7 h.1 (by omega) b2
  obtain ⟨B1, B2⟩ := BW_le (gs R) 10 0
  have A1 := AS_le (gs R) hp (ind R q v) (fun s => by unfold ind; split <;> omega) 0 10 0
  obtain ⟨u7, u8⟩ := eu7 34 fuel (AS (gs R) p (ind R q v) 0 10 0) (BW (gs R) 0 10) 0 (by omega) (by omega) (by omega) (by omega) (by unfold fuel; omega)
  have ep : 0 < eu (2 * 34 + 1) (AS (gs R) p (ind R q v) 0 10 0) (BW (gs R) 0 10) := eu_pos 68 (AS (gs R) p (ind R q v) 0 10 0) (BW (gs R) 0 10) (by omega)
  have el : eu (2 * 34 + 1) (AS (gs R) p (ind R q v) 0 10 0) (BW (gs R) 0 10) ≤ BW (gs R) 0 10 := eu_le 69 (AS (gs R) p (ind R q v) 0 10 0) (BW (gs R) 0 10) (BW (gs R) 0 10) A1 (Nat.le_refl _)
  obtain ⟨Hg, d1, d2⟩ := giversA8 h.1 hF.t.2.1
  obtain ⟨Hz, l1⟩ := like8 (q := q) (v := v) (p := p) h.1 (hF.t.2.1.fr (H2 := Hg) (fun j _ => d2 64 j (by omega) (by omega) (by omega))) hq hv hp
  have e0 : ¬ lN (eu (2 * 34 + 1) (AS (gs R) p (ind R q v) 0 10 0) (BW (gs R) 0 10)) = 0 := fun z => by
    have := (pk_lEQ (b := 0) (by omega) (by omega)).mp z
    omega
  have e1 : (0 : Int64) < lN (eu (2 * 34 + 1) (AS (gs R) p (ind R q v) 0 10 0) (BW (gs R) 0 10)) := (pk_lLT (a := 0) (by omega) (by omega)).mpr (by omega)
  unfold f_X3_chance f_X3_greatestCommon
  rw [a1, Option.bind_some, show f_X3_casesPaid 12 0 (nI q) (nI v) (nI p) Ha = some (lN (AS (gs R) p (ind R q v) 0 10 0), Hb) from b1, Option.bind_some]
  dsimp only
  rw [hc, Option.bind_some, show f_X3_greatestCommon_l9 fuel (lN (AS (gs R) p (ind R q v) 0 10 0)) (lN (BW (gs R) 0 10)) 0 = some (lN (eu (2 * 34 + 1) (AS (gs R) p (ind R q v) 0 10 0) (BW (gs R) 0 10))) from u7, Option.bind_some, Option.bind_some, if_pos e1, if_neg e0, Option.bind_some]
  refine ⟨_, _, Hz, rfl, ?_⟩
  rw [m8 Hb hF, if_neg g1, if_neg g2, if_neg g3, if_neg g4, d1, Option.bind_some]
  dsimp only
  rw [show f_X8_likely_l71 (nI q) (nI v) (nI p) (nI (bsum 10 fun g => decide (0 < sm 6 (tb R g)))) fuel 0 0 0 Hg = some (lN (AS (gs R) p (ind R q v) 0 10 0), lN (BW (gs R) 0 10), Hz) from l1, Option.bind_some]
  dsimp only
  rw [u8, Option.bind_some, if_neg e0]
