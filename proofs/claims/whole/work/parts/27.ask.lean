/-! ask: the bodies -/
def sbody (κ : Nat) : Int32 := if κ = 1 then 11 else if κ = 2 then 12 else if κ = 3 then 11 else if κ = 4 then 13 else 14
def mbody (κ : Nat) : Int32 := if κ = 1 then 21 else if κ = 2 then 24 else if κ = 3 then 22 else 23
theorem body79 {H : Hp} {κ p : Nat} (h1 : 1 ≤ κ) (h5 : κ ≤ 5) (hp : p < 6) (h3 : H 58 3 = nI p) (hk : H 42 p = nI κ) : f_X1_bodyFor_79 H = some (sbody κ) := by
  obtain ⟨fq, hfq⟩ : ∃ q, fuel = q + 4 := ⟨4996, rfl⟩
  unfold f_X1_bodyFor_79
  rw [h3, ag_n hp (by omega), Option.bind_some, hk, hfq]
  rcases (show κ = 1 ∨ κ = 2 ∨ κ = 3 ∨ κ = 4 ∨ κ = 5 by omega) with rfl | rfl | rfl | rfl | rfl <;> rfl
theorem body80 {H : Hp} {κ p : Nat} (h1 : 1 ≤ κ) (h5 : κ ≤ 5) (hp : p < 6) (h3 : H 58 3 = nI p) (hk : H 42 p = nI κ) : f_X1_bodyFor_80 H = some (mbody κ) := by
  obtain ⟨fq, hfq⟩ : ∃ q, fuel = q + 4 := ⟨4996, rfl⟩
  unfold f_X1_bodyFor_80
  rw [h3, ag_n hp (by omega), Option.bind_some, hk, hfq]
  rcases (show κ = 1 ∨ κ = 2 ∨ κ = 3 ∨ κ = 4 ∨ κ = 5 by omega) with rfl | rfl | rfl | rfl | rfl <;> rfl
/-- what the asks read of the board -/
def AB (B : Hp) (p κ : Nat) (c h : Int32) : Prop := p < 6 ∧ 1 ≤ κ ∧ κ ≤ 5 ∧ B 58 3 = nI p ∧ B 42 p = nI κ ∧ B 43 p = c ∧ B 45 p = h
theorem CS_o {H B : Hp} {l : List Int32} (h : CS H B l) (c k : Nat) (h1 : c ≠ 59 := by decide) (h2 : c ≠ 58 ∨ k ≠ 2 := by decide) : H c k = B c k := h.2.2 c k h1 h2
theorem s10 {H B : Hp} {l : List Int32} {p κ : Nat} {c h : Int32} (hB : AB B p κ c h) (hC : CS H B l) (hl : l.length < 16) (m : Nat) (x2 : Int32) (hx : x2 ≤ 12) : ∃ H2, f_X1_rec (m + 1) 2 10 x2 H = some (c, H2) ∧ CS H2 B (l ++ [10]) := by
  obtain ⟨b1, b2, b3, b4, b5, b6, b7⟩ := hB
  obtain ⟨H1, e1, e2⟩ := lv7 hC hl 10
  refine ⟨H1, ?_, e2⟩
  simp only [f_X1_rec]
  rw [if_pos hx, e1, Option.bind_some, if_neg (by decide), if_neg (by decide), if_neg (by decide), if_neg (by decide), CS_o e2 58 3, b4, ag_n b1 (by omega), e2.2.2 43 p (by omega) (by omega), b6]; rfl
theorem m20 {H B : Hp} {l : List Int32} {p κ : Nat} {c h : Int32} (hB : AB B p κ c h) (hC : CS H B l) (hl : l.length < 16) (m : Nat) (x2 : Int32) (hx : x2 ≤ 12) : ∃ H2, f_X1_rec (m + 1) 3 20 x2 H = some (nI p, H2) ∧ CS H2 B (l ++ [20]) := by
  obtain ⟨b1, b2, b3, b4, b5, b6, b7⟩ := hB
  obtain ⟨H1, e1, e2⟩ := lv7 hC hl 20
  refine ⟨H1, ?_, e2⟩
  simp only [f_X1_rec]
  rw [if_pos hx, e1, Option.bind_some, if_neg (by decide), if_neg (by decide), if_neg (by decide), if_neg (by decide), CS_o e2 58 3, b4]
theorem m21 {H B : Hp} {l : List Int32} {p κ : Nat} {c h : Int32} (hB : AB B p κ c h) (hC : CS H B l) (hl : l.length < 15) (m : Nat) (x2 : Int32) (hx : x2 ≤ 12) (hx' : x2 + 1 ≤ 12) : ∃ H2, f_X1_rec (m + 2) 3 21 x2 H = some (nI p + h, H2) ∧ CS H2 B (l ++ [21] ++ [20]) := by
  obtain ⟨H1, e1, e2⟩ := lv7 hC (by omega) 21
  obtain ⟨H2, d1, d2⟩ := m20 hB e2 (by simp; omega) m (x2 + 1) hx'
  obtain ⟨b1, b2, b3, b4, b5, b6, b7⟩ := hB
  refine ⟨H2, ?_, d2⟩
  rw [f_X1_rec]
  rw [if_pos hx, e1, Option.bind_some, if_pos rfl, d1, Option.bind_some, CS_o d2 58 3, b4, ag_n b1 (by omega), d2.2.2 45 p (by omega) (by omega), b7]; rfl
theorem s13 {H B : Hp} {l : List Int32} {p κ : Nat} {c h : Int32} (hB : AB B p κ c h) (hC : CS H B l) (hl : l.length < 15) (m : Nat) (x2 : Int32) (hx : x2 ≤ 12) (hx' : x2 + 1 ≤ 12) : ∃ H2, f_X1_rec (m + 2) 2 13 x2 H = some (c - 100, H2) ∧ CS H2 B (l ++ [13] ++ [10]) := by
  obtain ⟨H1, e1, e2⟩ := lv7 hC (by omega) 13
  obtain ⟨H2, d1, d2⟩ := s10 hB e2 (by simp; omega) m (x2 + 1) hx'
  refine ⟨H2, ?_, d2⟩
  rw [f_X1_rec]
  rw [if_pos hx, e1, Option.bind_some, if_neg (by decide), if_neg (by decide), if_pos rfl, d1, Option.bind_some]
theorem s14 {H B : Hp} {l : List Int32} {p κ : Nat} {c h : Int32} (hB : AB B p κ c h) (hC : CS H B l) (hl : l.length < 14) (m : Nat) (x2 : Int32) (hx : x2 ≤ 12) (hx' : x2 + 1 ≤ 12) (hx2 : x2 + 1 + 1 ≤ 12) : ∃ H2, f_X1_rec (m + 3) 2 14 x2 H = some (2 * (c - 100), H2) ∧ CS H2 B (l ++ [14] ++ [13] ++ [10]) := by
  obtain ⟨H1, e1, e2⟩ := lv7 hC (by omega) 14
  obtain ⟨H2, d1, d2⟩ := s13 hB e2 (by simp; omega) m (x2 + 1) hx' hx2
  refine ⟨H2, ?_, d2⟩
  rw [f_X1_rec]
  rw [if_pos hx, e1, Option.bind_some, if_neg (by decide), if_neg (by decide), if_neg (by decide), if_pos rfl, d1, Option.bind_some]
def vm (κ : Nat) (p : Nat) (c h : Int32) : Int32 := if κ = 1 then nI p + h else if κ = 2 then 2 * (nI p + h) else if κ = 3 then nI p + h - 1000 else if κ = 4 then nI p - (c - 100) else nI p - 2 * (c - 100)
def lm (κ : Nat) : List Int32 := if κ = 1 then [21, 20] else if κ = 2 then [24, 21, 20] else if κ = 3 then [22, 21, 20] else if κ = 4 then [23, 20, 13, 10] else [23, 20, 14, 13, 10]
def vs (κ : Nat) (p : Nat) (c h : Int32) : Int32 := if κ = 1 then c + (nI p + h) else if κ = 2 then -(c + 2 * (nI p + h)) else if κ = 3 then c + (nI p + h - 1000) else if κ = 4 then c - 100 else 2 * (c - 100)
def ls (κ : Nat) : List Int32 := if κ = 1 then [11, 10, 21, 20] else if κ = 2 then [12, 11, 10, 24, 21, 20] else if κ = 3 then [11, 10, 22, 21, 20] else if κ = 4 then [13, 10] else [14, 13, 10]
/-- the size of the flat kinds -/
theorem flat7 {H B : Hp} {l : List Int32} {p κ : Nat} {c h : Int32} (hB : AB B p κ c h) (hκ : 4 ≤ κ) (hC : CS H B l) (hl : l.length < 12) (m : Nat) (x : Int32) (h1 : x + 1 ≤ 12) (h2 : x + 1 + 1 ≤ 12) (h3 : x + 1 + 1 + 1 ≤ 12) : ∃ H2, f_X1_rec (m + 4) 0 x 0 H = some (if κ = 4 then c - 100 else 2 * (c - 100), H2) ∧ CS H2 B (l ++ if κ = 4 then [13, 10] else [14, 13, 10]) := by
  obtain ⟨b1, b2, b3, b4, b5, b6, b7⟩ := id hB
  have hb := body79 b2 b3 b1 (by rw [CS_o hC 58 3]; exact b4) (by rw [hC.2.2 42 p (by omega) (by omega)]; exact b5)
  rcases (show κ = 4 ∨ κ = 5 by omega) with rfl | rfl
  · obtain ⟨H2, d1, d2⟩ := s13 hB hC (by omega) (m + 1) (x + 1) h1 h2
    refine ⟨H2, ?_, by simpa using d2⟩
    rw [f_X1_rec, hb, Option.bind_some, show sbody 4 = 13 from rfl, d1]; rfl
  · obtain ⟨H2, d1, d2⟩ := s14 hB hC (by omega) m (x + 1) h1 h2 h3
    refine ⟨H2, ?_, by simpa using d2⟩
    rw [f_X1_rec, hb, Option.bind_some, show sbody 5 = 14 from rfl, d1]; rfl
theorem mark7 {H B : Hp} {l : List Int32} {p κ : Nat} {c h : Int32} (hB : AB B p κ c h) (hC : CS H B l) (hl : l.length < 10) (m : Nat) (x : Int32) (h1 : x + 1 ≤ 12) (h2 : x + 1 + 1 ≤ 12) (h3 : x + 1 + 1 + 1 ≤ 12) (h4 : x + 1 + 1 + 1 + 1 ≤ 12) (h5 : x + 1 + 1 + 1 + 1 + 1 ≤ 12) : ∃ H2, f_X1_rec (m + 6) 1 x 0 H = some (vm κ p c h, H2) ∧ CS H2 B (l ++ lm κ) := by
  obtain ⟨b1, b2, b3, b4, b5, b6, b7⟩ := id hB
  have hb := body80 b2 b3 b1 (by rw [CS_o hC 58 3]; exact b4) (by rw [hC.2.2 42 p (by omega) (by omega)]; exact b5)
  rw [f_X1_rec, hb, Option.bind_some]
  rcases (show κ = 1 ∨ κ = 2 ∨ κ = 3 ∨ 4 ≤ κ by omega) with rfl | rfl | rfl | hκ
  · obtain ⟨H2, d1, d2⟩ := m21 hB hC (by omega) (m + 3) (x + 1) h1 h2
    exact ⟨H2, by rw [show mbody 1 = 21 from rfl, d1]; rfl, by simpa [lm] using d2⟩
  · obtain ⟨H1, e1, e2⟩ := lv7 hC (by omega) 24
    obtain ⟨H2, d1, d2⟩ := m21 hB e2 (by simp; omega) (m + 2) (x + 1 + 1) h2 h3
    refine ⟨H2, ?_, by simpa [lm] using d2⟩
    rw [show mbody 2 = 24 from rfl, f_X1_rec, if_pos h1, e1, Option.bind_some, if_neg (by decide), if_neg (by decide), if_neg (by decide), if_pos rfl, d1]; rfl
  · obtain ⟨H1, e1, e2⟩ := lv7 hC (by omega) 22
    obtain ⟨H2, d1, d2⟩ := m21 hB e2 (by simp; omega) (m + 2) (x + 1 + 1) h2 h3
    refine ⟨H2, ?_, by simpa [lm] using d2⟩
    rw [show mbody 3 = 22 from rfl, f_X1_rec, if_pos h1, e1, Option.bind_some, if_neg (by decide), if_pos rfl, d1]; rfl
  · obtain ⟨H1, e1, e2⟩ := lv7 hC (by omega) 23
    obtain ⟨H2, d1, d2⟩ := m20 hB e2 (by simp; omega) (m + 3) (x + 1 + 1) h2
    obtain ⟨H3, g1, g2⟩ := flat7 hB hκ d2 (by simp; omega) m (x + 1 + 1) h3 h4 h5
    refine ⟨H3, ?_, ?_⟩
    · rw [show mbody κ = 23 by unfold mbody; rw [if_neg (by omega), if_neg (by omega), if_neg (by omega)], f_X1_rec, if_pos h1, e1, Option.bind_some, if_neg (by decide), if_neg (by decide), if_pos rfl, d1, Option.bind_some, g1]
      unfold vm
      rcases (show κ = 4 ∨ κ = 5 by omega) with rfl | rfl <;> rfl
    · rcases (show κ = 4 ∨ κ = 5 by omega) with rfl | rfl
      · simpa [lm] using g2
      · simpa [lm] using g2
theorem size7 {H B : Hp} {p κ : Nat} {c h : Int32} (hB : AB B p κ c h) (hC : CS H B []) : ∃ H2, f_X1_rec 20 0 0 0 H = some (vs κ p c h, H2) ∧ CS H2 B (ls κ) := by
  obtain ⟨b1, b2, b3, b4, b5, b6, b7⟩ := id hB
  have hb := body79 b2 b3 b1 (by rw [CS_o hC 58 3]; exact b4) (by rw [hC.2.2 42 p (by omega) (by omega)]; exact b5)
  rcases (show 4 ≤ κ ∨ κ = 1 ∨ κ = 2 ∨ κ = 3 by omega) with hκ | hκ
  · obtain ⟨H3, g1, g2⟩ := flat7 hB hκ hC (by simp) 16 0 (by decide) (by decide) (by decide)
    refine ⟨H3, ?_, ?_⟩
    · rw [g1]
      rcases (show κ = 4 ∨ κ = 5 by omega) with rfl | rfl <;> rfl
    · rcases (show κ = 4 ∨ κ = 5 by omega) with rfl | rfl <;> exact g2
  · rw [f_X1_rec, hb, Option.bind_some]
    rcases hκ with rfl | rfl | rfl
    · obtain ⟨H1, e1, e2⟩ := lv7 hC (by simp) 11
      obtain ⟨H2, d1, d2⟩ := s10 hB e2 (by simp) 17 (0 + 1 + 1) (by decide)
      obtain ⟨H3, g1, g2⟩ := mark7 hB d2 (by simp) 12 (0 + 1 + 1) (by decide) (by decide) (by decide) (by decide) (by decide)
      refine ⟨H3, ?_, by simpa [lm, ls] using g2⟩
      rw [show sbody 1 = 11 from rfl, f_X1_rec, if_pos (by decide), e1, Option.bind_some, if_pos rfl, d1, Option.bind_some, g1]; rfl
    · obtain ⟨H0, z1, z2⟩ := lv7 hC (by simp) 12
      obtain ⟨H1, e1, e2⟩ := lv7 z2 (by simp) 11
      obtain ⟨H2, d1, d2⟩ := s10 hB e2 (by simp) 16 (0 + 1 + 1 + 1) (by decide)
      obtain ⟨H3, g1, g2⟩ := mark7 hB d2 (by simp) 11 (0 + 1 + 1 + 1) (by decide) (by decide) (by decide) (by decide) (by decide)
      refine ⟨H3, ?_, by simpa [lm, ls] using g2⟩
      rw [show sbody 2 = 12 from rfl, f_X1_rec, if_pos (by decide), z1, Option.bind_some, if_neg (by decide), if_pos rfl, f_X1_rec, if_pos (by decide), e1, Option.bind_some, if_pos rfl, d1, Option.bind_some, g1]; rfl
    · obtain ⟨H1, e1, e2⟩ := lv7 hC (by simp) 11
      obtain ⟨H2, d1, d2⟩ := s10 hB e2 (by simp) 17 (0 + 1 + 1) (by decide)
      obtain ⟨H3, g1, g2⟩ := mark7 hB d2 (by simp) 12 (0 + 1 + 1) (by decide) (by decide) (by decide) (by decide) (by decide)
      refine ⟨H3, ?_, by simpa [lm, ls] using g2⟩
      rw [show sbody 3 = 11 from rfl, f_X1_rec, if_pos (by decide), e1, Option.bind_some, if_pos rfl, d1, Option.bind_some, g1]; rfl
