/-! ask: the bodies -/
def sbody (κ : Nat) : Int32 := if κ = 1 then 11 else if κ = 2 then 12 else if κ = 3 then 11 else if κ = 4 then 13 else 14
def mbody (κ : Nat) : Int32 := if κ = 1 then 21 else if κ = 2 then 24 else if κ = 3 then 22 else 23
theorem body79 {H : Hp} {κ p : Nat} (h1 : 1 ≤ κ) (h5 : κ ≤ 5) (hp : p < 6) (h3 : H 58 3 = nI p) (hk : H 42 p = nI κ) : f_X1_bodyFor_79 H = some (sbody κ) := by
  obtain ⟨fq, hfq⟩ : ∃ q, fuel = q + 4 := ⟨4996, rfl⟩
  unfold f_X1_bodyFor_79
  rw [h3, ag_n hp (by omega), Option.bind_some, hk, hfq]
  rcases (show κ = 1 ∨ κ = 2 ∨ κ = 3 ∨ κ = 4 ∨ κ = 5 by omega) with rfl | rfl | rfl | rfl | rfl <;> rfl
theorem body80 {H : Hp} {κ p : Nat} (h1 : 1 ≤ κ) (h5 : κ ≤ 5) (hp : p < 6) (h3 : H 58 3 = nI p) (hk : H 42 p = nI κ) : f_X1_bodyFor_80 H = some (mbody κ) := by
  obtain ⟨fq, hfq⟩ : ∃ q, fuel = q + 4 := ⟨4996, rfl⟩
  unfold f_X1_bodyFor_80
  rw [h3, ag_n hp (by omega), Option.bind_some, hk, hfq]
  rcases (show κ = 1 ∨ κ = 2 ∨ κ = 3 ∨ κ = 4 ∨ κ = 5 by omega) with rfl | rfl | rfl | rfl | rfl <;> rfl
/-- what the asks read of the board -/
def AB (B : Hp) (p κ : Nat) (c h : Int32) : Prop := p < 6 ∧ 1 ≤ κ ∧ κ ≤ 5 ∧ B 58 3 = nI p ∧ B 42 p = nI κ ∧ B 43 p = c ∧ B 45 p = h
theorem CS_o {H B : Hp} {l : List Int32} (h : CS H B l) (c k : Nat) (h1 : c ≠ 59 := by decide) (h2 : c ≠ 58 ∨ k ≠ 2 := by decide) : H c k = B c k := h.2.2 c k h1 h2
theorem s10 {H B : Hp} {l : List Int32} {p κ : Nat} {c h : Int32} (hB : AB B p κ c h) (hC : CS H B l) (hl : l.length < 16) (m : Nat) (x2 : Int32) (hx : x2 ≤ 12) : ∃ H2, f_X1_rec (m + 1) 2 10 x2 H = some (c, H2) ∧ CS H2 B (l ++ [10]) := by
  obtain ⟨b1, b2, b3, b4, b5, b6, b7⟩ := hB
  obtain ⟨H1, e1, e2⟩ := lv7 hC hl 10
  refine ⟨H1, ?_, e2⟩
  simp only [f_X1_rec]
  rw [if_pos hx, e1, Option.bind_some, if_neg (by decide), if_neg (by decide), if_neg (by decide), if_neg (by decide), CS_o e2 58 3, b4, ag_n b1 (by omega), e2.2.2 43 p (by omega) (by omega), b6]; rfl
theorem m20 {H B : Hp} {l : List Int32} {p κ : Nat} {c h : Int32} (hB : AB B p κ c h) (hC : CS H B l) (hl : l.length < 16) (m : Nat) (x2 : Int32) (hx : x2 ≤ 12) : ∃ H2, f_X1_rec (m + 1) 3 20 x2 H = some (nI p, H2) ∧ CS H2 B (l ++ [20]) := by
  obtain ⟨b1, b2, b3, b4, b5, b6, b7⟩ := hB
  obtain ⟨H1, e1, e2⟩ := lv7 hC hl 20
  refine ⟨H1, ?_, e2⟩
  simp only [f_X1_rec]
  rw [if_pos hx, e1, Option.bind_some, if_neg (by decide), if_neg (by decide), if_neg (by decide), if_neg (by decide), CS_o e2 58 3, b4]
theorem m21 {H B : Hp} {l : List Int32} {p κ : Nat} {c h : Int32} (hB : AB B p κ c h) (hC : CS H B l) (hl : l.length < 15) (m : Nat) (x2 : Int32) (hx : x2 ≤ 12) (hx' : x2 + 1 ≤ 12) : ∃ H2, f_X1_rec (m + 2) 3 21 x2 H = some (nI p + h, H2) ∧ CS H2 B (l ++ [21] ++ [20]) := by
  obtain ⟨H1, e1, e2⟩ := lv7 hC (by omega) 21
  obtain ⟨H2, d1, d2⟩ := m20 hB e2 (by simp; omega) m (x2 + 1) hx'
  obtain ⟨b1, b2, b3, b4, b5, b6, b7⟩ := hB
  refine ⟨H2, ?_, d2⟩
  rw [f_X1_rec]
  rw [if_pos hx, e1, Option.bind_some, if_pos rfl, d1, Option.bind_some]
  dsimp only
  rw [CS_o d2 58 3, b4, ag_n b1 (by omega), d2.2.2 45 p (by omega) (by omega), b7]; rfl
theorem s13 {H B : Hp} {l : List Int32} {p κ : Nat} {c h : Int32} (hB : AB B p κ c h) (hC : CS H B l) (hl : l.length < 15) (m : Nat) (x2 : Int32) (hx : x2 ≤ 12) (hx' : x2 + 1 ≤ 12) : ∃ H2, f_X1_rec (m + 2) 2 13 x2 H = some (c - 100, H2) ∧ CS H2 B (l ++ [13] ++ [10]) := by
  obtain ⟨H1, e1, e2⟩ := lv7 hC (by omega) 13
  obtain ⟨H2, d1, d2⟩ := s10 hB e2 (by simp; omega) m (x2 + 1) hx'
  refine ⟨H2, ?_, d2⟩
  rw [f_X1_rec]
  rw [if_pos hx, e1, Option.bind_some, if_neg (by decide), if_neg (by decide), if_pos rfl, d1, Option.bind_some]
theorem s14 {H B : Hp} {l : List Int32} {p κ : Nat} {c h : Int32} (hB : AB B p κ c h) (hC : CS H B l) (hl : l.length < 14) (m : Nat) (x2 : Int32) (hx : x2 ≤ 12) (hx' : x2 + 1 ≤ 12) (hx2 : x2 + 1 + 1 ≤ 12) : ∃ H2, f_X1_rec (m + 3) 2 14 x2 H = some (2 * (c - 100), H2) ∧ CS H2 B (l ++ [14] ++ [13] ++ [10]) := by
  obtain ⟨H1, e1, e2⟩ := lv7 hC (by omega) 14
  obtain ⟨H2, d1, d2⟩ := s13 hB e2 (by simp; omega) m (x2 + 1) hx' hx2
  refine ⟨H2, ?_, d2⟩
  rw [f_X1_rec]
  rw [if_pos hx, e1, Option.bind_some, if_neg (by decide), if_neg (by decide), if_neg (by decide), if_pos rfl, d1, Option.bind_some]
def vm (κ : Nat) (p : Nat) (c h : Int32) : Int32 := if κ = 1 then nI p + h else if κ = 2 then 2 * (nI p + h) else if κ = 3 then nI p + h - 1000 else if κ = 4 then nI p - (c - 100) else nI p - 2 * (c - 100)
def lm (κ : Nat) : List Int32 := if κ = 1 then [21, 20] else if κ = 2 then [24, 21, 20] else if κ = 3 then [22, 21, 20] else if κ = 4 then [23, 20, 13, 10] else [23, 20, 14, 13, 10]
def vs (κ : Nat) (p : Nat) (c h : Int32) : Int32 := if κ = 1 then c + (nI p + h) else if κ = 2 then -(c + 2 * (nI p + h)) else if κ = 3 then c + (nI p + h - 1000) else if κ = 4 then c - 100 else 2 * (c - 100)
def ls (κ : Nat) : List Int32 := if κ = 1 then [11, 10, 21, 20] else if κ = 2 then [12, 11, 10, 24, 21, 20] else if κ = 3 then [11, 10, 22, 21, 20] else if κ = 4 then [13, 10] else [14, 13, 10]
/-- the size of the flat kinds -/
theorem flat7 {H B : Hp} {l : List Int32} {p κ : Nat} {c h : Int32} (hB : AB B p κ c h) (hκ : 4 ≤ κ) (hC : CS H B l) (hl : l.length < 12) (m : Nat) (x : Int32) (h1 : x + 1 ≤ 12) (h2 : x + 1 + 1 ≤ 12) (h3 : x + 1 + 1 + 1 ≤ 12) : ∃ H2, f_X1_rec (m + 4) 0 x 0 H = some (if κ = 4 then c - 100 else 2 * (c - 100), H2) ∧ CS H2 B (l ++ if κ = 4 then [13, 10] else [14, 13, 10]) := by
  obtain ⟨b1, b2, b3, b4, b5, b6, b7⟩ := id hB
  have hb := body79 (H := H) b2 b3 b1 (by rw [CS_o hC 58 3]; exact b4) (by rw [hC.2.2 42 p (by omega) (by omega)]; exact b5)
  rcases (show κ = 4 ∨ κ = 5 by omega) with rfl | rfl
  · obtain ⟨H2, d1, d2⟩ := s13 hB hC (by omega) (m + 1) (x + 1) h1 h2
    refine ⟨H2, ?_, by simpa using d2⟩
    rw [f_X1_rec, hb, Option.bind_some, show sbody 4 = 13 from rfl, d1]; rfl
  · obtain ⟨H2, d1, d2⟩ := s14 hB hC (by omega) m (x + 1) h1 h2 h3
    refine ⟨H2, ?_, by simpa using d2⟩
    rw [f_X1_rec, hb, Option.bind_some, show sbody 5 = 14 from rfl, d1]; rfl
theorem mark7 {H B : Hp} {l : List Int32} {p κ : Nat} {c h : Int32} (hB : AB B p κ c h) (hC : CS H B l) (hl : l.length < 10) (m : Nat) (x : Int32) (h1 : x + 1 ≤ 12) (h2 : x + 1 + 1 ≤ 12) (h3 : x + 1 + 1 + 1 ≤ 12) (h4 : x + 1 + 1 + 1 + 1 ≤ 12) (h5 : x + 1 + 1 + 1 + 1 + 1 ≤ 12) : ∃ H2, f_X1_rec (m + 6) 1 x 0 H = some (vm κ p c h, H2) ∧ CS H2 B (l ++ lm κ) := by
  obtain ⟨b1, b2, b3, b4, b5, b6, b7⟩ := id hB
  have hb := body80 (H := H) b2 b3 b1 (by rw [CS_o hC 58 3]; exact b4) (by rw [hC.2.2 42 p (by omega) (by omega)]; exact b5)
  rw [f_X1_rec, hb, Option.bind_some]
  rcases (show κ = 1 ∨ κ = 2 ∨ κ = 3 ∨ 4 ≤ κ by omega) with rfl | rfl | rfl | hκ
  · obtain ⟨H2, d1, d2⟩ := m21 hB hC (by omega) (m + 3) (x + 1) h1 h2
    exact ⟨H2, by rw [show mbody 1 = 21 from rfl, d1]; rfl, by simpa [lm] using d2⟩
  · obtain ⟨H1, e1, e2⟩ := lv7 hC (by omega) 24
    obtain ⟨H2, d1, d2⟩ := m21 hB e2 (by simp; omega) (m + 2) (x + 1 + 1) h2 h3
    refine ⟨H2, ?_, by simpa [lm] using d2⟩
    rw [show mbody 2 = 24 from rfl, f_X1_rec, if_pos h1, e1, Option.bind_some, if_neg (by decide), if_neg (by decide), if_neg (by decide), if_pos rfl, d1]; rfl
  · obtain ⟨H1, e1, e2⟩ := lv7 hC (by omega) 22
    obtain ⟨H2, d1, d2⟩ := m21 hB e2 (by simp; omega) (m + 2) (x + 1 + 1) h2 h3
    refine ⟨H2, ?_, by simpa [lm] using d2⟩
    rw [show mbody 3 = 22 from rfl, f_X1_rec, if_pos h1, e1, Option.bind_some, if_neg (by decide), if_pos rfl, d1]; rfl
  · obtain ⟨H1, e1, e2⟩ := lv7 hC (by omega) 23
    obtain ⟨H2, d1, d2⟩ := m20 hB e2 (by simp; omega) (m + 3) (x + 1 + 1) h2
    obtain ⟨H3, g1, g2⟩ := flat7 hB hκ d2 (by simp; omega) m (x + 1 + 1) h3 h4 h5
    refine ⟨H3, ?_, ?_⟩
    · rw [show mbody κ = 23 by unfold mbody; rw [if_neg (by omega), if_neg (by omega), if_neg (by omega)], f_X1_rec, if_pos h1, e1, Option.bind_some, if_neg (by decide), if_neg (by decide), if_pos rfl, d1, Option.bind_some, g1]
      unfold vm
      rcases (show κ = 4 ∨ κ = 5 by omega) with rfl | rfl <;> rfl
    · rcases (show κ = 4 ∨ κ = 5 by omega) with rfl | rfl
      · simpa [lm] using g2
      · simpa [lm] using g2
theorem size7 {H B : Hp} {p κ : Nat} {c h : Int32} (hB : AB B p κ c h) (hC : CS H B []) : ∃ H2, f_X1_rec 20 0 0 0 H = some (vs κ p c h, H2) ∧ CS H2 B (ls κ) := by
  obtain ⟨b1, b2, b3, b4, b5, b6, b7⟩ := id hB
  have hb := body79 (H := H) b2 b3 b1 (by rw [CS_o hC 58 3]; exact b4) (by rw [hC.2.2 42 p (by omega) (by omega)]; exact b5)
  rcases (show 4 ≤ κ ∨ κ = 1 ∨ κ = 2 ∨ κ = 3 by omega) with hκ | hκ
  · obtain ⟨H3, g1, g2⟩ := flat7 hB hκ hC (by simp) 16 0 (by decide) (by decide) (by decide)
    refine ⟨H3, ?_, ?_⟩
    · rw [g1]
      rcases (show κ = 4 ∨ κ = 5 by omega) with rfl | rfl <;> rfl
    · rcases (show κ = 4 ∨ κ = 5 by omega) with rfl | rfl <;> exact g2
  · rw [f_X1_rec, hb, Option.bind_some]
    rcases hκ with rfl | rfl | rfl
    · obtain ⟨H1, e1, e2⟩ := lv7 hC (by simp) 11
      obtain ⟨H2, d1, d2⟩ := s10 hB e2 (by simp) 17 (0 + 1 + 1) (by decide)
      obtain ⟨H3, g1, g2⟩ := mark7 hB d2 (by simp) 12 (0 + 1 + 1) (by decide) (by decide) (by decide) (by decide) (by decide)
      refine ⟨H3, ?_, by simpa [lm, ls] using g2⟩
      rw [show sbody 1 = 11 from rfl, f_X1_rec, if_pos (by decide), e1, Option.bind_some, if_pos rfl, d1, Option.bind_some, g1]; rfl
    · obtain ⟨H0, z1, z2⟩ := lv7 hC (by simp) 12
      obtain ⟨H1, e1, e2⟩ := lv7 z2 (by simp) 11
      obtain ⟨H2, d1, d2⟩ := s10 hB e2 (by simp) 16 (0 + 1 + 1 + 1) (by decide)
      obtain ⟨H3, g1, g2⟩ := mark7 hB d2 (by simp) 11 (0 + 1 + 1 + 1) (by decide) (by decide) (by decide) (by decide) (by decide)
      refine ⟨H3, ?_, by simpa [lm, ls] using g2⟩
      rw [show sbody 2 = 12 from rfl, f_X1_rec, if_pos (by decide), z1, Option.bind_some, if_neg (by decide), if_pos rfl, f_X1_rec, if_pos (by decide), e1, Option.bind_some, if_pos rfl, d1, Option.bind_some, g1]; rfl
    · obtain ⟨H1, e1, e2⟩ := lv7 hC (by simp) 11
      obtain ⟨H2, d1, d2⟩ := s10 hB e2 (by simp) 17 (0 + 1 + 1) (by decide)
      obtain ⟨H3, g1, g2⟩ := mark7 hB d2 (by simp) 12 (0 + 1 + 1) (by decide) (by decide) (by decide) (by decide) (by decide)
      refine ⟨H3, ?_, by simpa [lm, ls] using g2⟩
      rw [show sbody 3 = 11 from rfl, f_X1_rec, if_pos (by decide), e1, Option.bind_some, if_pos rfl, d1, Option.bind_some, g1]; rfl
/-! the model's -/
def MB (B : Hp) (p κ : Nat) (t : Nat → Nat → Nat) : Prop := p < 6 ∧ 1 ≤ κ ∧ κ ≤ 5 ∧ B 64 (4 + p) = nI κ ∧ ML B t ∧ ∃ n, Bt n t
theorem MS_ML {H B : Hp} {l : List Int32} {t : Nat → Nat → Nat} (h : MS H B l) (hM : ML B t) : ML H t := ⟨fun x p hx hp => by rw [h.2.2 69 _ (by omega) (by omega), h.2.2 70 _ (by omega) (by omega)]; exact hM.1 x p hx hp, fun a b ha hb => by rw [h.2.2 71 _ (by omega) (by omega)]; exact hM.2 a b ha hb⟩
theorem plain8 {H B : Hp} {l : List Int32} {p κ : Nat} {t : Nat → Nat → Nat} (hB : MB B p κ t) (hC : MS H B l) (hl : l.length < 16) : ∃ H2, f_X8_plainSize (nI p) H = some (nI (CO t p), H2) ∧ MS H2 B (l ++ [10]) := by
  obtain ⟨b1, b2, b3, b4, b5, n, b6⟩ := hB
  obtain ⟨H1, e1, e2⟩ := bg8 hC hl 10
  exact ⟨H1, by unfold f_X8_plainSize; rw [e1, Option.bind_some, sums8 (MS_ML e2 b5) b1]; rfl, e2⟩
theorem flat8 {H B : Hp} {l : List Int32} {p κ : Nat} {t : Nat → Nat → Nat} (hB : MB B p κ t) (hκ : 4 ≤ κ) (hC : MS H B l) (hl : l.length < 12) : ∃ H2, f_X8_flatSize (nI p) H = some (if κ = 4 then nI (CO t p) - 100 else 2 * (nI (CO t p) - 100), H2) ∧ MS H2 B (l ++ if κ = 4 then [13, 10] else [14, 13, 10]) := by
  obtain ⟨b1, b2, b3, b4, b5, n, b6⟩ := id hB
  unfold f_X8_flatSize
  rw [z4, ag_n (by omega) (by omega), Option.bind_some, hC.2.2 64 _ (by omega) (by omega), b4]
  rcases (show κ = 4 ∨ κ = 5 by omega) with rfl | rfl
  · obtain ⟨H1, e1, e2⟩ := bg8 hC (by omega) 13
    obtain ⟨H2, d1, d2⟩ := plain8 hB e2 (by simp; omega)
    refine ⟨H2, ?_, by simpa using d2⟩
    rw [if_pos (by decide), Option.bind_some, e1, Option.bind_some, d1]; rfl
  · obtain ⟨H0, z1, z2⟩ := bg8 hC (by omega) 14
    obtain ⟨H1, e1, e2⟩ := bg8 z2 (by simp; omega) 13
    obtain ⟨H2, d1, d2⟩ := plain8 hB e2 (by simp; omega)
    refine ⟨H2, ?_, by simpa using d2⟩
    rw [if_neg (by decide), z1, Option.bind_some, Option.bind_some, e1, Option.bind_some, d1]; rfl
theorem mark8 {H B : Hp} {l : List Int32} {p κ : Nat} {t : Nat → Nat → Nat} (hB : MB B p κ t) (hC : MS H B l) (hl : l.length < 10) : ∃ H2, f_X8_markOf (nI p) H = some (vm κ p (nI (CO t p)) (nI (HD t p)), H2) ∧ MS H2 B (l ++ lm κ) := by
  obtain ⟨b1, b2, b3, b4, b5, n, b6⟩ := id hB
  have hd : sm 10 (fun g => if decide (0 < t g p) = true then 1 else 0) = HD t p := by
    unfold HD
    exact sm_congr (fun g _ => by simp)
  have tail : ∀ {H : Hp} {l : List Int32}, MS H B l → l.length < 14 → ∃ H2, ((f_X8_began 21 H).bind fun H4 => (f_X8_began 20 H4).bind fun H5 => (f_X8_giversOf (nI p) H5).bind fun v6 => (f_X8_bits v6).bind fun v7 => some ((if nI κ = 1 then (nI p + v7) else (if nI κ = 3 then ((nI p + v7) - 1000) else (2 * (nI p + v7)))), H5)) = some ((if nI κ = 1 then (nI p + nI (HD t p)) else (if nI κ = 3 then ((nI p + nI (HD t p)) - 1000) else (2 * (nI p + nI (HD t p))))), H2) ∧ MS H2 B (l ++ [21] ++ [20]) := by
    intro H l hC hl
    obtain ⟨H1, e1, e2⟩ := bg8 hC (by omega) 21
    obtain ⟨H2, d1, d2⟩ := bg8 e2 (by simp; omega) 20
    refine ⟨H2, ?_, d2⟩
    rw [e1, Option.bind_some, d1, Option.bind_some, givers8 b6 (MS_ML d2 b5) b1, Option.bind_some, bits8, Option.bind_some, hd]
  unfold f_X8_markOf
  rw [z4, ag_n (by omega) (by omega), Option.bind_some, hC.2.2 64 _ (by omega) (by omega), b4]
  rcases (show κ = 1 ∨ κ = 2 ∨ κ = 3 ∨ 4 ≤ κ by omega) with rfl | rfl | rfl | hκ
  · obtain ⟨H2, d1, d2⟩ := tail hC (by omega)
    exact ⟨H2, by rw [if_pos (by decide), if_pos (show nI 1 = 1 from rfl), Option.bind_some, d1]; rfl, by simpa [lm] using d2⟩
  · obtain ⟨H0, z1, z2⟩ := bg8 hC (by omega) 24
    obtain ⟨H2, d1, d2⟩ := tail z2 (by simp; omega)
    exact ⟨H2, by rw [if_pos (by decide), if_neg (by decide), show (if nI 2 = 3 then (22 : Int32) else 24) = 24 from rfl, z1, Option.bind_some, Option.bind_some, d1]; rfl, by simpa [lm] using d2⟩
  · obtain ⟨H0, z1, z2⟩ := bg8 hC (by omega) 22
    obtain ⟨H2, d1, d2⟩ := tail z2 (by simp; omega)
    exact ⟨H2, by rw [if_pos (by decide), if_neg (by decide), show (if nI 3 = 3 then (22 : Int32) else 24) = 22 from rfl, z1, Option.bind_some, Option.bind_some, d1]; rfl, by simpa [lm] using d2⟩
  · obtain ⟨H1, e1, e2⟩ := bg8 hC (by omega) 23
    obtain ⟨H2, d1, d2⟩ := bg8 e2 (by simp; omega) 20
    obtain ⟨H3, g1, g2⟩ := flat8 hB hκ d2 (by simp; omega)
    rcases (show κ = 4 ∨ κ = 5 by omega) with rfl | rfl
    · exact ⟨H3, by rw [if_neg (by decide), e1, Option.bind_some, d1, Option.bind_some, g1]; rfl, by simpa [lm] using g2⟩
    · exact ⟨H3, by rw [if_neg (by decide), e1, Option.bind_some, d1, Option.bind_some, g1]; rfl, by simpa [lm] using g2⟩
theorem size8 {H B : Hp} {p κ : Nat} {t : Nat → Nat → Nat} (hB : MB B p κ t) (hC : MS H B []) : ∃ H2, f_X8_sizeOf (nI p) H = some (vs κ p (nI (CO t p)) (nI (HD t p)), H2) ∧ MS H2 B (ls κ) := by
  obtain ⟨b1, b2, b3, b4, b5, n, b6⟩ := id hB
  unfold f_X8_sizeOf
  rw [z4, ag_n (by omega) (by omega), Option.bind_some, hC.2.2 64 _ (by omega) (by omega), b4]
  rcases (show 4 ≤ κ ∨ κ = 1 ∨ κ = 2 ∨ κ = 3 by omega) with hκ | hκ
  · obtain ⟨H3, g1, g2⟩ := flat8 hB hκ hC (by simp)
    rcases (show κ = 4 ∨ κ = 5 by omega) with rfl | rfl
    · exact ⟨H3, by rw [if_neg (by decide), g1]; rfl, g2⟩
    · exact ⟨H3, by rw [if_neg (by decide), g1]; rfl, g2⟩
  · rcases hκ with rfl | rfl | rfl
    · obtain ⟨H1, e1, e2⟩ := bg8 hC (by simp) 11
      obtain ⟨H2, d1, d2⟩ := plain8 hB e2 (by simp)
      obtain ⟨H3, g1, g2⟩ := mark8 hB d2 (by simp)
      exact ⟨H3, by rw [if_pos (by decide), if_neg (by decide), Option.bind_some, e1, Option.bind_some, d1, Option.bind_some, g1]; rfl, by simpa [lm, ls] using g2⟩
    · obtain ⟨H0, z1, z2⟩ := bg8 hC (by simp) 12
      obtain ⟨H1, e1, e2⟩ := bg8 z2 (by simp) 11
      obtain ⟨H2, d1, d2⟩ := plain8 hB e2 (by simp)
      obtain ⟨H3, g1, g2⟩ := mark8 hB d2 (by simp)
      exact ⟨H3, by rw [if_pos (by decide), if_pos (show nI 2 = 2 from rfl), z1, Option.bind_some, Option.bind_some, e1, Option.bind_some, d1, Option.bind_some, g1]; rfl, by simpa [lm, ls] using g2⟩
    · obtain ⟨H1, e1, e2⟩ := bg8 hC (by simp) 11
      obtain ⟨H2, d1, d2⟩ := plain8 hB e2 (by simp)
      obtain ⟨H3, g1, g2⟩ := mark8 hB d2 (by simp)
      exact ⟨H3, by rw [if_pos (by decide), if_neg (by decide), Option.bind_some, e1, Option.bind_some, d1, Option.bind_some, g1]; rfl, by simpa [lm, ls] using g2⟩
theorem l16 (κ : Nat) : (ls κ).length ≤ 16 ∧ (lm κ).length ≤ 16 := by
  unfold ls lm
  refine ⟨?_, ?_⟩ <;> repeat' split
  all_goals decide
theorem q_ask {H : Hp} {R : Nat → Nat} (h : FU H R) (hT : Jtrace H) (x1 x2 : Int32) : ∃ (r : Int32) (H1 H2 : Hp), f_X7_ask x1 x2 H = some (r, H1) ∧ f_X8_ask x1 x2 H1 = some (r, H2) ∧ Jtrace H2 := by
  have hr := h.1.1
  have m8 : ∀ H1, Hr H1 64 R → f_X8_ask x1 x2 H1 = (if x1 < 0 ∨ nI (R 0) ≤ x1 then some (-1000001, hset H1 60 0 0) else if x2 < 0 ∨ 1 < x2 then some (-1000001, hset H1 60 0 0) else (f_X8_lookAt 64 (hset (hset H1 60 0 0) 60 29 0)).bind fun H5 => Option.bind (if x2 = 0 then (f_X8_sizeOf x1 H5).bind fun q6 => some (q6.1, q6.2) else (f_X8_markOf x1 H5).bind fun q7 => some (q7.1, q7.2)) fun j8 => some (j8.1, j8.2)) := by
    intro H1 h1
    simp only [f_X8_ask, pf_e, Option.bind_some, in_0_1, within_eq]
    rw [isP8 (by rw [hset_c (by omega)]; exact h1 0 (by omega)) (by omega)]
    simp only [Option.bind_some, bz]
  simp only [f_X7_ask, within_eq, isP7 h.2.2.2.2.2.1, Option.bind_some, bz]
  by_cases g0 : x1 < 0 ∨ nI (R 0) ≤ x1
  · simp only [if_pos g0]
    exact ⟨_, _, hset H 60 0 0, rfl, by rw [m8 H h.2.1, if_pos g0], hT⟩
  by_cases g1 : x2 < 0 ∨ 1 < x2
  · simp only [if_neg g0, if_pos g1]
    exact ⟨_, _, hset H 60 0 0, rfl, by rw [m8 H h.2.1, if_neg g0, if_pos g1], hT⟩
  simp only [if_neg g0, if_neg g1]
  obtain ⟨p, hp, rfl⟩ := gpI (by omega) g0
  obtain ⟨w, -, hw, rfl⟩ := i_rng x2 0 1 (by omega) (by omega) g1
  obtain ⟨q1, q2⟩ := h.1.2.2.2.2.2.1 p hp
  obtain ⟨Ha, a1, a2, a3⟩ := load7 h.1 (by omega) h.2.2
  obtain ⟨o1, o2, o3, o4, o5⟩ := a2.2.2 p hp
  rw [mk0] at o2 o4
  have hAB : AB (hset (hset Ha 58 2 0) 58 3 (nI p)) p (R (4 + p)) (nI (CO (tb R) p)) (nI (HD (tb R) p)) := ⟨by omega, q1, q2, hset_self, by rw [hset_c (by omega), hset_c (by omega), o1]; rfl, by rw [hset_c (by omega), hset_c (by omega), o2], by rw [hset_c (by omega), hset_c (by omega), o4]⟩
  have hCS : CS (hset (hset Ha 58 2 0) 58 3 (nI p)) (hset (hset Ha 58 2 0) 58 3 (nI p)) [] := ⟨by rw [hset_k (by omega), hset_self]; rfl, fun i hi => absurd hi (by simp), fun _ _ _ _ => rfl⟩
  have fin : ∀ (Hc : Hp) (v : Int32) (l : List Int32), l.length ≤ 16 → CS Hc (hset (hset Ha 58 2 0) 58 3 (nI p)) l → (∀ H5, MS H5 H5 [] → MB H5 p (R (4 + p)) (tb R) → ∃ Hd, (if nI w = 0 then (f_X8_sizeOf (nI p) H5).bind fun q6 => some (q6.1, q6.2) else (f_X8_markOf (nI p) H5).bind fun q7 => some (q7.1, q7.2)) = some (v, Hd) ∧ MS Hd H5 l) → ∃ H2, f_X8_ask (nI p) (nI w) Hc = some (v, H2) ∧ Jtrace H2 := by
    intro Hc v l hl hc hm
    have hFc : Hr Hc 64 R := h.2.1.fr (fun k _ => by rw [hc.2.2 64 k (by omega) (by omega), hset_c (by omega), hset_c (by omega), fr_X2_load a1 64 k (by omega)])
    obtain ⟨Hb, b1, b2, b3⟩ := look8 (r := 64) (by omega) h.1 (H := hset (hset Hc 60 0 0) 60 29 0) (hFc.fr (fun k _ => by rw [hset_c (by omega), hset_c (by omega)]))
    obtain ⟨Hd, d1, d2⟩ := hm Hb ⟨by rw [b2 60 29 (by omega) (by omega) (by omega), hset_self]; rfl, fun i hi => absurd hi (by simp), fun _ _ _ _ => rfl⟩ ⟨by omega, q1, q2, by rw [b2 64 _ (by omega) (by omega) (by omega), hset_c (by omega), hset_c (by omega), hFc _ (by omega)], b3, _, tb_B h.1⟩
    refine ⟨Hd, ?_, l.length, hl, ?_, d2.1, fun i hi => ?_⟩
    · rw [m8 Hc hFc, if_neg g0, if_neg g1, b1, Option.bind_some, d1, Option.bind_some]
    · rw [d2.2.2 58 2 (by omega) (by omega), b2 _ _ (by omega) (by omega) (by omega), hset_c (by omega), hset_c (by omega), hc.1]
    · rw [d2.2.2 59 i (by omega) (by omega), b2 _ _ (by omega) (by omega) (by omega), hset_c (by omega), hset_c (by omega), hc.2.1 i hi, d2.2.1 i hi]
  rw [a1, Option.bind_some]
  simp only [f_X1_answer, pf_e, Option.bind_some]
  rcases (show w = 0 ∨ w = 1 by omega) with rfl | rfl
  · obtain ⟨Hc, c1, c2⟩ := size7 hAB hCS
    obtain ⟨H2, e1, e2⟩ := fin Hc _ _ (l16 _).1 c2 (fun H5 m5 b5 => by
      obtain ⟨Hd, d1, d2⟩ := size8 b5 m5
      exact ⟨Hd, by rw [if_pos (show nI 0 = 0 from rfl), d1]; rfl, d2⟩)
    rw [if_pos (show nI 0 = 0 from rfl), c1, Option.bind_some, Option.bind_some]
    exact ⟨_, _, _, rfl, e1, e2⟩
  · obtain ⟨Hc, c1, c2⟩ := mark7 hAB hCS (by simp) 14 0 (by decide) (by decide) (by decide) (by decide) (by decide)
    obtain ⟨H2, e1, e2⟩ := fin Hc _ _ (l16 _).2 c2 (fun H5 m5 b5 => by
      obtain ⟨Hd, d1, d2⟩ := mark8 b5 m5 (by simp)
      exact ⟨Hd, by rw [if_neg (show ¬ nI 1 = 0 by decide), d1]; rfl, d2⟩)
    rw [if_neg (show ¬ nI 1 = 0 by decide), show f_X1_rec 20 1 0 0 (hset (hset Ha 58 2 0) 58 3 (nI p)) = some (vm (R (4 + p)) p (nI (CO (tb R) p)) (nI (HD (tb R) p)), Hc) from c1, Option.bind_some, Option.bind_some]
    exact ⟨_, _, _, rfl, e1, e2⟩
