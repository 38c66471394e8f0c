/-! fund: the model's gifts, and all of its reading -/
theorem ag0 (H : Hp) : ag H 65 80 0 = some (H 65 0) := by
  rw [show ag H 65 80 0 = ag H 65 80 (nI 0) from rfl, ag_n (by omega) (by omega)]
theorem ag3 (H : Hp) : ag H 65 80 3 = some (H 65 3) := by
  rw [show ag H 65 80 3 = ag H 65 80 (nI 3) from rfl, ag_n (by omega) (by omega)]
theorem ga8 {H0 H : Hp} {n q : Nat} {B R : Nat → Nat} (t : Tm H0 n B) (h : Ms H0 H n B q R) (g : q < n) (gb : B q = 103) (h0 : 0 < R 0) (h6 : R 0 ≤ 6) (h20 : R 3 < 20) : (∃ f p H2, tx_gift n B q R = .error (f, p) ∧ f_X8_readGift H = some H2 ∧ Mf H0 H2 f p) ∨ ∃ q2 R2 H2, tx_gift n B q R = .ok (q2, R2) ∧ f_X8_readGift H = some H2 ∧ Ms H0 H2 n B q2 R2 ∧ R2 0 = R 0 ∧ R2 3 = R 3 + 1 := by
  have s0 : tx_sgn n B 103 q = .ok (q + 1) := if_pos ⟨g, gb⟩
  have tk := (tk_lt (c := 103) (by omega) h.2.2.2.2.1).2 ⟨g, gb⟩
  have z20 : ¬ nI (R 3) = 20 := fun z => by
    have := (nI_eq (a := R 3) (b := 20) (by omega) (by omega)).mp z
    omega
  unfold f_X8_readGift tx_gift
  rw [ag3, Option.bind_some, h.2.2.2.2.2 3 (by omega), if_neg z20, Option.bind_some, s0]
  obtain ⟨H4, e4, h4⟩ := must1 t h tk g
  rw [e4, Option.bind_some]
  rcases nm8 0 9 t h4 (by omega) (by omega) with ⟨f, p, v, H5, s5, e5, z⟩ | ⟨u, b, H5, s5, e5, h5, u9⟩
  · refine Or.inl ⟨f, p, H5, by simp only [Except.bind, s5], ?_, z⟩
    rw [show f_X8_number 0 9 H4 = f_X8_number (nI 0) (nI 9) H4 from rfl, e5, Option.bind_some]
    simp only [sgF z, nmF z, ag0, Option.bind_some, if_neg z.ne]
  rw [show f_X8_number 0 9 H4 = f_X8_number (nI 0) (nI 9) H4 from rfl, e5, Option.bind_some]
  dsimp only
  rcases sg8 44 t h5 (Or.inl rfl) with ⟨f, p, H6, s6, e6, z⟩ | ⟨c, H6, s6, e6, h6'⟩
  · refine Or.inl ⟨f, p, H6, by simp only [Except.bind, s5, s6], ?_, z⟩
    rw [show (44 : Int32) = nI 44 from rfl, e6, Option.bind_some]
    simp only [sgF z, nmF z, ag0, Option.bind_some, if_neg z.ne]
  rw [show (44 : Int32) = nI 44 from rfl, e6, Option.bind_some, ag65 h6'.2.2.2.2.2, Option.bind_some, show nI (R 0) - 1 = nI (R 0 - 1) from pk_sub (b := 1) (by omega)]
  rcases nm8 0 (R 0 - 1) t h6' (by omega) (by omega) with ⟨f, p, v, H8, s8, e8, z⟩ | ⟨v, d, H8, s8, e8, h8, v9⟩
  · refine Or.inl ⟨f, p, H8, by simp only [Except.bind, s5, s6, s8], ?_, z⟩
    rw [show f_X8_number 0 (nI (R 0 - 1)) H6 = f_X8_number (nI 0) (nI (R 0 - 1)) H6 from rfl, e8, Option.bind_some]
    simp only [sgF z, nmF z, ag0, Option.bind_some, if_neg z.ne]
  rw [show f_X8_number 0 (nI (R 0 - 1)) H6 = f_X8_number (nI 0) (nI (R 0 - 1)) H6 from rfl, e8, Option.bind_some]
  dsimp only
  rcases sg8 44 t h8 (Or.inl rfl) with ⟨f, p, H9, s9, e9, z⟩ | ⟨c2, H9, s9, e9, h9⟩
  · refine Or.inl ⟨f, p, H9, by simp only [Except.bind, s5, s6, s8, s9], ?_, z⟩
    rw [e9, Option.bind_some]
    simp only [sgF z, nmF z, ag0, Option.bind_some, if_neg z.ne]
  rw [e9, Option.bind_some]
  rcases nm8 1 99 t h9 (by omega) (by omega) with ⟨f, p, v2, Ha, sa, ea, z⟩ | ⟨w, d2, Ha, sa, ea, ha, w9⟩
  · refine Or.inl ⟨f, p, Ha, by simp only [Except.bind, s5, s6, s8, s9, sa], ?_, z⟩
    rw [show f_X8_number 1 99 H9 = f_X8_number (nI 1) (nI 99) H9 from rfl, ea, Option.bind_some]
    simp only [sgF z, nmF z, ag0, Option.bind_some, if_neg z.ne]
  rw [show f_X8_number 1 99 H9 = f_X8_number (nI 1) (nI 99) H9 from rfl, ea, Option.bind_some]
  dsimp only
  rcases sg8 59 t ha (Or.inr rfl) with ⟨f, p, Hb, sb, eb, z⟩ | ⟨c3, Hb, sb, eb, hb⟩
  · refine Or.inl ⟨f, p, Hb, by simp only [Except.bind, s5, s6, s8, s9, sa, sb], ?_, z⟩
    rw [show (59 : Int32) = nI 59 from rfl, eb, Option.bind_some]
    simp only [sgF z, nmF z, ag0, Option.bind_some, if_neg z.ne]
  obtain ⟨b1, b2, b3, b4, b5, b6⟩ := hb
  obtain ⟨Hc, c1, c2', c3'⟩ := put8 b6 h20 u v w
  rw [show (59 : Int32) = nI 59 from rfl, eb, Option.bind_some, if_pos b2, c1, Option.bind_some, Option.bind_some]
  refine Or.inr ⟨c3, Pt R u v w, Hc, by simp only [Except.bind, s5, s6, s8, s9, sa, sb], rfl, ⟨fun c k k1 k2 => ?_, ?_, ?_, b4, b5.fr (fun k => c3' 60 k (by omega)), c2'⟩, Pt_o (by omega) (by omega), Pt_3 _ _ _ _⟩
  · rw [c3' c k k1, b1 c k k1 k2]
  · rw [c3' _ _ (by omega), b2]
  · rw [c3' _ _ (by omega), b3]
theorem isGift8 {H0 H : Hp} {n q : Nat} {B R : Nat → Nat} (h : Ms H0 H n B q R) : f_X8_isGift H = some (if q < n ∧ B q = 103 then 1 else 0) := by
  have := (tk_lt (c := 103) (by omega) h.2.2.2.2.1).1
  unfold f_X8_isGift
  rw [if_pos h.2.1]
  exact congrArg some this
theorem isGiftF {H0 H : Hp} {f p : Nat} (h : Mf H0 H f p) : f_X8_isGift H = some 0 := by
  unfold f_X8_isGift
  rw [if_neg h.ne]
theorem ga8_full {H0 H : Hp} {n q : Nat} {B R : Nat → Nat} (h : Ms H0 H n B q R) (h20 : R 3 = 20) : ∃ H2, f_X8_readGift H = some H2 ∧ Mf H0 H2 3 q := by
  obtain ⟨Hg, g1, z⟩ := bad8 3 h (by omega) (by omega)
  replace g1 : f_X8_bad 3 H = some Hg := g1
  unfold f_X8_readGift
  rw [ag3, Option.bind_some, h.2.2.2.2.2 3 (by omega), h20, if_pos (show nI 20 = 20 from rfl), g1]
  simp only [mustF z, sgF z, nmF z, ag0, Option.bind_some, if_neg z.ne]
  exact ⟨Hg, rfl, z⟩
theorem gifts8 {H0 : Hp} {n : Nat} {B : Nat → Nat} (t : Tm H0 n B) : ∀ (m d q : Nat) (R : Nat → Nat) (H : Hp), R 3 + d = 20 → d + 1 < m → Ms H0 H n B q R → 0 < R 0 → R 0 ≤ 6 → ∃ H2, f_X8_fund_l120 m H = some H2 ∧ ((∃ f p, tx_gf n B (d + 1) q R = .error (f, p) ∧ Mf H0 H2 f p) ∨ (∃ R2, tx_gf n B (d + 1) q R = .ok R2 ∧ Ms H0 H2 n B n R2) ∨ ∃ p R2, tx_gf n B (d + 1) q R = .error (1, p) ∧ p < n ∧ Ms H0 H2 n B p R2) := by
  intro m
  induction m with
  | zero => intro d q R H _ h; omega
  | succ m ih =>
    intro d q R H hd hm h h0 h6
    simp only [f_X8_fund_l120, tx_gf]
    rw [isGift8 h, Option.bind_some]
    have stop : ∀ f p H2, Mf H0 H2 f p → f_X8_fund_l120 m H2 = some H2 := fun f p H2 z => by
      obtain ⟨m, rfl⟩ : ∃ j, m = j + 1 := ⟨m - 1, by omega⟩
      simp only [f_X8_fund_l120]
      rw [isGiftF z, Option.bind_some, if_pos rfl]
    by_cases g : q < n ∧ B q = 103
    · rw [if_pos g, if_neg ne10, if_pos g.1]
      by_cases g20 : R 3 = 20
      · obtain ⟨H2, e1, z⟩ := ga8_full h g20
        rw [e1, Option.bind_some, stop _ _ _ z, if_pos ⟨g.2, g20⟩]
        exact ⟨H2, rfl, Or.inl ⟨3, q, rfl, z⟩⟩
      · rw [if_neg (fun z => g20 z.2)]
        rcases ga8 t h g.1 g.2 h0 h6 (by omega) with ⟨f, p, H2, s1, e1, z⟩ | ⟨a, R2, H2, s1, e1, h1, r1, r2⟩
        · rw [s1, e1, Option.bind_some, stop _ _ _ z]
          exact ⟨H2, rfl, Or.inl ⟨f, p, rfl, z⟩⟩
        · rw [s1, e1, Option.bind_some]
          obtain ⟨d, rfl⟩ : ∃ e, d = e + 1 := ⟨d - 1, by omega⟩
          exact ih d a R2 H2 (by omega) (by omega) h1 (by omega) (by omega)
    · rw [if_neg g, if_pos rfl]
      refine ⟨H, rfl, Or.inr ?_⟩
      have hq := h.2.2.2.1
      by_cases gn : q < n
      · refine Or.inr ⟨q, R, ?_, gn, h⟩
        rw [if_pos gn, if_neg (fun z => g ⟨gn, z.1⟩)]
        unfold tx_gift tx_sgn
        rw [if_neg g]
        rfl
      · rw [if_neg gn]
        obtain rfl : q = n := by omega
        exact Or.inl ⟨R, rfl, h⟩
/-! the end of it -/
def fdD (j2 : Hp) : Option (Int32 × Hp) :=
  ((pf j2 60 11 0).bind fun H3 =>
  (pf H3 60 18 (if (H3 60 16) ≤ 0 then (H3 60 18) else (H3 60 16))).bind fun H4 =>
  some (((if (H4 60 16) ≤ 0 then 0 else 1) : Int32), H4)).bind fun q28 =>
  if q28.1 = 0 then
    (pf q28.2 60 9 0).bind fun H29 =>
    (f_X8_fund_l156 fuel 0 H29).bind fun l33 =>
    (ag l33 64 80 0).bind fun v34 =>
    some (v34, l33)
  else
    some (((-1000100) - (q28.2 60 17)), q28.2)
def fdC (l27 : Hp) : Option (Int32 × Hp) :=
  (f_X8_failed l27).bind fun q28 =>
  if q28.1 = 0 then
    (pf q28.2 60 9 0).bind fun H29 =>
    (f_X8_fund_l156 fuel 0 H29).bind fun l33 =>
    (ag l33 64 80 0).bind fun v34 =>
    some (v34, l33)
  else
    some (((-1000100) - (q28.2 60 17)), q28.2)
def fdB (H16 : Hp) : Option (Int32 × Hp) :=
  (f_X8_isSort H16).bind fun v17 =>
  Option.bind (
    if v17 = 0 then
      (f_X8_bad 1 H16).bind fun H18 =>
      some H18
    else
      some H16) fun j19 =>
  (f_X8_fund_l106 fuel j19).bind fun l23 =>
  (f_X8_fund_l120 fuel l23).bind fun l27 => fdC l27
def fdA (K : Hp → Option (Int32 × Hp)) (H : Hp) : Option (Int32 × Hp) :=
  (pf H 60 0 0).bind fun H1 =>
  (f_X8_begin H1).bind fun H2 =>
  (f_X8_fund_l11 fuel 0 H2).bind fun l8 =>
  (f_X8_isLetter 109 l8).bind fun v9 =>
  (f_X8_must v9 l8).bind fun H10 =>
  (f_X8_number 0 99 H10).bind fun q11 =>
  (as q11.2 65 80 1 (10 * q11.1)).bind fun H12 =>
  (f_X8_mustSign 44 H12).bind fun H13 =>
  (f_X8_number 1 99 H13).bind fun q14 =>
  (as q14.2 65 80 2 q14.1).bind fun H15 =>
  (f_X8_mustSign 59 H15).bind fun H16 => K H16
theorem fd_eq (H : Hp) : f_X8_fund H = fdA fdB H := rfl
def Eo (H H2 : Hp) (f : Nat) : Prop := H2 60 18 = nI f ∧ H2 60 11 = 0 ∧ ∀ c k, c ≠ 65 → (c ≠ 60 ∨ (0 < k ∧ k < 11) ∨ 18 < k) → H2 c k = H c k
theorem fdD_F {H0 H : Hp} {f p : Nat} (h : Mf H0 H f p) : ∃ H2, fdD H = some (-1000100 - nI p, H2) ∧ Eo H0 H2 f := by
  obtain ⟨h1, h2, h3, h4, h5⟩ := h
  have z0 : ¬ nI f ≤ 0 := nI_nle (by omega) (by omega)
  unfold fdD
  simp only [pf_e, Option.bind_some]
  rw [hset_k (show 16 ≠ 11 by omega), hset_k (show 16 ≠ 18 by omega), hset_k (show 16 ≠ 11 by omega), h2, if_neg z0, if_neg z0, if_neg ne10, hset_k (show 17 ≠ 18 by omega), hset_k (show 17 ≠ 11 by omega), h3]
  refine ⟨_, rfl, hset_self, by rw [hset_k (by omega), hset_self], fun c k c1 c2 => ?_⟩
  rw [hset_if, if_neg (by omega), hset_if, if_neg (by omega), h1 c k c1 (by omega)]
theorem l156_8 {H : Hp} {R : Nat → Nat} (h : Hr H 65 R) : ∃ l, f_X8_fund_l156 fuel 0 H = some l ∧ Hr l 64 R ∧ ∀ c k, c ≠ 64 → l c k = H c k := by
  obtain ⟨l, e1, e2, e3⟩ := up0 (fun m k z => f_X8_fund_l156 m (nI k) z) 80 (by omega) (fun k z => (∀ c j, c ≠ 64 → z c j = H c j) ∧ ∀ i, i < k → z 64 i = nI (R i)) (fun z => (∀ c j, c ≠ 64 → z c j = H c j) ∧ ∀ i, i < 80 → z 64 i = nI (R i)) H
    ⟨fun _ _ _ => rfl, fun i hi => absurd hi (by omega)⟩
    (fun m z hz => ⟨z, by simp only [f_X8_fund_l156]; rw [if_pos (by decide)], hz⟩)
    (fun m k z hk hz => Or.inr ⟨hset z 64 k (nI (R k)), by
      simp only [f_X8_fund_l156]
      rw [if_neg (show ¬ (80 : Int32) ≤ nI k from nI_ge (b := 80) hk (by omega)), ag_n hk (by omega), Option.bind_some, hz.1 65 k (by omega), h k hk, as_n hk (by omega), Option.bind_some, nI_1],
      fun c j hc => by rw [hset_c hc, hz.1 c j hc],
      fun i hi => by
        by_cases g : i = k
        · rw [g, hset_self]
        · rw [hset_k g, hz.2 i (by omega)]⟩)
  exact ⟨l, e1, e3, e2⟩
theorem fdD_O {H0 H : Hp} {n q : Nat} {B R : Nat → Nat} (h : Ms H0 H n B q R) : ∃ H2, fdD H = some (nI (R 0), H2) ∧ Hr H2 64 R ∧ H2 60 9 = 0 ∧ H2 60 11 = 0 ∧ H2 60 18 = H0 60 18 := by
  obtain ⟨h1, h2, h3, h4, h5, h6⟩ := h
  have hr : Hr (hset (hset (hset H 60 11 0) 60 18 (H 60 18)) 60 9 0) 65 R := h6.fr (fun k _ => by rw [hset_c (by omega), hset_c (by omega), hset_c (by omega)])
  obtain ⟨l, e1, e2, e3⟩ := l156_8 hr
  unfold fdD
  simp only [pf_e, Option.bind_some]
  rw [hset_k (show 16 ≠ 11 by omega), hset_k (show 16 ≠ 18 by omega), hset_k (show 16 ≠ 11 by omega), hset_k (show 18 ≠ 11 by omega), h2, if_pos (show (0 : Int32) ≤ 0 by decide), if_pos (show (0 : Int32) ≤ 0 by decide), if_pos rfl, e1, Option.bind_some, show ag l 64 80 0 = ag l 64 80 (nI 0) from rfl, ag_n (by omega) (by omega), Option.bind_some, e2 0 (by omega)]
  refine ⟨l, rfl, e2, by rw [e3 _ _ (by omega), hset_self], by rw [e3 _ _ (by omega), hset_k (by omega), hset_k (by omega), hset_self], ?_⟩
  rw [e3 _ _ (by omega), hset_k (by omega), hset_self, h1 60 18 (by omega) (by omega)]
theorem fdC_F {H0 H : Hp} {f p : Nat} (h : Mf H0 H f p) : ∃ H2, fdC H = some (-1000100 - nI p, H2) ∧ Eo H0 H2 f := by
  unfold fdC f_X8_failed
  rw [if_neg h.ne, Option.bind_some]
  exact fdD_F h
theorem fdC_O {H0 H : Hp} {n : Nat} {B R : Nat → Nat} (h : Ms H0 H n B n R) : ∃ H2, fdC H = some (nI (R 0), H2) ∧ Hr H2 64 R ∧ H2 60 9 = 0 ∧ H2 60 11 = 0 ∧ H2 60 18 = H0 60 18 := by
  have s : H 60 14 = 1 := by
    rcases h.2.2.2.2.1 with ⟨a, s⟩ | ⟨g, l1, l2, s, v, e⟩ | ⟨f, r, s, v, e⟩ | ⟨g, c1, s, v, e⟩ | ⟨g, x1, x2, x3, x4, s⟩
    · exact s
    · omega
    · have := fig_v f
      omega
    · omega
    · omega
  unfold fdC f_X8_failed
  rw [if_pos h.2.1, if_pos s, Option.bind_some]
  exact fdD_O h
theorem fdC_G {H0 H : Hp} {n p : Nat} {B R : Nat → Nat} (hp : p < n) (h : Ms H0 H n B p R) : ∃ H2, fdC H = some (-1000100 - nI p, H2) ∧ Eo H0 H2 1 := by
  have s : ¬ H 60 14 = 1 := by
    rcases h.2.2.2.2.1 with ⟨a, s⟩ | ⟨g, l1, l2, s, v, e⟩ | ⟨f, r, s, v, e⟩ | ⟨g, c1, s, v, e⟩ | ⟨g, x1, x2, x3, x4, s⟩
    · omega
    · rw [s]; decide
    · rw [s]; decide
    · rw [s]; decide
    · rw [s]; decide
  obtain ⟨Hf, f1, z⟩ := bad8 1 h (by omega) (by omega)
  replace f1 : f_X8_bad 1 H = some Hf := f1
  unfold fdC f_X8_failed
  rw [if_pos h.2.1, if_neg s, f1, Option.bind_some, Option.bind_some]
  exact fdD_F z
def tx_rest (n : Nat) (B : Nat → Nat) (a : Nat × (Nat → Nat)) : Except (Nat × Nat) (Nat → Nat) := (tx_prj n B 7 a.1 a.2).bind fun b => tx_gf n B 21 b.1 b.2
def Er (H0 : Hp) (o : Option (Int32 × Hp)) (r : Except (Nat × Nat) (Nat → Nat)) : Prop := (∃ f p H2, r = .error (f, p) ∧ o = some (-1000100 - nI p, H2) ∧ Eo H0 H2 f) ∨ ∃ R H2, r = .ok R ∧ o = some (nI (R 0), H2) ∧ Hr H2 64 R ∧ H2 60 9 = 0 ∧ H2 60 11 = 0 ∧ H2 60 18 = H0 60 18
theorem loopsF {H0 H : Hp} {f p : Nat} (h : Mf H0 H f p) : f_X8_fund_l106 fuel H = some H ∧ f_X8_fund_l120 fuel H = some H := by
  obtain ⟨fq, hfq⟩ : ∃ q, fuel = q + 1 := ⟨4999, rfl⟩
  rw [hfq]
  simp only [f_X8_fund_l106, f_X8_fund_l120]
  rw [isSortF h, isGiftF h, Option.bind_some, Option.bind_some, if_pos rfl, if_pos rfl]
  exact ⟨rfl, rfl⟩
theorem fdB_F {H0 H : Hp} {f p : Nat} (h : Mf H0 H f p) : ∃ H2, fdB H = some (-1000100 - nI p, H2) ∧ Eo H0 H2 f := by
  unfold fdB
  rw [isSortF h, Option.bind_some, if_pos rfl, badF h, Option.bind_some, Option.bind_some, (loopsF h).1, Option.bind_some, (loopsF h).2, Option.bind_some]
  exact fdC_F h
theorem fdB_O {H0 H : Hp} {n q : Nat} {B R : Nat → Nat} (t : Tm H0 n B) (h : Ms H0 H n B q R) (h0 : R 0 = 0) (h3 : R 3 = 0) : Er H0 (fdB H) (tx_rest n B (q, R)) := by
  have fu : fuel = 5000 := rfl
  unfold fdB tx_rest
  rw [isSort8 t h, Option.bind_some]
  by_cases g : q < n ∧ kd (B q) ≠ 0
  · rw [if_pos g, if_neg ne10, Option.bind_some]
    rcases prj8 t fuel 6 q R H (by omega) (by omega) h (Or.inr g) h3 with ⟨f, p, H2, s1, e1, z⟩ | ⟨q2, R2, H2, s1, e1, h1, r1, r2, r3⟩
    · rw [e1, Option.bind_some, (loopsF z).2, Option.bind_some]
      obtain ⟨H3, e3, z3⟩ := fdC_F z
      exact Or.inl ⟨f, p, H3, by simp only [s1, Except.bind], e3, z3⟩
    · rw [e1, Option.bind_some]
      obtain ⟨H3, e3, hc⟩ := gifts8 t fuel 20 q2 R2 H2 (by omega) (by omega) h1 r1 r2
      rw [e3, Option.bind_some]
      rcases hc with ⟨f, p, s2, z⟩ | ⟨R3, s2, h2⟩ | ⟨p, R3, s2, hp, h2⟩
      · obtain ⟨H4, e4, z4⟩ := fdC_F z
        exact Or.inl ⟨f, p, H4, by simp only [s1, s2, Except.bind], e4, z4⟩
      · obtain ⟨H4, e4, z4⟩ := fdC_O h2
        exact Or.inr ⟨R3, H4, by simp only [s1, s2, Except.bind], e4, z4⟩
      · obtain ⟨H4, e4, z4⟩ := fdC_G hp h2
        exact Or.inl ⟨1, p, H4, by simp only [s1, s2, Except.bind], e4, z4⟩
  · obtain ⟨Hf, f1, z⟩ := bad8 1 h (by omega) (by omega)
    replace f1 : f_X8_bad 1 H = some Hf := f1
    rw [if_neg g, if_pos rfl, f1, Option.bind_some, Option.bind_some, (loopsF z).1, Option.bind_some, (loopsF z).2, Option.bind_some]
    obtain ⟨H3, e3, z3⟩ := fdC_F z
    refine Or.inl ⟨1, q, H3, ?_, e3, z3⟩
    simp only [tx_prj]
    rw [if_neg g, if_pos h0]; rfl
