def f_X3_greatestCommon_l9 : Nat → Int64 → Int64 → Int32 → Option (Int64)
  | 0, _, _, _ => none
  | n + 1, x4, x6, x8 =>
    if 128 ≤ x8 then
      some x4
    else
      if x6 = 0 then
        some x4
      else
        if x6 = 0 then none else
        f_X3_greatestCommon_l9 n x6 (x4 - x4 / x6 * x6) (x8 + 1)
def f_X3_greatestCommon (x0 : Int64) (x2 : Int64) : Option (Int64) :=
  (f_X3_greatestCommon_l9 fuel x0 x2 0).bind fun l4 =>
  some l4
set_option maxHeartbeats 4000000 in
set_option maxRecDepth 100000 in
theorem k_X3_greatestCommon_l9 {D : Nat} (hD : 0 ≤ D) (H : Hp) {post : Option Value → Hp → Prop} : ∀ (n : Nat) (x4 : Int64) (x6 : Int64) (x8 : Int32) (q : Int64), f_X3_greatestCommon_l9 n x4 x6 x8 = some q → V D RX3 mdX3_greatestCommon 45 [.null, .null, .null, .null, .long q, .null, .null, .null, .null, .null, .null] [] H post → V D RX3 mdX3_greatestCommon 9 [.null, .null, .null, .null, .long x4, .null, .long x6, .null, .int x8, .null, .null] [] H post := by
  intro n
  induction n with
  | zero => intro x4 x6 x8 q h; simp [f_X3_greatestCommon_l9] at h
  | succ n ih =>
    intro x4 x6 x8 q h k1
    rw [f_X3_greatestCommon_l9] at h
    refine st_iload dX3_greatestCommon_9 rfl ?_
    refine st_sipush dX3_greatestCommon_11 (v := 128) (by decide) ?_
    refine st_ic_ge dX3_greatestCommon_14 45 (by decide) (fun c1 => ?_) (fun c1 => ?_)
    · replace h := (if_pos c1).symm.trans h
      obtain rfl := Option.some.inj h
      exact st_sub [.null, .null, .null, .null, .long x4, .null, .null, .null, .null, .null, .null] ⟨Or.inl rfl, Or.inl rfl, Or.inl rfl, Or.inl rfl, Or.inr rfl, Or.inl rfl, Or.inl rfl, Or.inl rfl, Or.inl rfl, Or.inl rfl, Or.inl rfl, trivial⟩ k1
    · replace h := (if_neg c1).symm.trans h
      refine st_lload dX3_greatestCommon_17 rfl ?_
      refine st_lconst dX3_greatestCommon_19 (v := 0) rfl ?_
      refine st_lcmp dX3_greatestCommon_20 ?_
      refine st_if_eq dX3_greatestCommon_21 45 (by decide) (fun c2 => ?_) (fun c2 => ?_)
      · replace c2 := (lg_cmp_eq x6 0).mp c2
        replace h := (if_pos c2).symm.trans h
        obtain rfl := Option.some.inj h
        exact st_sub [.null, .null, .null, .null, .long x4, .null, .null, .null, .null, .null, .null] ⟨Or.inl rfl, Or.inl rfl, Or.inl rfl, Or.inl rfl, Or.inr rfl, Or.inl rfl, Or.inl rfl, Or.inl rfl, Or.inl rfl, Or.inl rfl, Or.inl rfl, trivial⟩ k1
      · replace c2 := (not_congr (lg_cmp_eq x6 0)).mp c2
        replace h := (if_neg c2).symm.trans h
        refine st_lload dX3_greatestCommon_24 rfl ?_
        refine st_lload dX3_greatestCommon_26 rfl ?_
        have n3 : ¬ x6 = 0 := fun z => by rw [if_pos z] at h; cases h
        replace h := (if_neg n3).symm.trans h
        refine st_lrem dX3_greatestCommon_28 n3 ?_
        refine st_lstore dX3_greatestCommon_29 (by decide) [.null, .null, .null, .null, .long x4, .null, .long x6, .null, .int x8, .long (x4 - x4 / x6 * x6), .null] rfl ?_
        refine st_lload dX3_greatestCommon_31 rfl ?_
        refine st_lstore dX3_greatestCommon_33 (by decide) [.null, .null, .null, .null, .long x6, .null, .long x6, .null, .int x8, .long (x4 - x4 / x6 * x6), .null] rfl ?_
        refine st_lload dX3_greatestCommon_35 rfl ?_
        refine st_lstore dX3_greatestCommon_37 (by decide) [.null, .null, .null, .null, .long x6, .null, .long (x4 - x4 / x6 * x6), .null, .int x8, .long (x4 - x4 / x6 * x6), .null] rfl ?_
        refine st_iinc dX3_greatestCommon_39 rfl (v := (x8 + 1)) rfl (by decide) [.null, .null, .null, .null, .long x6, .null, .long (x4 - x4 / x6 * x6), .null, .int (x8 + 1), .long (x4 - x4 / x6 * x6), .null] rfl ?_
        refine st_goto dX3_greatestCommon_42 9 (by decide) ?_
        exact st_sub [.null, .null, .null, .null, .long x6, .null, .long (x4 - x4 / x6 * x6), .null, .int (x8 + 1), .null, .null] ⟨Or.inl rfl, Or.inl rfl, Or.inl rfl, Or.inl rfl, Or.inr rfl, Or.inl rfl, Or.inr rfl, Or.inl rfl, Or.inr rfl, Or.inl rfl, Or.inl rfl, trivial⟩ (ih x6 (x4 - x4 / x6 * x6) (x8 + 1) q h k1)
set_option maxHeartbeats 4000000 in
set_option maxRecDepth 100000 in
theorem k_X3_greatestCommon {D : Nat} (hD : 0 ≤ D) (x0 : Int64) (x2 : Int64) (H : Hp) (q : Int64) (h : f_X3_greatestCommon x0 x2 = some q) {post : Option Value → Hp → Prop} (hp : post (some (.long q)) H) : Sem D mdX3_greatestCommon [.long x0, .long x2] H post := by
  refine sem_of (own := RX3) rfl pn_RX3 (Nat.le_of_ble_eq_true rfl) [.long x0, .null, .long x2, .null, .null, .null, .null, .null, .null, .null, .null] ⟨Or.inr rfl, Or.inl rfl, Or.inr rfl, Or.inl rfl, rfl, rfl, rfl, rfl, rfl, rfl, rfl, trivial⟩ ?_
  unfold f_X3_greatestCommon at h
  refine st_lload_n dX3_greatestCommon_0 rfl rfl ?_
  refine st_lstore dX3_greatestCommon_1 (by decide) [.long x0, .null, .long x2, .null, .long x0, .null, .null, .null, .null, .null, .null] rfl ?_
  refine st_lload_n dX3_greatestCommon_3 rfl rfl ?_
  refine st_lstore dX3_greatestCommon_4 (by decide) [.long x0, .null, .long x2, .null, .long x0, .null, .long x2, .null, .null, .null, .null] rfl ?_
  refine st_iconst dX3_greatestCommon_6 (v := 0) rfl ?_
  refine st_istore dX3_greatestCommon_7 (by decide) [.long x0, .null, .long x2, .null, .long x0, .null, .long x2, .null, .int 0, .null, .null] rfl ?_
  refine st_sub [.null, .null, .null, .null, .long x0, .null, .long x2, .null, .int 0, .null, .null] ⟨Or.inl rfl, Or.inl rfl, Or.inl rfl, Or.inl rfl, Or.inr rfl, Or.inl rfl, Or.inr rfl, Or.inl rfl, Or.inr rfl, Or.inl rfl, Or.inl rfl, trivial⟩ ?_
  obtain ⟨l4, e_l4, h⟩ := bnd h
  refine k_X3_greatestCommon_l9 (by omega) H fuel x0 x2 0 _ e_l4 ?_
  refine st_lload dX3_greatestCommon_45 rfl ?_
  obtain rfl := Option.some.inj h
  exact st_lret dX3_greatestCommon_47 rfl hp
def f_X3_chance_l27 (H : Hp) : Nat → Int64 → Int32 → Option (Int64)
  | 0, _, _ => none
  | n + 1, x7, x9 =>
    if 10 ≤ x9 then
      some x7
    else
      (f_X2_gives x9 H).bind fun v3 =>
      f_X3_chance_l27 H n (x7 * ((if v3 = 0 then 1 else 10) : Int64)) (x9 + 1)
def f_X3_chance (x1 : Int32) (x2 : Int32) (x3 : Int32) (x4 : Int32) (H : Hp) : Option (Int64 × Hp) :=
  (f_X2_load H).bind fun H1 =>
  (f_X3_casesPaid 12 0 x1 x2 x3 H1).bind fun q2 =>
  (f_X3_chance_l27 q2.2 fuel 1 0).bind fun l8 =>
  (f_X3_greatestCommon q2.1 l8).bind fun v9 =>
  if 0 < v9 then
    if v9 = 0 then none else
    some (((if x4 = 0 then q2.1 else l8) / v9), q2.2)
  else
    some ((-1000000), q2.2)
set_option maxHeartbeats 4000000 in
set_option maxRecDepth 100000 in
theorem k_X3_chance_l27 {D : Nat} (hD : 17 ≤ (D + 1)) (H : Hp) (x4 : Int32) (x5 : Int64) {post : Option Value → Hp → Prop} : ∀ (n : Nat) (x7 : Int64) (x9 : Int32) (q : Int64), f_X3_chance_l27 H n x7 x9 = some q → V (D + 1) RX3 mdX3_chance 64 [.null, .null, .null, .null, .int x4, .long x5, .null, .long q, .null, .null, .null] [] H post → V (D + 1) RX3 mdX3_chance 27 [.ref 49, .null, .null, .null, .int x4, .long x5, .null, .long x7, .null, .int x9, .null] [] H post := by
  intro n
  induction n with
  | zero => intro x7 x9 q h; simp [f_X3_chance_l27] at h
  | succ n ih =>
    intro x7 x9 q h k1
    rw [f_X3_chance_l27] at h
    refine st_iload dX3_chance_27 rfl ?_
    refine st_bipush dX3_chance_29 (v := 10) (by decide) ?_
    refine st_ic_ge dX3_chance_31 64 (by decide) (fun c4 => ?_) (fun c4 => ?_)
    · replace h := (if_pos c4).symm.trans h
      obtain rfl := Option.some.inj h
      exact st_sub [.null, .null, .null, .null, .int x4, .long x5, .null, .long x7, .null, .null, .null] ⟨Or.inl rfl, Or.inl rfl, Or.inl rfl, Or.inl rfl, Or.inr rfl, Or.inr rfl, Or.inl rfl, Or.inr rfl, Or.inl rfl, Or.inl rfl, Or.inl rfl, trivial⟩ k1
    · replace h := (if_neg c4).symm.trans h
      refine st_lload dX3_chance_34 rfl ?_
      refine st_aload_n dX3_chance_36 rfl rfl ?_
      refine gR3 dX3_chance_37 (by decide) rfl 1 (by decide) fl_RX3_28 rfl 38 rfl ?_
      refine st_iload dX3_chance_40 rfl ?_
      obtain ⟨v3, e_v3, h⟩ := bnd h
      refine st_callV [.int x9] dX3_chance_42 co_X2_gives im_X2_gives se_X2_gives ml_RX3_66 rfl (by decide) rfl (rfl : classes[2]? = some (RX2, TX2, 15)) rfl (S := [.long x7]) rfl (Nat.le_of_ble_eq_true rfl) (k_X2_gives (by omega) x9 H _ e_v3 ?_)
      show V (D + 1) RX3 mdX3_chance 45 [.ref 49, .null, .null, .null, .int x4, .long x5, .null, .long x7, .null, .int x9, .null] [.int v3, .long x7] H post
      have kj6 : ∀ z5 : Int64, z5 = ((if v3 = 0 then 1 else 10) : Int64) → V (D + 1) RX3 mdX3_chance 55 [.ref 49, .null, .null, .null, .int x4, .long x5, .null, .null, .null, .int x9, .null] [.long z5, .long x7] H post := by
        intro z5 ez5
        subst ez5
        refine st_lmul dX3_chance_55 ?_
        refine st_lstore dX3_chance_56 (by decide) [.ref 49, .null, .null, .null, .int x4, .long x5, .null, .long (x7 * ((if v3 = 0 then 1 else 10) : Int64)), .null, .int x9, .null] rfl ?_
        refine st_iinc dX3_chance_58 rfl (v := (x9 + 1)) rfl (by decide) [.ref 49, .null, .null, .null, .int x4, .long x5, .null, .long (x7 * ((if v3 = 0 then 1 else 10) : Int64)), .null, .int (x9 + 1), .null] rfl ?_
        refine st_goto dX3_chance_61 27 (by decide) ?_
        exact ih (x7 * ((if v3 = 0 then 1 else 10) : Int64)) (x9 + 1) q h k1
      refine st_if_eq dX3_chance_45 54 (by decide) (fun c7 => ?_) (fun c7 => ?_)
      · refine st_lconst dX3_chance_54 (v := 1) rfl ?_
        exact st_sub [.ref 49, .null, .null, .null, .int x4, .long x5, .null, .null, .null, .int x9, .null] ⟨Or.inr rfl, Or.inl rfl, Or.inl rfl, Or.inl rfl, Or.inr rfl, Or.inr rfl, Or.inl rfl, Or.inl rfl, Or.inl rfl, Or.inr rfl, Or.inl rfl, trivial⟩ (kj6 _ (Eq.symm (if_pos c7)))
      · refine st_ldc2 dX3_chance_48 cl_RX3_127 ?_
        refine st_goto dX3_chance_51 55 (by decide) ?_
        exact st_sub [.ref 49, .null, .null, .null, .int x4, .long x5, .null, .null, .null, .int x9, .null] ⟨Or.inr rfl, Or.inl rfl, Or.inl rfl, Or.inl rfl, Or.inr rfl, Or.inr rfl, Or.inl rfl, Or.inl rfl, Or.inl rfl, Or.inr rfl, Or.inl rfl, trivial⟩ (kj6 _ (Eq.symm (if_neg c7)))
set_option maxHeartbeats 4000000 in
set_option maxRecDepth 100000 in
theorem k_X3_chance {D : Nat} (hD : 17 ≤ D) (x1 : Int32) (x2 : Int32) (x3 : Int32) (x4 : Int32) (H : Hp) (q : Int64 × Hp) (h : f_X3_chance x1 x2 x3 x4 H = some q) {post : Option Value → Hp → Prop} (hp : post (some (.long q.1)) q.2) : Sem D mdX3_chance [.ref 49, .int x1, .int x2, .int x3, .int x4] H post := by
  obtain ⟨D, rfl⟩ : ∃ E, D = E + 1 := ⟨D - 1, by omega⟩
  refine sem_of (own := RX3) rfl pn_RX3 (Nat.le_of_ble_eq_true rfl) [.ref 49, .int x1, .int x2, .int x3, .int x4, .null, .null, .null, .null, .null, .null] ⟨Or.inr rfl, Or.inr rfl, Or.inr rfl, Or.inr rfl, Or.inr rfl, rfl, rfl, rfl, rfl, rfl, rfl, trivial⟩ ?_
  unfold f_X3_chance at h
  refine st_aload_n dX3_chance_0 rfl rfl ?_
  refine gR3 dX3_chance_1 (by decide) rfl 1 (by decide) fl_RX3_28 rfl 38 rfl ?_
  refine st_aload_n dX3_chance_4 rfl rfl ?_
  refine gR3 dX3_chance_5 (by decide) rfl 0 (by decide) fl_RX3_25 rfl 7 rfl ?_
  obtain ⟨H1, e_H1, h⟩ := bnd h
  refine st_callV [.ref 7] dX3_chance_8 co_X2_load im_X2_load se_X2_load ml_RX3_32 rfl (by decide) rfl (rfl : classes[2]? = some (RX2, TX2, 15)) rfl (S := []) rfl (Nat.le_of_ble_eq_true rfl) (k_X2_load (by omega) H _ e_H1 ?_)
  show V (D + 1) RX3 mdX3_chance 11 [.ref 49, .int x1, .int x2, .int x3, .int x4, .null, .null, .null, .null, .null, .null] [] H1 post
  refine st_aload_n dX3_chance_11 rfl rfl ?_
  refine st_iconst dX3_chance_12 (v := 0) rfl ?_
  refine st_iload_n dX3_chance_13 rfl rfl ?_
  refine st_iload_n dX3_chance_14 rfl rfl ?_
  refine st_iload_n dX3_chance_15 rfl rfl ?_
  obtain ⟨q2, e_q2, h⟩ := bnd h
  refine st_callV [.int 0, .int x1, .int x2, .int x3] dX3_chance_16 co_X3_casesPaid im_X3_casesPaid se_X3_casesPaid ml_RX3_123 rfl (by decide) rfl (rfl : classes[3]? = some (RX3, TX3, 5)) rfl (S := []) rfl (Nat.le_of_ble_eq_true rfl) (k_X3_casesPaid _ _ (by omega) 0 x1 x2 x3 H1 _ e_q2 ?_)
  show V (D + 1) RX3 mdX3_chance 19 [.ref 49, .int x1, .int x2, .int x3, .int x4, .null, .null, .null, .null, .null, .null] [.long q2.1] q2.2 post
  refine st_lstore dX3_chance_19 (by decide) [.ref 49, .int x1, .int x2, .int x3, .int x4, .long q2.1, .null, .null, .null, .null, .null] rfl ?_
  refine st_lconst dX3_chance_21 (v := 1) rfl ?_
  refine st_lstore dX3_chance_22 (by decide) [.ref 49, .int x1, .int x2, .int x3, .int x4, .long q2.1, .null, .long 1, .null, .null, .null] rfl ?_
  refine st_iconst dX3_chance_24 (v := 0) rfl ?_
  refine st_istore dX3_chance_25 (by decide) [.ref 49, .int x1, .int x2, .int x3, .int x4, .long q2.1, .null, .long 1, .null, .int 0, .null] rfl ?_
  refine st_sub [.ref 49, .null, .null, .null, .int x4, .long q2.1, .null, .long 1, .null, .int 0, .null] ⟨Or.inr rfl, Or.inl rfl, Or.inl rfl, Or.inl rfl, Or.inr rfl, Or.inr rfl, Or.inl rfl, Or.inr rfl, Or.inl rfl, Or.inr rfl, Or.inl rfl, trivial⟩ ?_
  obtain ⟨l8, e_l8, h⟩ := bnd h
  refine k_X3_chance_l27 (by omega) q2.2 x4 q2.1 fuel 1 0 _ e_l8 ?_
  refine st_lload dX3_chance_64 rfl ?_
  refine st_lload dX3_chance_66 rfl ?_
  obtain ⟨v9, e_v9, h⟩ := bnd h
  refine st_callS [.long q2.1, .long l8] dX3_chance_68 co_X3_greatestCommon sm_X3_greatestCommon ml_RX3_129 rfl (S := []) rfl (Nat.le_of_ble_eq_true rfl) (k_X3_greatestCommon (by omega) q2.1 l8 q2.2 _ e_v9 ?_)
  show V (D + 1) RX3 mdX3_chance 71 [.null, .null, .null, .null, .int x4, .long q2.1, .null, .long l8, .null, .null, .null] [.long v9] q2.2 post
  refine st_lstore dX3_chance_71 (by decide) [.null, .null, .null, .null, .int x4, .long q2.1, .null, .long l8, .null, .long v9, .null] rfl ?_
  refine st_lload dX3_chance_73 rfl ?_
  refine st_lconst dX3_chance_75 (v := 0) rfl ?_
  refine st_lcmp dX3_chance_76 ?_
  refine st_if_gt dX3_chance_77 84 (by decide) (fun c10 => ?_) (fun c10 => ?_)
  · replace c10 := (lg_cmp_gt v9 0).mp c10
    replace h := (if_pos c10).symm.trans h
    refine st_iload dX3_chance_84 rfl ?_
    have kj12 : ∀ z11 : Int64, z11 = (if x4 = 0 then q2.1 else l8) → V (D + 1) RX3 mdX3_chance 96 [.null, .null, .null, .null, .null, .null, .null, .null, .null, .long v9, .null] [.long z11] q2.2 post := by
      intro z11 ez11
      subst ez11
      refine st_lload dX3_chance_96 rfl ?_
      have n13 : ¬ v9 = 0 := fun z => by rw [if_pos z] at h; cases h
      replace h := (if_neg n13).symm.trans h
      refine st_ldiv dX3_chance_98 n13 ?_
      obtain rfl := Option.some.inj h
      exact st_lret dX3_chance_99 rfl hp
    refine st_if_ne dX3_chance_86 94 (by decide) (fun c14 => ?_) (fun c14 => ?_)
    · refine st_lload dX3_chance_94 rfl ?_
      exact st_sub [.null, .null, .null, .null, .null, .null, .null, .null, .null, .long v9, .null] ⟨Or.inl rfl, Or.inl rfl, Or.inl rfl, Or.inl rfl, Or.inl rfl, Or.inl rfl, Or.inl rfl, Or.inl rfl, Or.inl rfl, Or.inr rfl, Or.inl rfl, trivial⟩ (kj12 _ (Eq.symm (if_neg c14)))
    · refine st_lload dX3_chance_89 rfl ?_
      refine st_goto dX3_chance_91 96 (by decide) ?_
      exact st_sub [.null, .null, .null, .null, .null, .null, .null, .null, .null, .long v9, .null] ⟨Or.inl rfl, Or.inl rfl, Or.inl rfl, Or.inl rfl, Or.inl rfl, Or.inl rfl, Or.inl rfl, Or.inl rfl, Or.inl rfl, Or.inr rfl, Or.inl rfl, trivial⟩ (kj12 _ (Eq.symm (if_pos c14)))
  · replace c10 := (not_congr (lg_cmp_gt v9 0)).mp c10
    replace h := (if_neg c10).symm.trans h
    refine st_ldc2 dX3_chance_80 cl_RX3_133 ?_
    obtain rfl := Option.some.inj h
    exact st_lret dX3_chance_83 rfl hp
def f_X7_likely (x1 : Int32) (x2 : Int32) (x3 : Int32) (x4 : Int32) (H : Hp) : Option (Int64 × Hp) :=
  (f_X7_isProject x1 H).bind fun v1 =>
  if v1 = 0 then
    some ((-1000001), H)
  else
    (f_X7_within x2 0 9999).bind fun v2 =>
    if v2 = 0 then
      some ((-1000001), H)
    else
      (f_X7_within x3 0 10).bind fun v3 =>
      if v3 = 0 then
        some ((-1000001), H)
      else
        (f_X7_within x4 0 1).bind fun v4 =>
        if v4 = 0 then
          some ((-1000001), H)
        else
          (f_X3_chance x1 x2 x3 x4 H).bind fun q5 =>
          some (q5.1, q5.2)
set_option maxHeartbeats 4000000 in
set_option maxRecDepth 100000 in
theorem k_X7_likely {D : Nat} (hD : 18 ≤ D) (x1 : Int32) (x2 : Int32) (x3 : Int32) (x4 : Int32) (H : Hp) (q : Int64 × Hp) (h : f_X7_likely x1 x2 x3 x4 H = some q) {post : Option Value → Hp → Prop} (hp : post (some (.long q.1)) q.2) : Sem D mdX7_likely [.ref 0, .int x1, .int x2, .int x3, .int x4] H post := by
  obtain ⟨D, rfl⟩ : ∃ E, D = E + 1 := ⟨D - 1, by omega⟩
  refine sem_of (own := RX7) rfl pn_RX7 (Nat.le_of_ble_eq_true rfl) [.ref 0, .int x1, .int x2, .int x3, .int x4] ⟨Or.inr rfl, Or.inr rfl, Or.inr rfl, Or.inr rfl, Or.inr rfl, trivial⟩ ?_
  unfold f_X7_likely at h
  refine st_aload_n dX7_likely_0 rfl rfl ?_
  refine st_iload_n dX7_likely_1 rfl rfl ?_
  obtain ⟨v1, e_v1, h⟩ := bnd h
  refine st_callV [.int x1] dX7_likely_2 co_X7_isProject im_X7_isProject se_X7_isProject ml_RX7_152 rfl (by decide) rfl (rfl : classes[7]? = some (RX7, TX7, 11)) rfl (S := []) rfl (Nat.le_of_ble_eq_true rfl) (k_X7_isProject (by omega) x1 H _ e_v1 ?_)
  show V (D + 1) RX7 mdX7_likely 5 [.ref 0, .int x1, .int x2, .int x3, .int x4] [.int v1] H post
  refine st_if_eq dX7_likely_5 39 (by decide) (fun c6 => ?_) (fun c6 => ?_)
  · replace h := (if_pos c6).symm.trans h
    refine st_ldc2 dX7_likely_39 cl_RX7_286 ?_
    obtain rfl := Option.some.inj h
    exact st_lret dX7_likely_42 rfl hp
  · replace h := (if_neg c6).symm.trans h
    refine st_iload_n dX7_likely_8 rfl rfl ?_
    refine st_iconst dX7_likely_9 (v := 0) rfl ?_
    refine st_sipush dX7_likely_10 (v := 9999) (by decide) ?_
    obtain ⟨v2, e_v2, h⟩ := bnd h
    refine st_callS [.int x2, .int 0, .int 9999] dX7_likely_13 co_X7_within sm_X7_within ml_RX7_73 rfl (S := []) rfl (Nat.le_of_ble_eq_true rfl) (k_X7_within (by omega) x2 0 9999 H _ e_v2 ?_)
    show V (D + 1) RX7 mdX7_likely 16 [.ref 0, .int x1, .int x2, .int x3, .int x4] [.int v2] H post
    refine st_if_eq dX7_likely_16 39 (by decide) (fun c7 => ?_) (fun c7 => ?_)
    · replace h := (if_pos c7).symm.trans h
      refine st_ldc2 dX7_likely_39 cl_RX7_286 ?_
      obtain rfl := Option.some.inj h
      exact st_lret dX7_likely_42 rfl hp
    · replace h := (if_neg c7).symm.trans h
      refine st_iload_n dX7_likely_19 rfl rfl ?_
      refine st_iconst dX7_likely_20 (v := 0) rfl ?_
      refine st_bipush dX7_likely_21 (v := 10) (by decide) ?_
      obtain ⟨v3, e_v3, h⟩ := bnd h
      refine st_callS [.int x3, .int 0, .int 10] dX7_likely_23 co_X7_within sm_X7_within ml_RX7_73 rfl (S := []) rfl (Nat.le_of_ble_eq_true rfl) (k_X7_within (by omega) x3 0 10 H _ e_v3 ?_)
      show V (D + 1) RX7 mdX7_likely 26 [.ref 0, .int x1, .int x2, .int x3, .int x4] [.int v3] H post
      refine st_if_eq dX7_likely_26 39 (by decide) (fun c8 => ?_) (fun c8 => ?_)
      · replace h := (if_pos c8).symm.trans h
        refine st_ldc2 dX7_likely_39 cl_RX7_286 ?_
        obtain rfl := Option.some.inj h
        exact st_lret dX7_likely_42 rfl hp
      · replace h := (if_neg c8).symm.trans h
        refine st_iload dX7_likely_29 rfl ?_
        refine st_iconst dX7_likely_31 (v := 0) rfl ?_
        refine st_iconst dX7_likely_32 (v := 1) rfl ?_
        obtain ⟨v4, e_v4, h⟩ := bnd h
        refine st_callS [.int x4, .int 0, .int 1] dX7_likely_33 co_X7_within sm_X7_within ml_RX7_73 rfl (S := []) rfl (Nat.le_of_ble_eq_true rfl) (k_X7_within (by omega) x4 0 1 H _ e_v4 ?_)
        show V (D + 1) RX7 mdX7_likely 36 [.ref 0, .int x1, .int x2, .int x3, .int x4] [.int v4] H post
        refine st_if_ne dX7_likely_36 43 (by decide) (fun c9 => ?_) (fun c9 => ?_)
        · replace h := (if_neg c9).symm.trans h
          refine st_aload_n dX7_likely_43 rfl rfl ?_
          refine gR7 dX7_likely_44 (by decide) rfl 7 (by decide) fl_RX7_56 rfl 49 rfl ?_
          refine st_iload_n dX7_likely_47 rfl rfl ?_
          refine st_iload_n dX7_likely_48 rfl rfl ?_
          refine st_iload_n dX7_likely_49 rfl rfl ?_
          refine st_iload dX7_likely_50 rfl ?_
          obtain ⟨q5, e_q5, h⟩ := bnd h
          refine st_callV [.int x1, .int x2, .int x3, .int x4] dX7_likely_52 co_X3_chance im_X3_chance se_X3_chance ml_RX7_288 rfl (by decide) rfl (rfl : classes[3]? = some (RX3, TX3, 5)) rfl (S := []) rfl (Nat.le_of_ble_eq_true rfl) (k_X3_chance (by omega) x1 x2 x3 x4 H _ e_q5 ?_)
          show V (D + 1) RX7 mdX7_likely 55 [.ref 0, .int x1, .int x2, .int x3, .int x4] [.long q5.1] q5.2 post
          obtain rfl := Option.some.inj h
          exact st_lret dX7_likely_55 rfl hp
        · replace h := (if_pos c9).symm.trans h
          refine st_ldc2 dX7_likely_39 cl_RX7_286 ?_
          obtain rfl := Option.some.inj h
          exact st_lret dX7_likely_42 rfl hp
def f_X3_redraw (x1 : Int64) (H : Hp) : Option (Hp) :=
  if (H 50 4) ≤ 0 then
    some H
  else
    if 0 < (H 50 3) then
      if (H 50 4).toInt64 = 0 then none else
      (ag H 53 20 (x1 - x1 / (H 50 4).toInt64 * (H 50 4).toInt64).toInt32).bind fun v1 =>
      (ag H 52 10 v1).bind fun v2 =>
      (ag H 54 20 (x1 - x1 / (H 50 4).toInt64 * (H 50 4).toInt64).toInt32).bind fun v3 =>
      (ag H 55 20 (x1 - x1 / (H 50 4).toInt64 * (H 50 4).toInt64).toInt32).bind fun v4 =>
      (f_X2_add v2 v3 (-v4) H).bind fun H5 =>
      (as H5 53 20 (x1 - x1 / (H 50 4).toInt64 * (H 50 4).toInt64).toInt32 ((x1 / 32) - (x1 / 32) / 10 * 10).toInt32).bind fun H6 =>
      if (H6 50 3).toInt64 = 0 then none else
      (as H6 54 20 (x1 - x1 / (H 50 4).toInt64 * (H 50 4).toInt64).toInt32 ((x1 / 512) - (x1 / 512) / (H6 50 3).toInt64 * (H6 50 3).toInt64).toInt32).bind fun H7 =>
      (as H7 55 20 (x1 - x1 / (H 50 4).toInt64 * (H 50 4).toInt64).toInt32 (((x1 / 4096) - (x1 / 4096) / 99 * 99).toInt32 + 1)).bind fun H8 =>
      (ag H8 53 20 (x1 - x1 / (H 50 4).toInt64 * (H 50 4).toInt64).toInt32).bind fun v9 =>
      (ag H8 52 10 v9).bind fun v10 =>
      (ag H8 54 20 (x1 - x1 / (H 50 4).toInt64 * (H 50 4).toInt64).toInt32).bind fun v11 =>
      (ag H8 55 20 (x1 - x1 / (H 50 4).toInt64 * (H 50 4).toInt64).toInt32).bind fun v12 =>
      (f_X2_add v10 v11 v12 H8).bind fun H13 =>
      some H13
    else
      some H
set_option maxHeartbeats 4000000 in
set_option maxRecDepth 100000 in
theorem k_X3_redraw {D : Nat} (hD : 4 ≤ D) (x1 : Int64) (H : Hp) (q : Hp) (h : f_X3_redraw x1 H = some q) {post : Option Value → Hp → Prop} (hp : post none q) : Sem D mdX3_redraw [.ref 49, .long x1] H post := by
  obtain ⟨D, rfl⟩ : ∃ E, D = E + 1 := ⟨D - 1, by omega⟩
  refine sem_of (own := RX3) rfl pn_RX3 (Nat.le_of_ble_eq_true rfl) [.ref 49, .long x1, .null, .null] ⟨Or.inr rfl, Or.inr rfl, Or.inl rfl, rfl, trivial⟩ ?_
  unfold f_X3_redraw at h
  refine st_aload_n dX3_redraw_0 rfl rfl ?_
  refine gR3 dX3_redraw_1 (by decide) rfl 2 (by decide) fl_RX3_12 rfl 50 rfl ?_
  refine gI4 dX3_redraw_4 (by decide) rfl 4 (by decide) fl_RX3_153 rfl rfl ?_
  refine st_if_le dX3_redraw_7 20 (by decide) (fun c14 => ?_) (fun c14 => ?_)
  · replace h := (if_pos c14).symm.trans h
    obtain rfl := Option.some.inj h
    exact st_vret dX3_redraw_20 rfl hp
  · replace h := (if_neg c14).symm.trans h
    refine st_aload_n dX3_redraw_10 rfl rfl ?_
    refine gR3 dX3_redraw_11 (by decide) rfl 2 (by decide) fl_RX3_12 rfl 50 rfl ?_
    refine gI4 dX3_redraw_14 (by decide) rfl 3 (by decide) fl_RX3_57 rfl rfl ?_
    refine st_if_gt dX3_redraw_17 21 (by decide) (fun c15 => ?_) (fun c15 => ?_)
    · replace h := (if_pos c15).symm.trans h
      refine st_lload_n dX3_redraw_21 rfl rfl ?_
      refine st_aload_n dX3_redraw_22 rfl rfl ?_
      refine gR3 dX3_redraw_23 (by decide) rfl 2 (by decide) fl_RX3_12 rfl 50 rfl ?_
      refine gI4 dX3_redraw_26 (by decide) rfl 4 (by decide) fl_RX3_153 rfl rfl ?_
      refine st_i2l dX3_redraw_29 ?_
      have n16 : ¬ (H 50 4).toInt64 = 0 := fun z => by rw [if_pos z] at h; cases h
      replace h := (if_neg n16).symm.trans h
      refine st_lrem dX3_redraw_30 n16 ?_
      refine st_l2i dX3_redraw_31 ?_
      refine st_istore_n dX3_redraw_32 rfl (by decide) [.ref 49, .long x1, .null, .int (x1 - x1 / (H 50 4).toInt64 * (H 50 4).toInt64).toInt32] rfl ?_
      refine st_aload_n dX3_redraw_33 rfl rfl ?_
      refine gR3 dX3_redraw_34 (by decide) rfl 1 (by decide) fl_RX3_28 rfl 38 rfl ?_
      refine st_aload_n dX3_redraw_37 rfl rfl ?_
      refine gR3 dX3_redraw_38 (by decide) rfl 2 (by decide) fl_RX3_12 rfl 50 rfl ?_
      refine gR4 dX3_redraw_41 (by decide) rfl 6 (by decide) fl_RX3_38 rfl 52 rfl ?_
      refine st_aload_n dX3_redraw_44 rfl rfl ?_
      refine gR3 dX3_redraw_45 (by decide) rfl 2 (by decide) fl_RX3_12 rfl 50 rfl ?_
      refine gR4 dX3_redraw_48 (by decide) rfl 7 (by decide) fl_RX3_114 rfl 53 rfl ?_
      refine st_iload_n dX3_redraw_51 rfl rfl ?_
      obtain ⟨v1, e_v1, h⟩ := bnd h
      refine st_iald dX3_redraw_52 (by decide) rfl v1 e_v1 ?_
      obtain ⟨v2, e_v2, h⟩ := bnd h
      refine st_iald dX3_redraw_53 (by decide) rfl v2 e_v2 ?_
      refine st_aload_n dX3_redraw_54 rfl rfl ?_
      refine gR3 dX3_redraw_55 (by decide) rfl 2 (by decide) fl_RX3_12 rfl 50 rfl ?_
      refine gR4 dX3_redraw_58 (by decide) rfl 8 (by decide) fl_RX3_117 rfl 54 rfl ?_
      refine st_iload_n dX3_redraw_61 rfl rfl ?_
      obtain ⟨v3, e_v3, h⟩ := bnd h
      refine st_iald dX3_redraw_62 (by decide) rfl v3 e_v3 ?_
      refine st_aload_n dX3_redraw_63 rfl rfl ?_
      refine gR3 dX3_redraw_64 (by decide) rfl 2 (by decide) fl_RX3_12 rfl 50 rfl ?_
      refine gR4 dX3_redraw_67 (by decide) rfl 9 (by decide) fl_RX3_120 rfl 55 rfl ?_
      refine st_iload_n dX3_redraw_70 rfl rfl ?_
      obtain ⟨v4, e_v4, h⟩ := bnd h
      refine st_iald dX3_redraw_71 (by decide) rfl v4 e_v4 ?_
      refine st_ineg dX3_redraw_72 ?_
      obtain ⟨H5, e_H5, h⟩ := bnd h
      refine st_callV [.int v2, .int v3, .int (-v4)] dX3_redraw_73 co_X2_add im_X2_add se_X2_add ml_RX3_41 rfl (by decide) rfl (rfl : classes[2]? = some (RX2, TX2, 15)) rfl (S := []) rfl (Nat.le_of_ble_eq_true rfl) (k_X2_add (by omega) v2 v3 (-v4) H _ e_H5 ?_)
      show V (D + 1) RX3 mdX3_redraw 76 [.ref 49, .long x1, .null, .int (x1 - x1 / (H 50 4).toInt64 * (H 50 4).toInt64).toInt32] [] H5 post
      refine st_aload_n dX3_redraw_76 rfl rfl ?_
      refine gR3 dX3_redraw_77 (by decide) rfl 2 (by decide) fl_RX3_12 rfl 50 rfl ?_
      refine gR4 dX3_redraw_80 (by decide) rfl 7 (by decide) fl_RX3_114 rfl 53 rfl ?_
      refine st_iload_n dX3_redraw_83 rfl rfl ?_
      refine st_lload_n dX3_redraw_84 rfl rfl ?_
      refine st_ldc2 dX3_redraw_85 cl_RX3_156 ?_
      refine st_ldiv dX3_redraw_88 (by decide) ?_
      refine st_ldc2 dX3_redraw_89 cl_RX3_127 ?_
      refine st_lrem dX3_redraw_92 (by decide) ?_
      refine st_l2i dX3_redraw_93 ?_
      obtain ⟨H6, e_H6, h⟩ := bnd h
      refine st_iast dX3_redraw_94 (by decide) rfl H6 e_H6 ?_
      refine st_aload_n dX3_redraw_95 rfl rfl ?_
      refine gR3 dX3_redraw_96 (by decide) rfl 2 (by decide) fl_RX3_12 rfl 50 rfl ?_
      refine gR4 dX3_redraw_99 (by decide) rfl 8 (by decide) fl_RX3_117 rfl 54 rfl ?_
      refine st_iload_n dX3_redraw_102 rfl rfl ?_
      refine st_lload_n dX3_redraw_103 rfl rfl ?_
      refine st_ldc2 dX3_redraw_104 cl_RX3_158 ?_
      refine st_ldiv dX3_redraw_107 (by decide) ?_
      refine st_aload_n dX3_redraw_108 rfl rfl ?_
      refine gR3 dX3_redraw_109 (by decide) rfl 2 (by decide) fl_RX3_12 rfl 50 rfl ?_
      refine gI4 dX3_redraw_112 (by decide) rfl 3 (by decide) fl_RX3_57 rfl rfl ?_
      refine st_i2l dX3_redraw_115 ?_
      have n17 : ¬ (H6 50 3).toInt64 = 0 := fun z => by rw [if_pos z] at h; cases h
      replace h := (if_neg n17).symm.trans h
      refine st_lrem dX3_redraw_116 n17 ?_
      refine st_l2i dX3_redraw_117 ?_
      obtain ⟨H7, e_H7, h⟩ := bnd h
      refine st_iast dX3_redraw_118 (by decide) rfl H7 e_H7 ?_
      refine st_aload_n dX3_redraw_119 rfl rfl ?_
      refine gR3 dX3_redraw_120 (by decide) rfl 2 (by decide) fl_RX3_12 rfl 50 rfl ?_
      refine gR4 dX3_redraw_123 (by decide) rfl 9 (by decide) fl_RX3_120 rfl 55 rfl ?_
      refine st_iload_n dX3_redraw_126 rfl rfl ?_
      refine st_lload_n dX3_redraw_127 rfl rfl ?_
      refine st_ldc2 dX3_redraw_128 cl_RX3_160 ?_
      refine st_ldiv dX3_redraw_131 (by decide) ?_
      refine st_ldc2 dX3_redraw_132 cl_RX3_162 ?_
      refine st_lrem dX3_redraw_135 (by decide) ?_
      refine st_l2i dX3_redraw_136 ?_
      refine st_iconst dX3_redraw_137 (v := 1) rfl ?_
      refine st_iadd dX3_redraw_138 ?_
      obtain ⟨H8, e_H8, h⟩ := bnd h
      refine st_iast dX3_redraw_139 (by decide) rfl H8 e_H8 ?_
      refine st_aload_n dX3_redraw_140 rfl rfl ?_
      refine gR3 dX3_redraw_141 (by decide) rfl 1 (by decide) fl_RX3_28 rfl 38 rfl ?_
      refine st_aload_n dX3_redraw_144 rfl rfl ?_
      refine gR3 dX3_redraw_145 (by decide) rfl 2 (by decide) fl_RX3_12 rfl 50 rfl ?_
      refine gR4 dX3_redraw_148 (by decide) rfl 6 (by decide) fl_RX3_38 rfl 52 rfl ?_
      refine st_aload_n dX3_redraw_151 rfl rfl ?_
      refine gR3 dX3_redraw_152 (by decide) rfl 2 (by decide) fl_RX3_12 rfl 50 rfl ?_
      refine gR4 dX3_redraw_155 (by decide) rfl 7 (by decide) fl_RX3_114 rfl 53 rfl ?_
      refine st_iload_n dX3_redraw_158 rfl rfl ?_
      obtain ⟨v9, e_v9, h⟩ := bnd h
      refine st_iald dX3_redraw_159 (by decide) rfl v9 e_v9 ?_
      obtain ⟨v10, e_v10, h⟩ := bnd h
      refine st_iald dX3_redraw_160 (by decide) rfl v10 e_v10 ?_
      refine st_aload_n dX3_redraw_161 rfl rfl ?_
      refine gR3 dX3_redraw_162 (by decide) rfl 2 (by decide) fl_RX3_12 rfl 50 rfl ?_
      refine gR4 dX3_redraw_165 (by decide) rfl 8 (by decide) fl_RX3_117 rfl 54 rfl ?_
      refine st_iload_n dX3_redraw_168 rfl rfl ?_
      obtain ⟨v11, e_v11, h⟩ := bnd h
      refine st_iald dX3_redraw_169 (by decide) rfl v11 e_v11 ?_
      refine st_aload_n dX3_redraw_170 rfl rfl ?_
      refine gR3 dX3_redraw_171 (by decide) rfl 2 (by decide) fl_RX3_12 rfl 50 rfl ?_
      refine gR4 dX3_redraw_174 (by decide) rfl 9 (by decide) fl_RX3_120 rfl 55 rfl ?_
      refine st_iload_n dX3_redraw_177 rfl rfl ?_
      obtain ⟨v12, e_v12, h⟩ := bnd h
      refine st_iald dX3_redraw_178 (by decide) rfl v12 e_v12 ?_
      obtain ⟨H13, e_H13, h⟩ := bnd h
      refine st_callV [.int v10, .int v11, .int v12] dX3_redraw_179 co_X2_add im_X2_add se_X2_add ml_RX3_41 rfl (by decide) rfl (rfl : classes[2]? = some (RX2, TX2, 15)) rfl (S := []) rfl (Nat.le_of_ble_eq_true rfl) (k_X2_add (by omega) v10 v11 v12 H8 _ e_H13 ?_)
      show V (D + 1) RX3 mdX3_redraw 182 [.ref 49, .long x1, .null, .int (x1 - x1 / (H 50 4).toInt64 * (H 50 4).toInt64).toInt32] [] H13 post
      obtain rfl := Option.some.inj h
      exact st_vret dX3_redraw_182 rfl hp
    · replace h := (if_neg c15).symm.trans h
      obtain rfl := Option.some.inj h
      exact st_vret dX3_redraw_20 rfl hp
def f_X3_years_l39 (x1 : Int32) : Nat → Int32 → Int64 → Int32 → Hp → Option (Int32 × Hp)
  | 0, _, _, _, _ => none
  | n + 1, x4, x5, x7, H =>
    if x1 ≤ x7 then
      some (x4, H)
    else
      (f_X3_redraw ((x5 * 16807) - (x5 * 16807) / 2147483647 * 2147483647) H).bind fun H4 =>
      (f_X2_settle H4).bind fun H5 =>
      (f_X2_allPaid H5).bind fun v6 =>
      f_X3_years_l39 x1 n (x4 + v6) ((x5 * 16807) - (x5 * 16807) / 2147483647 * 2147483647) (x7 + 1) H5
def f_X3_years (x1 : Int32) (x2 : Int32) (x3 : Int32) (H : Hp) : Option (Int32 × Hp) :=
  (f_X4_becomeLike 50 7 H).bind fun H1 =>
  (f_X2_load H1).bind fun H2 =>
  (f_X2_settle H2).bind fun H3 =>
  (f_X3_years_l39 x1 fuel 0 x2.toInt64 0 H3).bind fun l8 =>
  some ((if x3 = 0 then l8.1 else (l8.2 38 14)), l8.2)
set_option maxHeartbeats 4000000 in
set_option maxRecDepth 100000 in
theorem k_X3_years_l39 {D : Nat} (hD : 5 ≤ (D + 1)) (x1 : Int32) (x3 : Int32) {post : Option Value → Hp → Prop} : ∀ (n : Nat) (x4 : Int32) (x5 : Int64) (x7 : Int32) (H : Hp) (q : Int32 × Hp), f_X3_years_l39 x1 n x4 x5 x7 H = some q → V (D + 1) RX3 mdX3_years 88 [.ref 49, .null, .null, .int x3, .int q.1, .null, .null, .null] [] q.2 post → V (D + 1) RX3 mdX3_years 39 [.ref 49, .int x1, .null, .int x3, .int x4, .long x5, .null, .int x7] [] H post := by
  intro n
  induction n with
  | zero => intro x4 x5 x7 H q h; simp [f_X3_years_l39] at h
  | succ n ih =>
    intro x4 x5 x7 H q h k1
    rw [f_X3_years_l39] at h
    refine st_iload dX3_years_39 rfl ?_
    refine st_iload_n dX3_years_41 rfl rfl ?_
    refine st_ic_ge dX3_years_42 88 (by decide) (fun c7 => ?_) (fun c7 => ?_)
    · replace h := (if_pos c7).symm.trans h
      obtain rfl := Option.some.inj h
      exact st_sub [.ref 49, .null, .null, .int x3, .int x4, .null, .null, .null] ⟨Or.inr rfl, Or.inl rfl, Or.inl rfl, Or.inr rfl, Or.inr rfl, Or.inl rfl, Or.inl rfl, Or.inl rfl, trivial⟩ k1
    · replace h := (if_neg c7).symm.trans h
      refine st_lload dX3_years_45 rfl ?_
      refine st_ldc2 dX3_years_47 cl_RX3_138 ?_
      refine st_lmul dX3_years_50 ?_
      refine st_ldc2 dX3_years_51 cl_RX3_140 ?_
      refine st_lrem dX3_years_54 (by decide) ?_
      refine st_lstore dX3_years_55 (by decide) [.ref 49, .int x1, .null, .int x3, .int x4, .long ((x5 * 16807) - (x5 * 16807) / 2147483647 * 2147483647), .null, .int x7] rfl ?_
      refine st_aload_n dX3_years_57 rfl rfl ?_
      refine st_lload dX3_years_58 rfl ?_
      obtain ⟨H4, e_H4, h⟩ := bnd h
      refine st_callV [.long ((x5 * 16807) - (x5 * 16807) / 2147483647 * 2147483647)] dX3_years_60 co_X3_redraw im_X3_redraw se_X3_redraw ml_RX3_142 rfl (by decide) rfl (rfl : classes[3]? = some (RX3, TX3, 5)) rfl (S := []) rfl (Nat.le_of_ble_eq_true rfl) (k_X3_redraw (by omega) ((x5 * 16807) - (x5 * 16807) / 2147483647 * 2147483647) H _ e_H4 ?_)
      show V (D + 1) RX3 mdX3_years 63 [.ref 49, .int x1, .null, .int x3, .int x4, .long ((x5 * 16807) - (x5 * 16807) / 2147483647 * 2147483647), .null, .int x7] [] H4 post
      refine st_aload_n dX3_years_63 rfl rfl ?_
      refine gR3 dX3_years_64 (by decide) rfl 1 (by decide) fl_RX3_28 rfl 38 rfl ?_
      obtain ⟨H5, e_H5, h⟩ := bnd h
      refine st_callV [] dX3_years_67 co_X2_settle im_X2_settle se_X2_settle ml_RX3_45 rfl (by decide) rfl (rfl : classes[2]? = some (RX2, TX2, 15)) rfl (S := []) rfl (Nat.le_of_ble_eq_true rfl) (k_X2_settle (by omega) H4 _ e_H5 ?_)
      show V (D + 1) RX3 mdX3_years 70 [.ref 49, .int x1, .null, .int x3, .int x4, .long ((x5 * 16807) - (x5 * 16807) / 2147483647 * 2147483647), .null, .int x7] [] H5 post
      refine st_iload dX3_years_70 rfl ?_
      refine st_aload_n dX3_years_72 rfl rfl ?_
      refine gR3 dX3_years_73 (by decide) rfl 1 (by decide) fl_RX3_28 rfl 38 rfl ?_
      obtain ⟨v6, e_v6, h⟩ := bnd h
      refine st_callV [] dX3_years_76 co_X2_allPaid im_X2_allPaid se_X2_allPaid ml_RX3_146 rfl (by decide) rfl (rfl : classes[2]? = some (RX2, TX2, 15)) rfl (S := [.int x4]) rfl (Nat.le_of_ble_eq_true rfl) (k_X2_allPaid (by omega) H5 _ e_v6 ?_)
      show V (D + 1) RX3 mdX3_years 79 [.ref 49, .int x1, .null, .int x3, .int x4, .long ((x5 * 16807) - (x5 * 16807) / 2147483647 * 2147483647), .null, .int x7] [.int v6, .int x4] H5 post
      refine st_iadd dX3_years_79 ?_
      refine st_istore dX3_years_80 (by decide) [.ref 49, .int x1, .null, .int x3, .int (x4 + v6), .long ((x5 * 16807) - (x5 * 16807) / 2147483647 * 2147483647), .null, .int x7] rfl ?_
      refine st_iinc dX3_years_82 rfl (v := (x7 + 1)) rfl (by decide) [.ref 49, .int x1, .null, .int x3, .int (x4 + v6), .long ((x5 * 16807) - (x5 * 16807) / 2147483647 * 2147483647), .null, .int (x7 + 1)] rfl ?_
      refine st_goto dX3_years_85 39 (by decide) ?_
      exact ih (x4 + v6) ((x5 * 16807) - (x5 * 16807) / 2147483647 * 2147483647) (x7 + 1) H5 q h k1
set_option maxHeartbeats 4000000 in
set_option maxRecDepth 100000 in
theorem k_X3_years {D : Nat} (hD : 5 ≤ D) (x1 : Int32) (x2 : Int32) (x3 : Int32) (H : Hp) (q : Int32 × Hp) (h : f_X3_years x1 x2 x3 H = some q) {post : Option Value → Hp → Prop} (hp : post (some (.int q.1)) q.2) : Sem D mdX3_years [.ref 49, .int x1, .int x2, .int x3] H post := by
  obtain ⟨D, rfl⟩ : ∃ E, D = E + 1 := ⟨D - 1, by omega⟩
  refine sem_of (own := RX3) rfl pn_RX3 (Nat.le_of_ble_eq_true rfl) [.ref 49, .int x1, .int x2, .int x3, .null, .null, .null, .null] ⟨Or.inr rfl, Or.inr rfl, Or.inr rfl, Or.inr rfl, rfl, rfl, rfl, rfl, trivial⟩ ?_
  unfold f_X3_years at h
  refine st_iconst dX3_years_0 (v := 0) rfl ?_
  refine st_istore dX3_years_1 (by decide) [.ref 49, .int x1, .int x2, .int x3, .int 0, .null, .null, .null] rfl ?_
  refine st_iload_n dX3_years_3 rfl rfl ?_
  refine st_i2l dX3_years_4 ?_
  refine st_lstore dX3_years_5 (by decide) [.ref 49, .int x1, .int x2, .int x3, .int 0, .long x2.toInt64, .null, .null] rfl ?_
  refine st_aload_n dX3_years_7 rfl rfl ?_
  refine gR3 dX3_years_8 (by decide) rfl 2 (by decide) fl_RX3_12 rfl 50 rfl ?_
  refine st_aload_n dX3_years_11 rfl rfl ?_
  refine gR3 dX3_years_12 (by decide) rfl 0 (by decide) fl_RX3_25 rfl 7 rfl ?_
  obtain ⟨H1, e_H1, h⟩ := bnd h
  refine st_callV [.ref 7] dX3_years_15 co_X4_becomeLike im_X4_becomeLike se_X4_becomeLike ml_RX3_135 rfl (by decide) rfl (rfl : classes[4]? = some (RX4, TX4, 10)) rfl (S := []) rfl (Nat.le_of_ble_eq_true rfl) (k_X4_becomeLike (by omega) FC50 FC7 H _ e_H1 ?_)
  show V (D + 1) RX3 mdX3_years 18 [.ref 49, .int x1, .int x2, .int x3, .int 0, .long x2.toInt64, .null, .null] [] H1 post
  refine st_aload_n dX3_years_18 rfl rfl ?_
  refine gR3 dX3_years_19 (by decide) rfl 1 (by decide) fl_RX3_28 rfl 38 rfl ?_
  refine st_aload_n dX3_years_22 rfl rfl ?_
  refine gR3 dX3_years_23 (by decide) rfl 0 (by decide) fl_RX3_25 rfl 7 rfl ?_
  obtain ⟨H2, e_H2, h⟩ := bnd h
  refine st_callV [.ref 7] dX3_years_26 co_X2_load im_X2_load se_X2_load ml_RX3_32 rfl (by decide) rfl (rfl : classes[2]? = some (RX2, TX2, 15)) rfl (S := []) rfl (Nat.le_of_ble_eq_true rfl) (k_X2_load (by omega) H1 _ e_H2 ?_)
  show V (D + 1) RX3 mdX3_years 29 [.ref 49, .int x1, .int x2, .int x3, .int 0, .long x2.toInt64, .null, .null] [] H2 post
  refine st_aload_n dX3_years_29 rfl rfl ?_
  refine gR3 dX3_years_30 (by decide) rfl 1 (by decide) fl_RX3_28 rfl 38 rfl ?_
  obtain ⟨H3, e_H3, h⟩ := bnd h
  refine st_callV [] dX3_years_33 co_X2_settle im_X2_settle se_X2_settle ml_RX3_45 rfl (by decide) rfl (rfl : classes[2]? = some (RX2, TX2, 15)) rfl (S := []) rfl (Nat.le_of_ble_eq_true rfl) (k_X2_settle (by omega) H2 _ e_H3 ?_)
  show V (D + 1) RX3 mdX3_years 36 [.ref 49, .int x1, .int x2, .int x3, .int 0, .long x2.toInt64, .null, .null] [] H3 post
  refine st_iconst dX3_years_36 (v := 0) rfl ?_
  refine st_istore dX3_years_37 (by decide) [.ref 49, .int x1, .int x2, .int x3, .int 0, .long x2.toInt64, .null, .int 0] rfl ?_
  refine st_sub [.ref 49, .int x1, .null, .int x3, .int 0, .long x2.toInt64, .null, .int 0] ⟨Or.inr rfl, Or.inr rfl, Or.inl rfl, Or.inr rfl, Or.inr rfl, Or.inr rfl, Or.inl rfl, Or.inr rfl, trivial⟩ ?_
  obtain ⟨l8, e_l8, h⟩ := bnd h
  refine k_X3_years_l39 (by omega) x1 x3 fuel 0 x2.toInt64 0 H3 _ e_l8 ?_
  refine st_iload_n dX3_years_88 rfl rfl ?_
  have kj10 : ∀ z9 : Int32, z9 = (if x3 = 0 then l8.1 else (l8.2 38 14)) → V (D + 1) RX3 mdX3_years 104 [.null, .null, .null, .null, .null, .null, .null, .null] [.int z9] l8.2 post := by
    intro z9 ez9
    subst ez9
    obtain rfl := Option.some.inj h
    exact st_iret dX3_years_104 rfl hp
  refine st_if_ne dX3_years_89 97 (by decide) (fun c11 => ?_) (fun c11 => ?_)
  · refine st_aload_n dX3_years_97 rfl rfl ?_
    refine gR3 dX3_years_98 (by decide) rfl 1 (by decide) fl_RX3_28 rfl 38 rfl ?_
    refine gI2 dX3_years_101 (by decide) rfl 14 (by decide) fl_RX3_150 rfl rfl ?_
    exact st_sub [.null, .null, .null, .null, .null, .null, .null, .null] ⟨Or.inl rfl, Or.inl rfl, Or.inl rfl, Or.inl rfl, Or.inl rfl, Or.inl rfl, Or.inl rfl, Or.inl rfl, trivial⟩ (kj10 _ (Eq.symm (if_neg c11)))
  · refine st_iload dX3_years_92 rfl ?_
    refine st_goto dX3_years_94 104 (by decide) ?_
    exact st_sub [.null, .null, .null, .null, .null, .null, .null, .null] ⟨Or.inl rfl, Or.inl rfl, Or.inl rfl, Or.inl rfl, Or.inl rfl, Or.inl rfl, Or.inl rfl, Or.inl rfl, trivial⟩ (kj10 _ (Eq.symm (if_pos c11)))
def f_X7_drawn (x1 : Int32) (x2 : Int32) (x3 : Int32) (H : Hp) : Option (Int32 × Hp) :=
  if (H 7 0) = 0 then
    some ((-1000002), H)
  else
    (f_X7_within x1 0 60).bind fun v1 =>
    if v1 = 0 then
      some ((-1000001), H)
    else
      (f_X7_within x2 1 999999).bind fun v2 =>
      if v2 = 0 then
        some ((-1000001), H)
      else
        (f_X7_within x3 0 1).bind fun v3 =>
        if v3 = 0 then
          some ((-1000001), H)
        else
          (f_X3_years x1 x2 x3 H).bind fun q4 =>
          some (q4.1, q4.2)
set_option maxHeartbeats 4000000 in
set_option maxRecDepth 100000 in
theorem k_X7_drawn {D : Nat} (hD : 6 ≤ D) (x1 : Int32) (x2 : Int32) (x3 : Int32) (H : Hp) (q : Int32 × Hp) (h : f_X7_drawn x1 x2 x3 H = some q) {post : Option Value → Hp → Prop} (hp : post (some (.int q.1)) q.2) : Sem D mdX7_drawn [.ref 0, .int x1, .int x2, .int x3] H post := by
  obtain ⟨D, rfl⟩ : ∃ E, D = E + 1 := ⟨D - 1, by omega⟩
  refine sem_of (own := RX7) rfl pn_RX7 (Nat.le_of_ble_eq_true rfl) [.ref 0, .int x1, .int x2, .int x3] ⟨Or.inr rfl, Or.inr rfl, Or.inr rfl, Or.inr rfl, trivial⟩ ?_
  unfold f_X7_drawn at h
  refine st_aload_n dX7_drawn_0 rfl rfl ?_
  refine gR7 dX7_drawn_1 (by decide) rfl 2 (by decide) fl_RX7_26 rfl 7 rfl ?_
  refine gI4 dX7_drawn_4 (by decide) rfl 0 (by decide) fl_RX7_181 rfl rfl ?_
  refine st_if_ne dX7_drawn_7 13 (by decide) (fun c5 => ?_) (fun c5 => ?_)
  · replace h := (if_neg c5).symm.trans h
    refine st_iload_n dX7_drawn_13 rfl rfl ?_
    refine st_iconst dX7_drawn_14 (v := 0) rfl ?_
    refine st_bipush dX7_drawn_15 (v := 60) (by decide) ?_
    obtain ⟨v1, e_v1, h⟩ := bnd h
    refine st_callS [.int x1, .int 0, .int 60] dX7_drawn_17 co_X7_within sm_X7_within ml_RX7_73 rfl (S := []) rfl (Nat.le_of_ble_eq_true rfl) (k_X7_within (by omega) x1 0 60 H _ e_v1 ?_)
    show V (D + 1) RX7 mdX7_drawn 20 [.ref 0, .int x1, .int x2, .int x3] [.int v1] H post
    refine st_if_eq dX7_drawn_20 43 (by decide) (fun c6 => ?_) (fun c6 => ?_)
    · replace h := (if_pos c6).symm.trans h
      refine st_ldc dX7_drawn_43 cn_RX7_77 ?_
      obtain rfl := Option.some.inj h
      exact st_iret dX7_drawn_45 rfl hp
    · replace h := (if_neg c6).symm.trans h
      refine st_iload_n dX7_drawn_23 rfl rfl ?_
      refine st_iconst dX7_drawn_24 (v := 1) rfl ?_
      refine st_ldcw dX7_drawn_25 cn_RX7_292 ?_
      obtain ⟨v2, e_v2, h⟩ := bnd h
      refine st_callS [.int x2, .int 1, .int 999999] dX7_drawn_28 co_X7_within sm_X7_within ml_RX7_73 rfl (S := []) rfl (Nat.le_of_ble_eq_true rfl) (k_X7_within (by omega) x2 1 999999 H _ e_v2 ?_)
      show V (D + 1) RX7 mdX7_drawn 31 [.ref 0, .int x1, .int x2, .int x3] [.int v2] H post
      refine st_if_eq dX7_drawn_31 43 (by decide) (fun c7 => ?_) (fun c7 => ?_)
      · replace h := (if_pos c7).symm.trans h
        refine st_ldc dX7_drawn_43 cn_RX7_77 ?_
        obtain rfl := Option.some.inj h
        exact st_iret dX7_drawn_45 rfl hp
      · replace h := (if_neg c7).symm.trans h
        refine st_iload_n dX7_drawn_34 rfl rfl ?_
        refine st_iconst dX7_drawn_35 (v := 0) rfl ?_
        refine st_iconst dX7_drawn_36 (v := 1) rfl ?_
        obtain ⟨v3, e_v3, h⟩ := bnd h
        refine st_callS [.int x3, .int 0, .int 1] dX7_drawn_37 co_X7_within sm_X7_within ml_RX7_73 rfl (S := []) rfl (Nat.le_of_ble_eq_true rfl) (k_X7_within (by omega) x3 0 1 H _ e_v3 ?_)
        show V (D + 1) RX7 mdX7_drawn 40 [.ref 0, .int x1, .int x2, .int x3] [.int v3] H post
        refine st_if_ne dX7_drawn_40 46 (by decide) (fun c8 => ?_) (fun c8 => ?_)
        · replace h := (if_neg c8).symm.trans h
          refine st_aload_n dX7_drawn_46 rfl rfl ?_
          refine gR7 dX7_drawn_47 (by decide) rfl 7 (by decide) fl_RX7_56 rfl 49 rfl ?_
          refine st_iload_n dX7_drawn_50 rfl rfl ?_
          refine st_iload_n dX7_drawn_51 rfl rfl ?_
          refine st_iload_n dX7_drawn_52 rfl rfl ?_
          obtain ⟨q4, e_q4, h⟩ := bnd h
          refine st_callV [.int x1, .int x2, .int x3] dX7_drawn_53 co_X3_years im_X3_years se_X3_years ml_RX7_293 rfl (by decide) rfl (rfl : classes[3]? = some (RX3, TX3, 5)) rfl (S := []) rfl (Nat.le_of_ble_eq_true rfl) (k_X3_years (by omega) x1 x2 x3 H _ e_q4 ?_)
          show V (D + 1) RX7 mdX7_drawn 56 [.ref 0, .int x1, .int x2, .int x3] [.int q4.1] q4.2 post
          obtain rfl := Option.some.inj h
          exact st_iret dX7_drawn_56 rfl hp
        · replace h := (if_pos c8).symm.trans h
          refine st_ldc dX7_drawn_43 cn_RX7_77 ?_
          obtain rfl := Option.some.inj h
          exact st_iret dX7_drawn_45 rfl hp
  · replace h := (if_pos c5).symm.trans h
    refine st_ldc dX7_drawn_10 cn_RX7_145 ?_
    obtain rfl := Option.some.inj h
    exact st_iret dX7_drawn_12 rfl hp
def f_X7_image (x1 : Int32) (H : Hp) : Option (Int32 × Hp) :=
  (f_X7_within x1 0 1).bind fun v1 =>
  if v1 = 0 then
    some ((-1000001), H)
  else
    if (H 7 0) = 0 then
      some ((-1000002), H)
    else
      if x1 = 0 then
        (f_X4_becomeLike 20 7 H).bind fun H2 =>
        some (1, H2)
      else
      if x1 = 1 then
        (f_X4_becomeLike 26 7 H).bind fun H3 =>
        some (1, H3)
      else
        none
set_option maxHeartbeats 4000000 in
set_option maxRecDepth 100000 in
theorem k_X7_image {D : Nat} (hD : 2 ≤ D) (x1 : Int32) (H : Hp) (q : Int32 × Hp) (h : f_X7_image x1 H = some q) {post : Option Value → Hp → Prop} (hp : post (some (.int q.1)) q.2) : Sem D mdX7_image [.ref 0, .int x1] H post := by
  obtain ⟨D, rfl⟩ : ∃ E, D = E + 1 := ⟨D - 1, by omega⟩
  refine sem_of (own := RX7) rfl pn_RX7 (Nat.le_of_ble_eq_true rfl) [.ref 0, .int x1] ⟨Or.inr rfl, Or.inr rfl, trivial⟩ ?_
  unfold f_X7_image at h
  refine st_iload_n dX7_image_0 rfl rfl ?_
  refine st_iconst dX7_image_1 (v := 0) rfl ?_
  refine st_iconst dX7_image_2 (v := 1) rfl ?_
  obtain ⟨v1, e_v1, h⟩ := bnd h
  refine st_callS [.int x1, .int 0, .int 1] dX7_image_3 co_X7_within sm_X7_within ml_RX7_73 rfl (S := []) rfl (Nat.le_of_ble_eq_true rfl) (k_X7_within (by omega) x1 0 1 H _ e_v1 ?_)
  show V (D + 1) RX7 mdX7_image 6 [.ref 0, .int x1] [.int v1] H post
  refine st_if_ne dX7_image_6 12 (by decide) (fun c4 => ?_) (fun c4 => ?_)
  · replace h := (if_neg c4).symm.trans h
    refine st_aload_n dX7_image_12 rfl rfl ?_
    refine gR7 dX7_image_13 (by decide) rfl 2 (by decide) fl_RX7_26 rfl 7 rfl ?_
    refine gI4 dX7_image_16 (by decide) rfl 0 (by decide) fl_RX7_181 rfl rfl ?_
    refine st_if_ne dX7_image_19 25 (by decide) (fun c5 => ?_) (fun c5 => ?_)
    · replace h := (if_neg c5).symm.trans h
      refine st_aload_n dX7_image_25 rfl rfl ?_
      refine gR7 dX7_image_26 (by decide) rfl 4 (by decide) fl_RX7_33 rfl 19 rfl ?_
      refine st_iload_n dX7_image_29 rfl rfl ?_
      by_cases s6 : x1 = 0
      · replace h := (if_pos s6).symm.trans h
        refine st_aald dX7_image_30 (by decide) rfl (by rw [s6]; unfold vp_in; decide) 20 (by rw [s6] <;> rfl) ?_
        refine st_aload_n dX7_image_31 rfl rfl ?_
        refine gR7 dX7_image_32 (by decide) rfl 2 (by decide) fl_RX7_26 rfl 7 rfl ?_
        obtain ⟨H2, e_H2, h⟩ := bnd h
        refine st_callV [.ref 7] dX7_image_35 co_X4_becomeLike im_X4_becomeLike se_X4_becomeLike ml_RX7_132 rfl (by decide) rfl (rfl : classes[4]? = some (RX4, TX4, 10)) rfl (S := []) rfl (Nat.le_of_ble_eq_true rfl) (k_X4_becomeLike (by omega) FC20 FC7 H _ e_H2 ?_)
        show V (D + 1) RX7 mdX7_image 38 [.ref 0, .int x1] [] H2 post
        refine st_iconst dX7_image_38 (v := 1) rfl ?_
        obtain rfl := Option.some.inj h
        exact st_iret dX7_image_39 rfl hp
      · replace h := (if_neg s6).symm.trans h
        by_cases s7 : x1 = 1
        · replace h := (if_pos s7).symm.trans h
          refine st_aald dX7_image_30 (by decide) rfl (by rw [s7]; unfold vp_in; decide) 26 (by rw [s7] <;> rfl) ?_
          refine st_aload_n dX7_image_31 rfl rfl ?_
          refine gR7 dX7_image_32 (by decide) rfl 2 (by decide) fl_RX7_26 rfl 7 rfl ?_
          obtain ⟨H3, e_H3, h⟩ := bnd h
          refine st_callV [.ref 7] dX7_image_35 co_X4_becomeLike im_X4_becomeLike se_X4_becomeLike ml_RX7_132 rfl (by decide) rfl (rfl : classes[4]? = some (RX4, TX4, 10)) rfl (S := []) rfl (Nat.le_of_ble_eq_true rfl) (k_X4_becomeLike (by omega) FC26 FC7 H _ e_H3 ?_)
          show V (D + 1) RX7 mdX7_image 38 [.ref 0, .int x1] [] H3 post
          refine st_iconst dX7_image_38 (v := 1) rfl ?_
          obtain rfl := Option.some.inj h
          exact st_iret dX7_image_39 rfl hp
        · replace h := (if_neg s7).symm.trans h
          cases h
    · replace h := (if_pos c5).symm.trans h
      refine st_ldc dX7_image_22 cn_RX7_145 ?_
      obtain rfl := Option.some.inj h
      exact st_iret dX7_image_24 rfl hp
  · replace h := (if_pos c4).symm.trans h
    refine st_ldc dX7_image_9 cn_RX7_77 ?_
    obtain rfl := Option.some.inj h
    exact st_iret dX7_image_11 rfl hp
def f_X7_restore (x1 : Int32) (H : Hp) : Option (Int32 × Hp) :=
  (f_X7_within x1 0 1).bind fun v1 =>
  if v1 = 0 then
    some ((-1000001), H)
  else
    if x1 = 0 then
      if (H 20 0) = 0 then
        some ((-1000002), H)
      else
        if x1 = 0 then
          (f_X4_becomeLike 7 20 H).bind fun H2 =>
          (f_X0_forgetAll H2).bind fun H3 =>
          some (1, H3)
        else
        if x1 = 1 then
          (f_X4_becomeLike 7 26 H).bind fun H4 =>
          (f_X0_forgetAll H4).bind fun H5 =>
          some (1, H5)
        else
          none
    else
    if x1 = 1 then
      if (H 26 0) = 0 then
        some ((-1000002), H)
      else
        if x1 = 0 then
          (f_X4_becomeLike 7 20 H).bind fun H6 =>
          (f_X0_forgetAll H6).bind fun H7 =>
          some (1, H7)
        else
        if x1 = 1 then
          (f_X4_becomeLike 7 26 H).bind fun H8 =>
          (f_X0_forgetAll H8).bind fun H9 =>
          some (1, H9)
        else
          none
    else
      none
set_option maxHeartbeats 4000000 in
set_option maxRecDepth 100000 in
theorem k_X7_restore {D : Nat} (hD : 2 ≤ D) (x1 : Int32) (H : Hp) (q : Int32 × Hp) (h : f_X7_restore x1 H = some q) {post : Option Value → Hp → Prop} (hp : post (some (.int q.1)) q.2) : Sem D mdX7_restore [.ref 0, .int x1] H post := by
  obtain ⟨D, rfl⟩ : ∃ E, D = E + 1 := ⟨D - 1, by omega⟩
  refine sem_of (own := RX7) rfl pn_RX7 (Nat.le_of_ble_eq_true rfl) [.ref 0, .int x1] ⟨Or.inr rfl, Or.inr rfl, trivial⟩ ?_
  unfold f_X7_restore at h
  refine st_iload_n dX7_restore_0 rfl rfl ?_
  refine st_iconst dX7_restore_1 (v := 0) rfl ?_
  refine st_iconst dX7_restore_2 (v := 1) rfl ?_
  obtain ⟨v1, e_v1, h⟩ := bnd h
  refine st_callS [.int x1, .int 0, .int 1] dX7_restore_3 co_X7_within sm_X7_within ml_RX7_73 rfl (S := []) rfl (Nat.le_of_ble_eq_true rfl) (k_X7_within (by omega) x1 0 1 H _ e_v1 ?_)
  show V (D + 1) RX7 mdX7_restore 6 [.ref 0, .int x1] [.int v1] H post
  refine st_if_ne dX7_restore_6 12 (by decide) (fun c10 => ?_) (fun c10 => ?_)
  · replace h := (if_neg c10).symm.trans h
    refine st_aload_n dX7_restore_12 rfl rfl ?_
    refine gR7 dX7_restore_13 (by decide) rfl 4 (by decide) fl_RX7_33 rfl 19 rfl ?_
    refine st_iload_n dX7_restore_16 rfl rfl ?_
    by_cases s11 : x1 = 0
    · replace h := (if_pos s11).symm.trans h
      refine st_aald dX7_restore_17 (by decide) rfl (by rw [s11]; unfold vp_in; decide) 20 (by rw [s11] <;> rfl) ?_
      refine gI4 dX7_restore_18 (by decide) rfl 0 (by decide) fl_RX7_181 rfl rfl ?_
      refine st_if_ne dX7_restore_21 27 (by decide) (fun c12 => ?_) (fun c12 => ?_)
      · replace h := (if_neg c12).symm.trans h
        refine st_aload_n dX7_restore_27 rfl rfl ?_
        refine gR7 dX7_restore_28 (by decide) rfl 2 (by decide) fl_RX7_26 rfl 7 rfl ?_
        refine st_aload_n dX7_restore_31 rfl rfl ?_
        refine gR7 dX7_restore_32 (by decide) rfl 4 (by decide) fl_RX7_33 rfl 19 rfl ?_
        refine st_iload_n dX7_restore_35 rfl rfl ?_
        by_cases s13 : x1 = 0
        · replace h := (if_pos s13).symm.trans h
          refine st_aald dX7_restore_36 (by decide) rfl (by rw [s13]; unfold vp_in; decide) 20 (by rw [s13] <;> rfl) ?_
          obtain ⟨H2, e_H2, h⟩ := bnd h
          refine st_callV [.ref 20] dX7_restore_37 co_X4_becomeLike im_X4_becomeLike se_X4_becomeLike ml_RX7_132 rfl (by decide) rfl (rfl : classes[4]? = some (RX4, TX4, 10)) rfl (S := []) rfl (Nat.le_of_ble_eq_true rfl) (k_X4_becomeLike (by omega) FC7 FC20 H _ e_H2 ?_)
          show V (D + 1) RX7 mdX7_restore 40 [.ref 0, .int x1] [] H2 post
          refine st_aload_n dX7_restore_40 rfl rfl ?_
          refine gR7 dX7_restore_41 (by decide) rfl 5 (by decide) fl_RX7_40 rfl 32 rfl ?_
          obtain ⟨H3, e_H3, h⟩ := bnd h
          refine st_callV [] dX7_restore_44 co_X0_forgetAll im_X0_forgetAll se_X0_forgetAll ml_RX7_136 rfl (by decide) rfl (rfl : classes[0]? = some (RX0, TX0, 7)) rfl (S := []) rfl (Nat.le_of_ble_eq_true rfl) (k_X0_forgetAll (by omega) H2 _ e_H3 ?_)
          show V (D + 1) RX7 mdX7_restore 47 [.ref 0, .int x1] [] H3 post
          refine st_iconst dX7_restore_47 (v := 1) rfl ?_
          obtain rfl := Option.some.inj h
          exact st_iret dX7_restore_48 rfl hp
        · replace h := (if_neg s13).symm.trans h
          by_cases s14 : x1 = 1
          · replace h := (if_pos s14).symm.trans h
            refine st_aald dX7_restore_36 (by decide) rfl (by rw [s14]; unfold vp_in; decide) 26 (by rw [s14] <;> rfl) ?_
            obtain ⟨H4, e_H4, h⟩ := bnd h
            refine st_callV [.ref 26] dX7_restore_37 co_X4_becomeLike im_X4_becomeLike se_X4_becomeLike ml_RX7_132 rfl (by decide) rfl (rfl : classes[4]? = some (RX4, TX4, 10)) rfl (S := []) rfl (Nat.le_of_ble_eq_true rfl) (k_X4_becomeLike (by omega) FC7 FC26 H _ e_H4 ?_)
            show V (D + 1) RX7 mdX7_restore 40 [.ref 0, .int x1] [] H4 post
            refine st_aload_n dX7_restore_40 rfl rfl ?_
            refine gR7 dX7_restore_41 (by decide) rfl 5 (by decide) fl_RX7_40 rfl 32 rfl ?_
            obtain ⟨H5, e_H5, h⟩ := bnd h
            refine st_callV [] dX7_restore_44 co_X0_forgetAll im_X0_forgetAll se_X0_forgetAll ml_RX7_136 rfl (by decide) rfl (rfl : classes[0]? = some (RX0, TX0, 7)) rfl (S := []) rfl (Nat.le_of_ble_eq_true rfl) (k_X0_forgetAll (by omega) H4 _ e_H5 ?_)
            show V (D + 1) RX7 mdX7_restore 47 [.ref 0, .int x1] [] H5 post
            refine st_iconst dX7_restore_47 (v := 1) rfl ?_
            obtain rfl := Option.some.inj h
            exact st_iret dX7_restore_48 rfl hp
          · replace h := (if_neg s14).symm.trans h
            cases h
      · replace h := (if_pos c12).symm.trans h
        refine st_ldc dX7_restore_24 cn_RX7_145 ?_
        obtain rfl := Option.some.inj h
        exact st_iret dX7_restore_26 rfl hp
    · replace h := (if_neg s11).symm.trans h
      by_cases s15 : x1 = 1
      · replace h := (if_pos s15).symm.trans h
        refine st_aald dX7_restore_17 (by decide) rfl (by rw [s15]; unfold vp_in; decide) 26 (by rw [s15] <;> rfl) ?_
        refine gI4 dX7_restore_18 (by decide) rfl 0 (by decide) fl_RX7_181 rfl rfl ?_
        refine st_if_ne dX7_restore_21 27 (by decide) (fun c16 => ?_) (fun c16 => ?_)
        · replace h := (if_neg c16).symm.trans h
          refine st_aload_n dX7_restore_27 rfl rfl ?_
          refine gR7 dX7_restore_28 (by decide) rfl 2 (by decide) fl_RX7_26 rfl 7 rfl ?_
          refine st_aload_n dX7_restore_31 rfl rfl ?_
          refine gR7 dX7_restore_32 (by decide) rfl 4 (by decide) fl_RX7_33 rfl 19 rfl ?_
          refine st_iload_n dX7_restore_35 rfl rfl ?_
          by_cases s17 : x1 = 0
          · replace h := (if_pos s17).symm.trans h
            refine st_aald dX7_restore_36 (by decide) rfl (by rw [s17]; unfold vp_in; decide) 20 (by rw [s17] <;> rfl) ?_
            obtain ⟨H6, e_H6, h⟩ := bnd h
            refine st_callV [.ref 20] dX7_restore_37 co_X4_becomeLike im_X4_becomeLike se_X4_becomeLike ml_RX7_132 rfl (by decide) rfl (rfl : classes[4]? = some (RX4, TX4, 10)) rfl (S := []) rfl (Nat.le_of_ble_eq_true rfl) (k_X4_becomeLike (by omega) FC7 FC20 H _ e_H6 ?_)
            show V (D + 1) RX7 mdX7_restore 40 [.ref 0, .int x1] [] H6 post
            refine st_aload_n dX7_restore_40 rfl rfl ?_
            refine gR7 dX7_restore_41 (by decide) rfl 5 (by decide) fl_RX7_40 rfl 32 rfl ?_
            obtain ⟨H7, e_H7, h⟩ := bnd h
            refine st_callV [] dX7_restore_44 co_X0_forgetAll im_X0_forgetAll se_X0_forgetAll ml_RX7_136 rfl (by decide) rfl (rfl : classes[0]? = some (RX0, TX0, 7)) rfl (S := []) rfl (Nat.le_of_ble_eq_true rfl) (k_X0_forgetAll (by omega) H6 _ e_H7 ?_)
            show V (D + 1) RX7 mdX7_restore 47 [.ref 0, .int x1] [] H7 post
            refine st_iconst dX7_restore_47 (v := 1) rfl ?_
            obtain rfl := Option.some.inj h
            exact st_iret dX7_restore_48 rfl hp
          · replace h := (if_neg s17).symm.trans h
            by_cases s18 : x1 = 1
            · replace h := (if_pos s18).symm.trans h
              refine st_aald dX7_restore_36 (by decide) rfl (by rw [s18]; unfold vp_in; decide) 26 (by rw [s18] <;> rfl) ?_
              obtain ⟨H8, e_H8, h⟩ := bnd h
              refine st_callV [.ref 26] dX7_restore_37 co_X4_becomeLike im_X4_becomeLike se_X4_becomeLike ml_RX7_132 rfl (by decide) rfl (rfl : classes[4]? = some (RX4, TX4, 10)) rfl (S := []) rfl (Nat.le_of_ble_eq_true rfl) (k_X4_becomeLike (by omega) FC7 FC26 H _ e_H8 ?_)
              show V (D + 1) RX7 mdX7_restore 40 [.ref 0, .int x1] [] H8 post
              refine st_aload_n dX7_restore_40 rfl rfl ?_
              refine gR7 dX7_restore_41 (by decide) rfl 5 (by decide) fl_RX7_40 rfl 32 rfl ?_
              obtain ⟨H9, e_H9, h⟩ := bnd h
              refine st_callV [] dX7_restore_44 co_X0_forgetAll im_X0_forgetAll se_X0_forgetAll ml_RX7_136 rfl (by decide) rfl (rfl : classes[0]? = some (RX0, TX0, 7)) rfl (S := []) rfl (Nat.le_of_ble_eq_true rfl) (k_X0_forgetAll (by omega) H8 _ e_H9 ?_)
              show V (D + 1) RX7 mdX7_restore 47 [.ref 0, .int x1] [] H9 post
              refine st_iconst dX7_restore_47 (v := 1) rfl ?_
              obtain rfl := Option.some.inj h
              exact st_iret dX7_restore_48 rfl hp
            · replace h := (if_neg s18).symm.trans h
              cases h
        · replace h := (if_pos c16).symm.trans h
          refine st_ldc dX7_restore_24 cn_RX7_145 ?_
          obtain rfl := Option.some.inj h
          exact st_iret dX7_restore_26 rfl hp
      · replace h := (if_neg s15).symm.trans h
        cases h
  · replace h := (if_pos c10).symm.trans h
    refine st_ldc dX7_restore_9 cn_RX7_77 ?_
    obtain rfl := Option.some.inj h
    exact st_iret dX7_restore_11 rfl hp
def f_X7_kind (x1 : Int32) (H : Hp) : Option (Int32) :=
  (f_X7_isProject x1 H).bind fun v1 =>
  Option.bind (
    if v1 = 0 then
      some (-1000001)
    else
      (ag H 8 6 x1).bind fun v2 =>
      some v2) fun j3 =>
  some j3
set_option maxHeartbeats 4000000 in
set_option maxRecDepth 100000 in
theorem k_X7_kind {D : Nat} (hD : 1 ≤ D) (x1 : Int32) (H : Hp) (q : Int32) (h : f_X7_kind x1 H = some q) {post : Option Value → Hp → Prop} (hp : post (some (.int q)) H) : Sem D mdX7_kind [.ref 0, .int x1] H post := by
  obtain ⟨D, rfl⟩ : ∃ E, D = E + 1 := ⟨D - 1, by omega⟩
  refine sem_of (own := RX7) rfl pn_RX7 (Nat.le_of_ble_eq_true rfl) [.ref 0, .int x1] ⟨Or.inr rfl, Or.inr rfl, trivial⟩ ?_
  unfold f_X7_kind at h
  refine st_aload_n dX7_kind_0 rfl rfl ?_
  refine st_iload_n dX7_kind_1 rfl rfl ?_
  obtain ⟨v1, e_v1, h⟩ := bnd h
  refine st_callV [.int x1] dX7_kind_2 co_X7_isProject im_X7_isProject se_X7_isProject ml_RX7_152 rfl (by decide) rfl (rfl : classes[7]? = some (RX7, TX7, 11)) rfl (S := []) rfl (Nat.le_of_ble_eq_true rfl) (k_X7_isProject (by omega) x1 H _ e_v1 ?_)
  show V (D + 1) RX7 mdX7_kind 5 [.ref 0, .int x1] [.int v1] H post
  obtain ⟨j3, e_j3, h⟩ := bnd h
  have kj4 : V (D + 1) RX7 mdX7_kind 22 [.null, .null] [.int j3] H post := by
    obtain rfl := Option.some.inj h
    exact st_iret dX7_kind_22 rfl hp
  refine st_if_eq dX7_kind_5 20 (by decide) (fun c5 => ?_) (fun c5 => ?_)
  · replace e_j3 := (if_pos c5).symm.trans e_j3
    refine st_ldc dX7_kind_20 cn_RX7_77 ?_
    obtain rfl := Option.some.inj e_j3
    exact st_sub [.null, .null] ⟨Or.inl rfl, Or.inl rfl, trivial⟩ kj4
  · replace e_j3 := (if_neg c5).symm.trans e_j3
    refine st_aload_n dX7_kind_8 rfl rfl ?_
    refine gR7 dX7_kind_9 (by decide) rfl 2 (by decide) fl_RX7_26 rfl 7 rfl ?_
    refine gR4 dX7_kind_12 (by decide) rfl 5 (by decide) fl_RX7_188 rfl 8 rfl ?_
    refine st_iload_n dX7_kind_15 rfl rfl ?_
    obtain ⟨v2, e_v2, e_j3⟩ := bnd e_j3
    refine st_iald dX7_kind_16 (by decide) rfl v2 e_v2 ?_
    refine st_goto dX7_kind_17 22 (by decide) ?_
    obtain rfl := Option.some.inj e_j3
    exact st_sub [.null, .null] ⟨Or.inl rfl, Or.inl rfl, trivial⟩ kj4
def f_X7_isOfKind_l4 (H : Hp) (x1 : Int32) : Nat → Int32 → Int32 → Option ((Unit) ⊕ (Int32))
  | 0, _, _ => none
  | n + 1, x2, x3 =>
    if 6 ≤ x3 then
      some (.inl ())
    else
      if x2 < 0 then
        some (.inl ())
      else
        if x2 = x1 then
          some (.inr 1)
        else
          (ag stH 78 6 x2).bind fun v1 =>
          f_X7_isOfKind_l4 H x1 n v1 (x3 + 1)
def f_X7_isOfKind (x0 : Int32) (x1 : Int32) (H : Hp) : Option (Int32) :=
  (f_X7_isOfKind_l4 H x1 fuel x0 0).bind fun l5 => Sum.elim (fun t6 =>
    some 0) (fun r => some r) l5
set_option maxHeartbeats 4000000 in
set_option maxRecDepth 100000 in
theorem k_X7_isOfKind_l4 {D : Nat} (hD : 0 ≤ D) (H : Hp) (x1 : Int32) {post : Option Value → Hp → Prop} : ∀ (n : Nat) (x2 : Int32) (x3 : Int32) (q : (Unit) ⊕ (Int32)), f_X7_isOfKind_l4 H x1 n x2 x3 = some q → (∀ t, q = .inl t → V D RX7 mdX7_isOfKind 33 [.null, .null, .null, .null] [] H post) → (∀ r, q = .inr r → post (some (.int r)) H) → V D RX7 mdX7_isOfKind 4 [.null, .int x1, .int x2, .int x3] [] H post := by
  intro n
  induction n with
  | zero => intro x2 x3 q h; simp [f_X7_isOfKind_l4] at h
  | succ n ih =>
    intro x2 x3 q h k1 k2
    rw [f_X7_isOfKind_l4] at h
    refine st_iload_n dX7_isOfKind_4 rfl rfl ?_
    refine st_bipush dX7_isOfKind_5 (v := 6) (by decide) ?_
    refine st_ic_ge dX7_isOfKind_7 33 (by decide) (fun c2 => ?_) (fun c2 => ?_)
    · replace h := (if_pos c2).symm.trans h
      exact st_sub [.null, .null, .null, .null] ⟨Or.inl rfl, Or.inl rfl, Or.inl rfl, Or.inl rfl, trivial⟩ (k1 _ (Option.some.inj h).symm)
    · replace h := (if_neg c2).symm.trans h
      refine st_iload_n dX7_isOfKind_10 rfl rfl ?_
      refine st_if_lt dX7_isOfKind_11 33 (by decide) (fun c3 => ?_) (fun c3 => ?_)
      · replace h := (if_pos c3).symm.trans h
        exact st_sub [.null, .null, .null, .null] ⟨Or.inl rfl, Or.inl rfl, Or.inl rfl, Or.inl rfl, trivial⟩ (k1 _ (Option.some.inj h).symm)
      · replace h := (if_neg c3).symm.trans h
        refine st_iload_n dX7_isOfKind_14 rfl rfl ?_
        refine st_iload_n dX7_isOfKind_15 rfl rfl ?_
        refine st_ic_ne dX7_isOfKind_16 21 (by decide) (fun c4 => ?_) (fun c4 => ?_)
        · replace h := (if_neg c4).symm.trans h
          refine st_getsKA dX7_isOfKind_21 fl_RX7_318 ?_
          refine st_iload_n dX7_isOfKind_24 rfl rfl ?_
          obtain ⟨v1, e_v1, h⟩ := bnd h
          refine st_sald78 dX7_isOfKind_25 v1 e_v1 ?_
          refine st_istore_n dX7_isOfKind_26 rfl (by decide) [.null, .int x1, .int v1, .int x3] rfl ?_
          refine st_iinc dX7_isOfKind_27 rfl (v := (x3 + 1)) rfl (by decide) [.null, .int x1, .int v1, .int (x3 + 1)] rfl ?_
          refine st_goto dX7_isOfKind_30 4 (by decide) ?_
          exact ih v1 (x3 + 1) q h k1 k2
        · replace h := (if_pos c4).symm.trans h
          refine st_iconst dX7_isOfKind_19 (v := 1) rfl ?_
          have hp := k2 _ (Option.some.inj h).symm
          exact st_zret dX7_isOfKind_20 rfl (by first | rfl | (split <;> rfl) | (repeat (first | rfl | split))) hp
set_option maxHeartbeats 4000000 in
set_option maxRecDepth 100000 in
theorem k_X7_isOfKind {D : Nat} (hD : 0 ≤ D) (x0 : Int32) (x1 : Int32) (H : Hp) (q : Int32) (h : f_X7_isOfKind x0 x1 H = some q) {post : Option Value → Hp → Prop} (hp : post (some (.int q)) H) : Sem D mdX7_isOfKind [.int x0, .int x1] H post := by
  refine sem_of (own := RX7) rfl pn_RX7 (Nat.le_of_ble_eq_true rfl) [.int x0, .int x1, .null, .null] ⟨Or.inr rfl, Or.inr rfl, rfl, rfl, trivial⟩ ?_
  unfold f_X7_isOfKind at h
  refine st_iload_n dX7_isOfKind_0 rfl rfl ?_
  refine st_istore_n dX7_isOfKind_1 rfl (by decide) [.int x0, .int x1, .int x0, .null] rfl ?_
  refine st_iconst dX7_isOfKind_2 (v := 0) rfl ?_
  refine st_istore_n dX7_isOfKind_3 rfl (by decide) [.int x0, .int x1, .int x0, .int 0] rfl ?_
  refine st_sub [.null, .int x1, .int x0, .int 0] ⟨Or.inl rfl, Or.inr rfl, Or.inr rfl, Or.inr rfl, trivial⟩ ?_
  obtain ⟨l5, e_l5, h⟩ := bnd h
  refine k_X7_isOfKind_l4 (by omega) H x1 fuel x0 0 _ e_l5 (fun t6 z => ?_) (fun r z => ?_)
  · subst z
    rw [Sum.elim_inl] at h
    refine st_iconst dX7_isOfKind_33 (v := 0) rfl ?_
    obtain rfl := Option.some.inj h
    exact st_zret dX7_isOfKind_34 rfl (by first | rfl | (split <;> rfl) | (repeat (first | rfl | split))) hp
  · subst z
    rw [Sum.elim_inr] at h
    obtain rfl := Option.some.inj h
    exact hp
def f_X7_as (x1 : Int32) (x2 : Int32) (H : Hp) : Option (Int32 × Hp) :=
  (f_X7_isProject x1 H).bind fun v1 =>
  if v1 = 0 then
    some ((-1000001), H)
  else
    (f_X7_within x2 0 5).bind fun v2 =>
    if v2 = 0 then
      some ((-1000001), H)
    else
      (ag H 8 6 x1).bind fun v3 =>
      (f_X7_isOfKind v3 x2 H).bind fun v4 =>
      Option.bind (
        if v4 = 0 then
          (f_X7_found 3 H).bind fun q5 =>
          some (q5.1, q5.2)
        else
          (f_X7_unmarred x1 H).bind fun q6 =>
          some (q6.1, q6.2)) fun j7 =>
      some (j7.1, j7.2)
set_option maxHeartbeats 4000000 in
set_option maxRecDepth 100000 in
theorem k_X7_as {D : Nat} (hD : 1 ≤ D) (x1 : Int32) (x2 : Int32) (H : Hp) (q : Int32 × Hp) (h : f_X7_as x1 x2 H = some q) {post : Option Value → Hp → Prop} (hp : post (some (.int q.1)) q.2) : Sem D mdX7_as [.ref 0, .int x1, .int x2] H post := by
  obtain ⟨D, rfl⟩ : ∃ E, D = E + 1 := ⟨D - 1, by omega⟩
  refine sem_of (own := RX7) rfl pn_RX7 (Nat.le_of_ble_eq_true rfl) [.ref 0, .int x1, .int x2] ⟨Or.inr rfl, Or.inr rfl, Or.inr rfl, trivial⟩ ?_
  unfold f_X7_as at h
  refine st_aload_n dX7_as_0 rfl rfl ?_
  refine st_iload_n dX7_as_1 rfl rfl ?_
  obtain ⟨v1, e_v1, h⟩ := bnd h
  refine st_callV [.int x1] dX7_as_2 co_X7_isProject im_X7_isProject se_X7_isProject ml_RX7_152 rfl (by decide) rfl (rfl : classes[7]? = some (RX7, TX7, 11)) rfl (S := []) rfl (Nat.le_of_ble_eq_true rfl) (k_X7_isProject (by omega) x1 H _ e_v1 ?_)
  show V (D + 1) RX7 mdX7_as 5 [.ref 0, .int x1, .int x2] [.int v1] H post
  refine st_if_eq dX7_as_5 17 (by decide) (fun c8 => ?_) (fun c8 => ?_)
  · replace h := (if_pos c8).symm.trans h
    refine st_ldc dX7_as_17 cn_RX7_77 ?_
    obtain rfl := Option.some.inj h
    exact st_iret dX7_as_19 rfl hp
  · replace h := (if_neg c8).symm.trans h
    refine st_iload_n dX7_as_8 rfl rfl ?_
    refine st_iconst dX7_as_9 (v := 0) rfl ?_
    refine st_iconst dX7_as_10 (v := 5) rfl ?_
    obtain ⟨v2, e_v2, h⟩ := bnd h
    refine st_callS [.int x2, .int 0, .int 5] dX7_as_11 co_X7_within sm_X7_within ml_RX7_73 rfl (S := []) rfl (Nat.le_of_ble_eq_true rfl) (k_X7_within (by omega) x2 0 5 H _ e_v2 ?_)
    show V (D + 1) RX7 mdX7_as 14 [.ref 0, .int x1, .int x2] [.int v2] H post
    refine st_if_ne dX7_as_14 20 (by decide) (fun c9 => ?_) (fun c9 => ?_)
    · replace h := (if_neg c9).symm.trans h
      refine st_aload_n dX7_as_20 rfl rfl ?_
      refine gR7 dX7_as_21 (by decide) rfl 2 (by decide) fl_RX7_26 rfl 7 rfl ?_
      refine gR4 dX7_as_24 (by decide) rfl 5 (by decide) fl_RX7_188 rfl 8 rfl ?_
      refine st_iload_n dX7_as_27 rfl rfl ?_
      obtain ⟨v3, e_v3, h⟩ := bnd h
      refine st_iald dX7_as_28 (by decide) rfl v3 e_v3 ?_
      refine st_iload_n dX7_as_29 rfl rfl ?_
      obtain ⟨v4, e_v4, h⟩ := bnd h
      refine st_callS [.int v3, .int x2] dX7_as_30 co_X7_isOfKind sm_X7_isOfKind ml_RX7_296 rfl (S := []) rfl (Nat.le_of_ble_eq_true rfl) (k_X7_isOfKind (by omega) v3 x2 H _ e_v4 ?_)
      show V (D + 1) RX7 mdX7_as 33 [.ref 0, .int x1, .int x2] [.int v4] H post
      obtain ⟨j7, e_j7, h⟩ := bnd h
      have kj10 : V (D + 1) RX7 mdX7_as 49 [.null, .null, .null] [.int j7.1] j7.2 post := by
        obtain rfl := Option.some.inj h
        exact st_iret dX7_as_49 rfl hp
      refine st_if_eq dX7_as_33 44 (by decide) (fun c11 => ?_) (fun c11 => ?_)
      · replace e_j7 := (if_pos c11).symm.trans e_j7
        refine st_aload_n dX7_as_44 rfl rfl ?_
        refine st_iconst dX7_as_45 (v := 3) rfl ?_
        obtain ⟨q5, e_q5, e_j7⟩ := bnd e_j7
        refine st_callV [.int 3] dX7_as_46 co_X7_found im_X7_found se_X7_found ml_RX7_78 rfl (by decide) rfl (rfl : classes[7]? = some (RX7, TX7, 11)) rfl (S := []) rfl (Nat.le_of_ble_eq_true rfl) (k_X7_found (by omega) 3 H _ e_q5 ?_)
        show V (D + 1) RX7 mdX7_as 49 [.ref 0, .int x1, .int x2] [.int q5.1] q5.2 post
        obtain rfl := Option.some.inj e_j7
        exact st_sub [.null, .null, .null] ⟨Or.inl rfl, Or.inl rfl, Or.inl rfl, trivial⟩ kj10
      · replace e_j7 := (if_neg c11).symm.trans e_j7
        refine st_aload_n dX7_as_36 rfl rfl ?_
        refine st_iload_n dX7_as_37 rfl rfl ?_
        obtain ⟨q6, e_q6, e_j7⟩ := bnd e_j7
        refine st_callV [.int x1] dX7_as_38 co_X7_unmarred im_X7_unmarred se_X7_unmarred ml_RX7_86 rfl (by decide) rfl (rfl : classes[7]? = some (RX7, TX7, 11)) rfl (S := []) rfl (Nat.le_of_ble_eq_true rfl) (k_X7_unmarred (by omega) x1 H _ e_q6 ?_)
        show V (D + 1) RX7 mdX7_as 41 [.ref 0, .int x1, .int x2] [.int q6.1] q6.2 post
        refine st_goto dX7_as_41 49 (by decide) ?_
        obtain rfl := Option.some.inj e_j7
        exact st_sub [.null, .null, .null] ⟨Or.inl rfl, Or.inl rfl, Or.inl rfl, trivial⟩ kj10
    · replace h := (if_pos c9).symm.trans h
      refine st_ldc dX7_as_17 cn_RX7_77 ?_
      obtain rfl := Option.some.inj h
      exact st_iret dX7_as_19 rfl hp
def f_X1_bodyFor_79_l15 (H : Hp) : Nat → Int32 → Int32 → Option ((Unit) ⊕ (Int32))
  | 0, _, _ => none
  | n + 1, x2, x3 =>
    if 6 ≤ x3 then
      some (.inl ())
    else
      if x2 ≤ 0 then
        some (.inl ())
      else
        (ag stH 79 6 x2).bind fun v2 =>
        if v2 = 0 then
          (ag stH 78 6 x2).bind fun v3 =>
          f_X1_bodyFor_79_l15 H n v3 (x3 + 1)
        else
          (ag stH 79 6 x2).bind fun v4 =>
          some (.inr v4)
def f_X1_bodyFor_79 (H : Hp) : Option (Int32) :=
  (ag H 42 6 (H 58 3)).bind fun v1 =>
  (f_X1_bodyFor_79_l15 H fuel v1 0).bind fun l8 => Sum.elim (fun t9 =>
    (ag stH 79 6 0).bind fun v10 =>
    some v10) (fun r => some r) l8
set_option maxHeartbeats 4000000 in
set_option maxRecDepth 100000 in
theorem k_X1_bodyFor_79_l15 {D : Nat} (hD : 0 ≤ D) (H : Hp) {post : Option Value → Hp → Prop} : ∀ (n : Nat) (x2 : Int32) (x3 : Int32) (q : (Unit) ⊕ (Int32)), f_X1_bodyFor_79_l15 H n x2 x3 = some q → (∀ t, q = .inl t → V D RX1 mdX1_bodyFor 47 [.null, .ref 79, .null, .null] [] H post) → (∀ r, q = .inr r → post (some (.int r)) H) → V D RX1 mdX1_bodyFor 15 [.null, .ref 79, .int x2, .int x3] [] H post := by
  intro n
  induction n with
  | zero => intro x2 x3 q h; simp [f_X1_bodyFor_79_l15] at h
  | succ n ih =>
    intro x2 x3 q h k1 k2
    rw [f_X1_bodyFor_79_l15] at h
    refine st_iload_n dX1_bodyFor_15 rfl rfl ?_
    refine st_bipush dX1_bodyFor_16 (v := 6) (by decide) ?_
    refine st_ic_ge dX1_bodyFor_18 47 (by decide) (fun c5 => ?_) (fun c5 => ?_)
    · replace h := (if_pos c5).symm.trans h
      exact st_sub [.null, .ref 79, .null, .null] ⟨Or.inl rfl, Or.inr rfl, Or.inl rfl, Or.inl rfl, trivial⟩ (k1 _ (Option.some.inj h).symm)
    · replace h := (if_neg c5).symm.trans h
      refine st_iload_n dX1_bodyFor_21 rfl rfl ?_
      refine st_if_le dX1_bodyFor_22 47 (by decide) (fun c6 => ?_) (fun c6 => ?_)
      · replace h := (if_pos c6).symm.trans h
        exact st_sub [.null, .ref 79, .null, .null] ⟨Or.inl rfl, Or.inr rfl, Or.inl rfl, Or.inl rfl, trivial⟩ (k1 _ (Option.some.inj h).symm)
      · replace h := (if_neg c6).symm.trans h
        refine st_aload_n dX1_bodyFor_25 rfl rfl ?_
        refine st_iload_n dX1_bodyFor_26 rfl rfl ?_
        obtain ⟨v2, e_v2, h⟩ := bnd h
        refine st_sald79 dX1_bodyFor_27 v2 e_v2 ?_
        refine st_if_eq dX1_bodyFor_28 35 (by decide) (fun c7 => ?_) (fun c7 => ?_)
        · replace h := (if_pos c7).symm.trans h
          refine st_getsN dX1_bodyFor_35 rfl rfl ?_
          refine st_iload_n dX1_bodyFor_38 rfl rfl ?_
          obtain ⟨v3, e_v3, h⟩ := bnd h
          refine st_sald78 dX1_bodyFor_39 v3 e_v3 ?_
          refine st_istore_n dX1_bodyFor_40 rfl (by decide) [.null, .ref 79, .int v3, .int x3] rfl ?_
          refine st_iinc dX1_bodyFor_41 rfl (v := (x3 + 1)) rfl (by decide) [.null, .ref 79, .int v3, .int (x3 + 1)] rfl ?_
          refine st_goto dX1_bodyFor_44 15 (by decide) ?_
          exact ih v3 (x3 + 1) q h k1 k2
        · replace h := (if_neg c7).symm.trans h
          refine st_aload_n dX1_bodyFor_31 rfl rfl ?_
          refine st_iload_n dX1_bodyFor_32 rfl rfl ?_
          obtain ⟨v4, e_v4, h⟩ := bnd h
          refine st_sald79 dX1_bodyFor_33 v4 e_v4 ?_
          have hp := k2 _ (Option.some.inj h).symm
          exact st_iret dX1_bodyFor_34 rfl hp
set_option maxHeartbeats 4000000 in
set_option maxRecDepth 100000 in
theorem k_X1_bodyFor_79 {D : Nat} (hD : 0 ≤ D) (H : Hp) (q : Int32) (h : f_X1_bodyFor_79 H = some q) {post : Option Value → Hp → Prop} (hp : post (some (.int q)) H) : Sem D mdX1_bodyFor [.ref 58, .ref 79] H post := by
  refine sem_of (own := RX1) rfl pn_RX1 (Nat.le_of_ble_eq_true rfl) [.ref 58, .ref 79, .null, .null] ⟨Or.inr rfl, Or.inr rfl, rfl, rfl, trivial⟩ ?_
  unfold f_X1_bodyFor_79 at h
  refine st_aload_n dX1_bodyFor_0 rfl rfl ?_
  refine gR1 dX1_bodyFor_1 (by decide) rfl 0 (by decide) fl_RX1_15 rfl 38 rfl ?_
  refine gR2 dX1_bodyFor_4 (by decide) rfl 3 (by decide) fl_RX1_50 rfl 42 rfl ?_
  refine st_aload_n dX1_bodyFor_7 rfl rfl ?_
  refine gI1 dX1_bodyFor_8 (by decide) rfl 3 (by decide) fl_RX1_23 rfl rfl ?_
  obtain ⟨v1, e_v1, h⟩ := bnd h
  refine st_iald dX1_bodyFor_11 (by decide) rfl v1 e_v1 ?_
  refine st_istore_n dX1_bodyFor_12 rfl (by decide) [.ref 58, .ref 79, .int v1, .null] rfl ?_
  refine st_iconst dX1_bodyFor_13 (v := 0) rfl ?_
  refine st_istore_n dX1_bodyFor_14 rfl (by decide) [.ref 58, .ref 79, .int v1, .int 0] rfl ?_
  refine st_sub [.null, .ref 79, .int v1, .int 0] ⟨Or.inl rfl, Or.inr rfl, Or.inr rfl, Or.inr rfl, trivial⟩ ?_
  obtain ⟨l8, e_l8, h⟩ := bnd h
  refine k_X1_bodyFor_79_l15 (by omega) H fuel v1 0 _ e_l8 (fun t9 z => ?_) (fun r z => ?_)
  · subst z
    rw [Sum.elim_inl] at h
    refine st_aload_n dX1_bodyFor_47 rfl rfl ?_
    refine st_iconst dX1_bodyFor_48 (v := 0) rfl ?_
    obtain ⟨v10, e_v10, h⟩ := bnd h
    refine st_sald79 dX1_bodyFor_49 v10 e_v10 ?_
    obtain rfl := Option.some.inj h
    exact st_iret dX1_bodyFor_50 rfl hp
  · subst z
    rw [Sum.elim_inr] at h
    obtain rfl := Option.some.inj h
    exact hp
def f_X1_bodyFor_80_l15 (H : Hp) : Nat → Int32 → Int32 → Option ((Unit) ⊕ (Int32))
  | 0, _, _ => none
  | n + 1, x2, x3 =>
    if 6 ≤ x3 then
      some (.inl ())
    else
      if x2 ≤ 0 then
        some (.inl ())
      else
        (ag stH 80 6 x2).bind fun v2 =>
        if v2 = 0 then
          (ag stH 78 6 x2).bind fun v3 =>
          f_X1_bodyFor_80_l15 H n v3 (x3 + 1)
        else
          (ag stH 80 6 x2).bind fun v4 =>
          some (.inr v4)
def f_X1_bodyFor_80 (H : Hp) : Option (Int32) :=
  (ag H 42 6 (H 58 3)).bind fun v1 =>
  (f_X1_bodyFor_80_l15 H fuel v1 0).bind fun l8 => Sum.elim (fun t9 =>
    (ag stH 80 6 0).bind fun v10 =>
    some v10) (fun r => some r) l8
set_option maxHeartbeats 4000000 in
set_option maxRecDepth 100000 in
theorem k_X1_bodyFor_80_l15 {D : Nat} (hD : 0 ≤ D) (H : Hp) {post : Option Value → Hp → Prop} : ∀ (n : Nat) (x2 : Int32) (x3 : Int32) (q : (Unit) ⊕ (Int32)), f_X1_bodyFor_80_l15 H n x2 x3 = some q → (∀ t, q = .inl t → V D RX1 mdX1_bodyFor 47 [.null, .ref 80, .null, .null] [] H post) → (∀ r, q = .inr r → post (some (.int r)) H) → V D RX1 mdX1_bodyFor 15 [.null, .ref 80, .int x2, .int x3] [] H post := by
  intro n
  induction n with
  | zero => intro x2 x3 q h; simp [f_X1_bodyFor_80_l15] at h
  | succ n ih =>
    intro x2 x3 q h k1 k2
    rw [f_X1_bodyFor_80_l15] at h
    refine st_iload_n dX1_bodyFor_15 rfl rfl ?_
    refine st_bipush dX1_bodyFor_16 (v := 6) (by decide) ?_
    refine st_ic_ge dX1_bodyFor_18 47 (by decide) (fun c5 => ?_) (fun c5 => ?_)
    · replace h := (if_pos c5).symm.trans h
      exact st_sub [.null, .ref 80, .null, .null] ⟨Or.inl rfl, Or.inr rfl, Or.inl rfl, Or.inl rfl, trivial⟩ (k1 _ (Option.some.inj h).symm)
    · replace h := (if_neg c5).symm.trans h
      refine st_iload_n dX1_bodyFor_21 rfl rfl ?_
      refine st_if_le dX1_bodyFor_22 47 (by decide) (fun c6 => ?_) (fun c6 => ?_)
      · replace h := (if_pos c6).symm.trans h
        exact st_sub [.null, .ref 80, .null, .null] ⟨Or.inl rfl, Or.inr rfl, Or.inl rfl, Or.inl rfl, trivial⟩ (k1 _ (Option.some.inj h).symm)
      · replace h := (if_neg c6).symm.trans h
        refine st_aload_n dX1_bodyFor_25 rfl rfl ?_
        refine st_iload_n dX1_bodyFor_26 rfl rfl ?_
        obtain ⟨v2, e_v2, h⟩ := bnd h
        refine st_sald80 dX1_bodyFor_27 v2 e_v2 ?_
        refine st_if_eq dX1_bodyFor_28 35 (by decide) (fun c7 => ?_) (fun c7 => ?_)
        · replace h := (if_pos c7).symm.trans h
          refine st_getsN dX1_bodyFor_35 rfl rfl ?_
          refine st_iload_n dX1_bodyFor_38 rfl rfl ?_
          obtain ⟨v3, e_v3, h⟩ := bnd h
          refine st_sald78 dX1_bodyFor_39 v3 e_v3 ?_
          refine st_istore_n dX1_bodyFor_40 rfl (by decide) [.null, .ref 80, .int v3, .int x3] rfl ?_
          refine st_iinc dX1_bodyFor_41 rfl (v := (x3 + 1)) rfl (by decide) [.null, .ref 80, .int v3, .int (x3 + 1)] rfl ?_
          refine st_goto dX1_bodyFor_44 15 (by decide) ?_
          exact ih v3 (x3 + 1) q h k1 k2
        · replace h := (if_neg c7).symm.trans h
          refine st_aload_n dX1_bodyFor_31 rfl rfl ?_
          refine st_iload_n dX1_bodyFor_32 rfl rfl ?_
          obtain ⟨v4, e_v4, h⟩ := bnd h
          refine st_sald80 dX1_bodyFor_33 v4 e_v4 ?_
          have hp := k2 _ (Option.some.inj h).symm
          exact st_iret dX1_bodyFor_34 rfl hp
set_option maxHeartbeats 4000000 in
set_option maxRecDepth 100000 in
theorem k_X1_bodyFor_80 {D : Nat} (hD : 0 ≤ D) (H : Hp) (q : Int32) (h : f_X1_bodyFor_80 H = some q) {post : Option Value → Hp → Prop} (hp : post (some (.int q)) H) : Sem D mdX1_bodyFor [.ref 58, .ref 80] H post := by
  refine sem_of (own := RX1) rfl pn_RX1 (Nat.le_of_ble_eq_true rfl) [.ref 58, .ref 80, .null, .null] ⟨Or.inr rfl, Or.inr rfl, rfl, rfl, trivial⟩ ?_
  unfold f_X1_bodyFor_80 at h
  refine st_aload_n dX1_bodyFor_0 rfl rfl ?_
  refine gR1 dX1_bodyFor_1 (by decide) rfl 0 (by decide) fl_RX1_15 rfl 38 rfl ?_
  refine gR2 dX1_bodyFor_4 (by decide) rfl 3 (by decide) fl_RX1_50 rfl 42 rfl ?_
  refine st_aload_n dX1_bodyFor_7 rfl rfl ?_
  refine gI1 dX1_bodyFor_8 (by decide) rfl 3 (by decide) fl_RX1_23 rfl rfl ?_
  obtain ⟨v1, e_v1, h⟩ := bnd h
  refine st_iald dX1_bodyFor_11 (by decide) rfl v1 e_v1 ?_
  refine st_istore_n dX1_bodyFor_12 rfl (by decide) [.ref 58, .ref 80, .int v1, .null] rfl ?_
  refine st_iconst dX1_bodyFor_13 (v := 0) rfl ?_
  refine st_istore_n dX1_bodyFor_14 rfl (by decide) [.ref 58, .ref 80, .int v1, .int 0] rfl ?_
  refine st_sub [.null, .ref 80, .int v1, .int 0] ⟨Or.inl rfl, Or.inr rfl, Or.inr rfl, Or.inr rfl, trivial⟩ ?_
  obtain ⟨l8, e_l8, h⟩ := bnd h
  refine k_X1_bodyFor_80_l15 (by omega) H fuel v1 0 _ e_l8 (fun t9 z => ?_) (fun r z => ?_)
  · subst z
    rw [Sum.elim_inl] at h
    refine st_aload_n dX1_bodyFor_47 rfl rfl ?_
    refine st_iconst dX1_bodyFor_48 (v := 0) rfl ?_
    obtain ⟨v10, e_v10, h⟩ := bnd h
    refine st_sald80 dX1_bodyFor_49 v10 e_v10 ?_
    obtain rfl := Option.some.inj h
    exact st_iret dX1_bodyFor_50 rfl hp
  · subst z
    rw [Sum.elim_inr] at h
    obtain rfl := Option.some.inj h
    exact hp
def f_X1_leaveNumber (x1 : Int32) (H : Hp) : Option (Hp) :=
  Option.bind (
    if 16 ≤ (H 58 2) then
      some H
    else
      (as H 59 16 (H 58 2) x1).bind fun H1 =>
      (pf H1 58 2 ((H1 58 2) + 1)).bind fun H2 =>
      some H2) fun j3 =>
  some j3
set_option maxHeartbeats 4000000 in
set_option maxRecDepth 100000 in
theorem k_X1_leaveNumber {D : Nat} (hD : 0 ≤ D) (x1 : Int32) (H : Hp) (q : Hp) (h : f_X1_leaveNumber x1 H = some q) {post : Option Value → Hp → Prop} (hp : post none q) : Sem D mdX1_leaveNumber [.ref 58, .int x1] H post := by
  refine sem_of (own := RX1) rfl pn_RX1 (Nat.le_of_ble_eq_true rfl) [.ref 58, .int x1] ⟨Or.inr rfl, Or.inr rfl, trivial⟩ ?_
  unfold f_X1_leaveNumber at h
  refine st_aload_n dX1_leaveNumber_0 rfl rfl ?_
  refine gI1 dX1_leaveNumber_1 (by decide) rfl 2 (by decide) fl_RX1_19 rfl rfl ?_
  refine st_bipush dX1_leaveNumber_4 (v := 16) (by decide) ?_
  obtain ⟨j3, e_j3, h⟩ := bnd h
  have kj4 : V D RX1 mdX1_leaveNumber 29 [.null, .null] [] j3 post := by
    obtain rfl := Option.some.inj h
    exact st_vret dX1_leaveNumber_29 rfl hp
  refine st_ic_ge dX1_leaveNumber_6 29 (by decide) (fun c5 => ?_) (fun c5 => ?_)
  · replace e_j3 := (if_pos c5).symm.trans e_j3
    obtain rfl := Option.some.inj e_j3
    exact st_sub [.null, .null] ⟨Or.inl rfl, Or.inl rfl, trivial⟩ kj4
  · replace e_j3 := (if_neg c5).symm.trans e_j3
    refine st_aload_n dX1_leaveNumber_9 rfl rfl ?_
    refine gR1 dX1_leaveNumber_10 (by decide) rfl 1 (by decide) fl_RX1_11 rfl 59 rfl ?_
    refine st_aload_n dX1_leaveNumber_13 rfl rfl ?_
    refine gI1 dX1_leaveNumber_14 (by decide) rfl 2 (by decide) fl_RX1_19 rfl rfl ?_
    refine st_iload_n dX1_leaveNumber_17 rfl rfl ?_
    obtain ⟨H1, e_H1, e_j3⟩ := bnd e_j3
    refine st_iast dX1_leaveNumber_18 (by decide) rfl H1 e_H1 ?_
    refine st_aload_n dX1_leaveNumber_19 rfl rfl ?_
    refine st_dup dX1_leaveNumber_20 rfl ?_
    refine gI1 dX1_leaveNumber_21 (by decide) rfl 2 (by decide) fl_RX1_19 rfl rfl ?_
    refine st_iconst dX1_leaveNumber_24 (v := 1) rfl ?_
    refine st_iadd dX1_leaveNumber_25 ?_
    obtain ⟨H2, e_H2, e_j3⟩ := bnd e_j3
    refine pI1 dX1_leaveNumber_26 (by decide) rfl 2 (by decide) fl_RX1_19 rfl rfl rfl rfl e_H2 ?_
    obtain rfl := Option.some.inj e_j3
    exact st_sub [.null, .null] ⟨Or.inl rfl, Or.inl rfl, trivial⟩ kj4
def f_X1_rec : Nat → Nat → Int32 → Int32 → Hp → Option (Int32 × Hp)
  | 0, _, _, _, _ => none
  | n + 1, 0, x1, _, H =>
    (f_X1_bodyFor_79 H).bind fun v1 =>
    (f_X1_rec n 2 v1 (x1 + 1) H).bind fun q2 =>
    some (q2.1, q2.2)
  | n + 1, 1, x1, _, H =>
    (f_X1_bodyFor_80 H).bind fun v1 =>
    (f_X1_rec n 3 v1 (x1 + 1) H).bind fun q2 =>
    some (q2.1, q2.2)
  | n + 1, 2, x1, x2, H =>
    if x2 ≤ 12 then
      (f_X1_leaveNumber x1 H).bind fun H1 =>
      if x1 = 11 then
        (f_X1_rec n 2 10 (x2 + 1) H1).bind fun q2 =>
        (f_X1_rec n 1 (x2 + 1) 0 q2.2).bind fun q3 =>
        some ((q2.1 + q3.1), q3.2)
      else
      if x1 = 12 then
        (f_X1_rec n 2 11 (x2 + 1) H1).bind fun q4 =>
        some ((-q4.1), q4.2)
      else
      if x1 = 13 then
        (f_X1_rec n 2 10 (x2 + 1) H1).bind fun q5 =>
        some ((q5.1 - 100), q5.2)
      else
      if x1 = 14 then
        (f_X1_rec n 2 13 (x2 + 1) H1).bind fun q6 =>
        some ((2 * q6.1), q6.2)
      else
        (ag H1 43 6 (H1 58 3)).bind fun v7 =>
        some (v7, H1)
    else
      some (0, H)
  | n + 1, 3, x1, x2, H =>
    if x2 ≤ 12 then
      (f_X1_leaveNumber x1 H).bind fun H1 =>
      if x1 = 21 then
        (f_X1_rec n 3 20 (x2 + 1) H1).bind fun q2 =>
        (ag q2.2 45 6 (q2.2 58 3)).bind fun v3 =>
        some ((q2.1 + v3), q2.2)
      else
      if x1 = 22 then
        (f_X1_rec n 3 21 (x2 + 1) H1).bind fun q4 =>
        some ((q4.1 - 1000), q4.2)
      else
      if x1 = 23 then
        (f_X1_rec n 3 20 (x2 + 1) H1).bind fun q5 =>
        (f_X1_rec n 0 (x2 + 1) 0 q5.2).bind fun q6 =>
        some ((q5.1 - q6.1), q6.2)
      else
      if x1 = 24 then
        (f_X1_rec n 3 21 (x2 + 1) H1).bind fun q7 =>
        some ((2 * q7.1), q7.2)
      else
        some ((H1 58 3), H1)
    else
      some (0, H)
  | _ + 1, _, _, _, _ => none
def IHX1 (n : Nat) : Prop := ∀ D : Nat, 1 + n ≤ D → (∀ x1 H q (post : Option Value → Hp → Prop), f_X1_rec n 0 x1 0 H = some q → post (some (.int q.1)) q.2 → Sem D mdX1_size [.ref 58, .int x1] H post) ∧ (∀ x1 H q (post : Option Value → Hp → Prop), f_X1_rec n 1 x1 0 H = some q → post (some (.int q.1)) q.2 → Sem D mdX1_mark [.ref 58, .int x1] H post) ∧ (∀ x1 x2 H q (post : Option Value → Hp → Prop), f_X1_rec n 2 x1 x2 H = some q → post (some (.int q.1)) q.2 → Sem D mdX1_sizeBy [.ref 58, .int x1, .int x2] H post) ∧ (∀ x1 x2 H q (post : Option Value → Hp → Prop), f_X1_rec n 3 x1 x2 H = some q → post (some (.int q.1)) q.2 → Sem D mdX1_markBy [.ref 58, .int x1, .int x2] H post)
set_option maxHeartbeats 4000000 in
set_option maxRecDepth 100000 in
theorem s_X1_size {n : Nat} (ih : IHX1 n) {D : Nat} (hD : 1 + (n + 1) ≤ D) (x1 : Int32) (H : Hp) (q : Int32 × Hp) (post : Option Value → Hp → Prop) (h : f_X1_rec (n + 1) 0 x1 0 H = some q) (hp : post (some (.int q.1)) q.2) : Sem D mdX1_size [.ref 58, .int x1] H post := by
  obtain ⟨D, rfl⟩ : ∃ E, D = E + 1 := ⟨D - 1, by omega⟩
  refine sem_of (own := RX1) rfl pn_RX1 (Nat.le_of_ble_eq_true rfl) [.ref 58, .int x1] ⟨Or.inr rfl, Or.inr rfl, trivial⟩ ?_
  rw [f_X1_rec] at h
  refine st_aload_n dX1_size_0 rfl rfl ?_
  refine st_aload_n dX1_size_1 rfl rfl ?_
  refine st_getsSB dX1_size_2 fl_RX1_33 ?_
  obtain ⟨v1, e_v1, h⟩ := bnd h
  refine st_callV [.ref 79] dX1_size_5 co_X1_bodyFor im_X1_bodyFor se_X1_bodyFor ml_RX1_36 rfl (by decide) rfl (rfl : classes[1]? = some (RX1, TX1, 4)) rfl (S := [.ref 58]) rfl (Nat.le_of_ble_eq_true rfl) (k_X1_bodyFor_79 (by omega) H _ e_v1 ?_)
  show V (D + 1) RX1 mdX1_size 8 [.ref 58, .int x1] [.int v1, .ref 58] H post
  refine st_iload_n dX1_size_8 rfl rfl ?_
  refine st_iconst dX1_size_9 (v := 1) rfl ?_
  refine st_iadd dX1_size_10 ?_
  obtain ⟨q2, e_q2, h⟩ := bnd h
  refine st_callV [.int v1, .int (x1 + 1)] dX1_size_11 co_X1_sizeBy im_X1_sizeBy se_X1_sizeBy ml_RX1_40 rfl (by decide) rfl (rfl : classes[1]? = some (RX1, TX1, 4)) rfl (S := []) rfl (Nat.le_of_ble_eq_true rfl) ((ih _ (by omega)).2.2.1 v1 (x1 + 1) H _ _ e_q2 ?_)
  show V (D + 1) RX1 mdX1_size 14 [.ref 58, .int x1] [.int q2.1] q2.2 post
  obtain rfl := Option.some.inj h
  exact st_iret dX1_size_14 rfl hp
set_option maxHeartbeats 4000000 in
set_option maxRecDepth 100000 in
theorem s_X1_mark {n : Nat} (ih : IHX1 n) {D : Nat} (hD : 1 + (n + 1) ≤ D) (x1 : Int32) (H : Hp) (q : Int32 × Hp) (post : Option Value → Hp → Prop) (h : f_X1_rec (n + 1) 1 x1 0 H = some q) (hp : post (some (.int q.1)) q.2) : Sem D mdX1_mark [.ref 58, .int x1] H post := by
  obtain ⟨D, rfl⟩ : ∃ E, D = E + 1 := ⟨D - 1, by omega⟩
  refine sem_of (own := RX1) rfl pn_RX1 (Nat.le_of_ble_eq_true rfl) [.ref 58, .int x1] ⟨Or.inr rfl, Or.inr rfl, trivial⟩ ?_
  rw [f_X1_rec] at h
  refine st_aload_n dX1_mark_0 rfl rfl ?_
  refine st_aload_n dX1_mark_1 rfl rfl ?_
  refine st_getsMB dX1_mark_2 fl_RX1_44 ?_
  obtain ⟨v1, e_v1, h⟩ := bnd h
  refine st_callV [.ref 80] dX1_mark_5 co_X1_bodyFor im_X1_bodyFor se_X1_bodyFor ml_RX1_36 rfl (by decide) rfl (rfl : classes[1]? = some (RX1, TX1, 4)) rfl (S := [.ref 58]) rfl (Nat.le_of_ble_eq_true rfl) (k_X1_bodyFor_80 (by omega) H _ e_v1 ?_)
  show V (D + 1) RX1 mdX1_mark 8 [.ref 58, .int x1] [.int v1, .ref 58] H post
  refine st_iload_n dX1_mark_8 rfl rfl ?_
  refine st_iconst dX1_mark_9 (v := 1) rfl ?_
  refine st_iadd dX1_mark_10 ?_
  obtain ⟨q2, e_q2, h⟩ := bnd h
  refine st_callV [.int v1, .int (x1 + 1)] dX1_mark_11 co_X1_markBy im_X1_markBy se_X1_markBy ml_RX1_47 rfl (by decide) rfl (rfl : classes[1]? = some (RX1, TX1, 4)) rfl (S := []) rfl (Nat.le_of_ble_eq_true rfl) ((ih _ (by omega)).2.2.2 v1 (x1 + 1) H _ _ e_q2 ?_)
  show V (D + 1) RX1 mdX1_mark 14 [.ref 58, .int x1] [.int q2.1] q2.2 post
  obtain rfl := Option.some.inj h
  exact st_iret dX1_mark_14 rfl hp
set_option maxHeartbeats 4000000 in
set_option maxRecDepth 100000 in
theorem s_X1_sizeBy {n : Nat} (ih : IHX1 n) {D : Nat} (hD : 1 + (n + 1) ≤ D) (x1 : Int32) (x2 : Int32) (H : Hp) (q : Int32 × Hp) (post : Option Value → Hp → Prop) (h : f_X1_rec (n + 1) 2 x1 x2 H = some q) (hp : post (some (.int q.1)) q.2) : Sem D mdX1_sizeBy [.ref 58, .int x1, .int x2] H post := by
  obtain ⟨D, rfl⟩ : ∃ E, D = E + 1 := ⟨D - 1, by omega⟩
  refine sem_of (own := RX1) rfl pn_RX1 (Nat.le_of_ble_eq_true rfl) [.ref 58, .int x1, .int x2] ⟨Or.inr rfl, Or.inr rfl, Or.inr rfl, trivial⟩ ?_
  rw [f_X1_rec] at h
  refine st_iload_n dX1_sizeBy_0 rfl rfl ?_
  refine st_bipush dX1_sizeBy_1 (v := 12) (by decide) ?_
  refine st_ic_le dX1_sizeBy_3 8 (by decide) (fun c8 => ?_) (fun c8 => ?_)
  · replace h := (if_pos c8).symm.trans h
    refine st_aload_n dX1_sizeBy_8 rfl rfl ?_
    refine st_iload_n dX1_sizeBy_9 rfl rfl ?_
    obtain ⟨H1, e_H1, h⟩ := bnd h
    refine st_callV [.int x1] dX1_sizeBy_10 co_X1_leaveNumber im_X1_leaveNumber se_X1_leaveNumber ml_RX1_58 rfl (by decide) rfl (rfl : classes[1]? = some (RX1, TX1, 4)) rfl (S := []) rfl (Nat.le_of_ble_eq_true rfl) (k_X1_leaveNumber (by omega) x1 H _ e_H1 ?_)
    show V (D + 1) RX1 mdX1_sizeBy 13 [.ref 58, .int x1, .int x2] [] H1 post
    refine st_iload_n dX1_sizeBy_13 rfl rfl ?_
    by_cases s9 : x1 = 11
    · replace h := (if_pos s9).symm.trans h
      refine st_tabIn dX1_sizeBy_14 (by rw [s9]; decide) (by rw [s9]; decide) (by rw [s9] <;> rfl) 44 (by decide) ?_
      refine st_aload_n dX1_sizeBy_44 rfl rfl ?_
      refine st_bipush dX1_sizeBy_45 (v := 10) (by decide) ?_
      refine st_iload_n dX1_sizeBy_47 rfl rfl ?_
      refine st_iconst dX1_sizeBy_48 (v := 1) rfl ?_
      refine st_iadd dX1_sizeBy_49 ?_
      obtain ⟨q2, e_q2, h⟩ := bnd h
      refine st_callV [.int 10, .int (x2 + 1)] dX1_sizeBy_50 co_X1_sizeBy im_X1_sizeBy se_X1_sizeBy ml_RX1_40 rfl (by decide) rfl (rfl : classes[1]? = some (RX1, TX1, 4)) rfl (S := []) rfl (Nat.le_of_ble_eq_true rfl) ((ih _ (by omega)).2.2.1 10 (x2 + 1) H1 _ _ e_q2 ?_)
      show V (D + 1) RX1 mdX1_sizeBy 53 [.ref 58, .int x1, .int x2] [.int q2.1] q2.2 post
      refine st_aload_n dX1_sizeBy_53 rfl rfl ?_
      refine st_iload_n dX1_sizeBy_54 rfl rfl ?_
      refine st_iconst dX1_sizeBy_55 (v := 1) rfl ?_
      refine st_iadd dX1_sizeBy_56 ?_
      obtain ⟨q3, e_q3, h⟩ := bnd h
      refine st_callV [.int (x2 + 1)] dX1_sizeBy_57 co_X1_mark im_X1_mark se_X1_mark ml_RX1_30 rfl (by decide) rfl (rfl : classes[1]? = some (RX1, TX1, 4)) rfl (S := [.int q2.1]) rfl (Nat.le_of_ble_eq_true rfl) ((ih _ (by omega)).2.1 (x2 + 1) q2.2 _ _ e_q3 ?_)
      show V (D + 1) RX1 mdX1_sizeBy 60 [.ref 58, .int x1, .int x2] [.int q3.1, .int q2.1] q3.2 post
      refine st_iadd dX1_sizeBy_60 ?_
      obtain rfl := Option.some.inj h
      exact st_iret dX1_sizeBy_61 rfl hp
    · replace h := (if_neg s9).symm.trans h
      by_cases s10 : x1 = 12
      · replace h := (if_pos s10).symm.trans h
        refine st_tabIn dX1_sizeBy_14 (by rw [s10]; decide) (by rw [s10]; decide) (by rw [s10] <;> rfl) 62 (by decide) ?_
        refine st_aload_n dX1_sizeBy_62 rfl rfl ?_
        refine st_bipush dX1_sizeBy_63 (v := 11) (by decide) ?_
        refine st_iload_n dX1_sizeBy_65 rfl rfl ?_
        refine st_iconst dX1_sizeBy_66 (v := 1) rfl ?_
        refine st_iadd dX1_sizeBy_67 ?_
        obtain ⟨q4, e_q4, h⟩ := bnd h
        refine st_callV [.int 11, .int (x2 + 1)] dX1_sizeBy_68 co_X1_sizeBy im_X1_sizeBy se_X1_sizeBy ml_RX1_40 rfl (by decide) rfl (rfl : classes[1]? = some (RX1, TX1, 4)) rfl (S := []) rfl (Nat.le_of_ble_eq_true rfl) ((ih _ (by omega)).2.2.1 11 (x2 + 1) H1 _ _ e_q4 ?_)
        show V (D + 1) RX1 mdX1_sizeBy 71 [.ref 58, .int x1, .int x2] [.int q4.1] q4.2 post
        refine st_ineg dX1_sizeBy_71 ?_
        obtain rfl := Option.some.inj h
        exact st_iret dX1_sizeBy_72 rfl hp
      · replace h := (if_neg s10).symm.trans h
        by_cases s11 : x1 = 13
        · replace h := (if_pos s11).symm.trans h
          refine st_tabIn dX1_sizeBy_14 (by rw [s11]; decide) (by rw [s11]; decide) (by rw [s11] <;> rfl) 73 (by decide) ?_
          refine st_aload_n dX1_sizeBy_73 rfl rfl ?_
          refine st_bipush dX1_sizeBy_74 (v := 10) (by decide) ?_
          refine st_iload_n dX1_sizeBy_76 rfl rfl ?_
          refine st_iconst dX1_sizeBy_77 (v := 1) rfl ?_
          refine st_iadd dX1_sizeBy_78 ?_
          obtain ⟨q5, e_q5, h⟩ := bnd h
          refine st_callV [.int 10, .int (x2 + 1)] dX1_sizeBy_79 co_X1_sizeBy im_X1_sizeBy se_X1_sizeBy ml_RX1_40 rfl (by decide) rfl (rfl : classes[1]? = some (RX1, TX1, 4)) rfl (S := []) rfl (Nat.le_of_ble_eq_true rfl) ((ih _ (by omega)).2.2.1 10 (x2 + 1) H1 _ _ e_q5 ?_)
          show V (D + 1) RX1 mdX1_sizeBy 82 [.ref 58, .int x1, .int x2] [.int q5.1] q5.2 post
          refine st_bipush dX1_sizeBy_82 (v := 100) (by decide) ?_
          refine st_isub dX1_sizeBy_84 ?_
          obtain rfl := Option.some.inj h
          exact st_iret dX1_sizeBy_85 rfl hp
        · replace h := (if_neg s11).symm.trans h
          by_cases s12 : x1 = 14
          · replace h := (if_pos s12).symm.trans h
            refine st_tabIn dX1_sizeBy_14 (by rw [s12]; decide) (by rw [s12]; decide) (by rw [s12] <;> rfl) 86 (by decide) ?_
            refine st_iconst dX1_sizeBy_86 (v := 2) rfl ?_
            refine st_aload_n dX1_sizeBy_87 rfl rfl ?_
            refine st_bipush dX1_sizeBy_88 (v := 13) (by decide) ?_
            refine st_iload_n dX1_sizeBy_90 rfl rfl ?_
            refine st_iconst dX1_sizeBy_91 (v := 1) rfl ?_
            refine st_iadd dX1_sizeBy_92 ?_
            obtain ⟨q6, e_q6, h⟩ := bnd h
            refine st_callV [.int 13, .int (x2 + 1)] dX1_sizeBy_93 co_X1_sizeBy im_X1_sizeBy se_X1_sizeBy ml_RX1_40 rfl (by decide) rfl (rfl : classes[1]? = some (RX1, TX1, 4)) rfl (S := [.int 2]) rfl (Nat.le_of_ble_eq_true rfl) ((ih _ (by omega)).2.2.1 13 (x2 + 1) H1 _ _ e_q6 ?_)
            show V (D + 1) RX1 mdX1_sizeBy 96 [.ref 58, .int x1, .int x2] [.int q6.1, .int 2] q6.2 post
            refine st_imul dX1_sizeBy_96 ?_
            obtain rfl := Option.some.inj h
            exact st_iret dX1_sizeBy_97 rfl hp
          · replace h := (if_neg s12).symm.trans h
            have ts9 := lv_neT s9 (a := 11) (by decide)
            have ts10 := lv_neT s10 (a := 12) (by decide)
            have ts11 := lv_neT s11 (a := 13) (by decide)
            have ts12 := lv_neT s12 (a := 14) (by decide)
            refine st_tabOut dX1_sizeBy_14 (by omega) 98 (by decide) ?_
            refine st_aload_n dX1_sizeBy_98 rfl rfl ?_
            refine gR1 dX1_sizeBy_99 (by decide) rfl 0 (by decide) fl_RX1_15 rfl 38 rfl ?_
            refine gR2 dX1_sizeBy_102 (by decide) rfl 4 (by decide) fl_RX1_62 rfl 43 rfl ?_
            refine st_aload_n dX1_sizeBy_105 rfl rfl ?_
            refine gI1 dX1_sizeBy_106 (by decide) rfl 3 (by decide) fl_RX1_23 rfl rfl ?_
            obtain ⟨v7, e_v7, h⟩ := bnd h
            refine st_iald dX1_sizeBy_109 (by decide) rfl v7 e_v7 ?_
            obtain rfl := Option.some.inj h
            exact st_iret dX1_sizeBy_110 rfl hp
  · replace h := (if_neg c8).symm.trans h
    refine st_iconst dX1_sizeBy_6 (v := 0) rfl ?_
    obtain rfl := Option.some.inj h
    exact st_iret dX1_sizeBy_7 rfl hp
set_option maxHeartbeats 4000000 in
set_option maxRecDepth 100000 in
theorem s_X1_markBy {n : Nat} (ih : IHX1 n) {D : Nat} (hD : 1 + (n + 1) ≤ D) (x1 : Int32) (x2 : Int32) (H : Hp) (q : Int32 × Hp) (post : Option Value → Hp → Prop) (h : f_X1_rec (n + 1) 3 x1 x2 H = some q) (hp : post (some (.int q.1)) q.2) : Sem D mdX1_markBy [.ref 58, .int x1, .int x2] H post := by
  obtain ⟨D, rfl⟩ : ∃ E, D = E + 1 := ⟨D - 1, by omega⟩
  refine sem_of (own := RX1) rfl pn_RX1 (Nat.le_of_ble_eq_true rfl) [.ref 58, .int x1, .int x2] ⟨Or.inr rfl, Or.inr rfl, Or.inr rfl, trivial⟩ ?_
  rw [f_X1_rec] at h
  refine st_iload_n dX1_markBy_0 rfl rfl ?_
  refine st_bipush dX1_markBy_1 (v := 12) (by decide) ?_
  refine st_ic_le dX1_markBy_3 8 (by decide) (fun c8 => ?_) (fun c8 => ?_)
  · replace h := (if_pos c8).symm.trans h
    refine st_aload_n dX1_markBy_8 rfl rfl ?_
    refine st_iload_n dX1_markBy_9 rfl rfl ?_
    obtain ⟨H1, e_H1, h⟩ := bnd h
    refine st_callV [.int x1] dX1_markBy_10 co_X1_leaveNumber im_X1_leaveNumber se_X1_leaveNumber ml_RX1_58 rfl (by decide) rfl (rfl : classes[1]? = some (RX1, TX1, 4)) rfl (S := []) rfl (Nat.le_of_ble_eq_true rfl) (k_X1_leaveNumber (by omega) x1 H _ e_H1 ?_)
    show V (D + 1) RX1 mdX1_markBy 13 [.ref 58, .int x1, .int x2] [] H1 post
    refine st_iload_n dX1_markBy_13 rfl rfl ?_
    by_cases s9 : x1 = 21
    · replace h := (if_pos s9).symm.trans h
      refine st_tabIn dX1_markBy_14 (by rw [s9]; decide) (by rw [s9]; decide) (by rw [s9] <;> rfl) 44 (by decide) ?_
      refine st_aload_n dX1_markBy_44 rfl rfl ?_
      refine st_bipush dX1_markBy_45 (v := 20) (by decide) ?_
      refine st_iload_n dX1_markBy_47 rfl rfl ?_
      refine st_iconst dX1_markBy_48 (v := 1) rfl ?_
      refine st_iadd dX1_markBy_49 ?_
      obtain ⟨q2, e_q2, h⟩ := bnd h
      refine st_callV [.int 20, .int (x2 + 1)] dX1_markBy_50 co_X1_markBy im_X1_markBy se_X1_markBy ml_RX1_47 rfl (by decide) rfl (rfl : classes[1]? = some (RX1, TX1, 4)) rfl (S := []) rfl (Nat.le_of_ble_eq_true rfl) ((ih _ (by omega)).2.2.2 20 (x2 + 1) H1 _ _ e_q2 ?_)
      show V (D + 1) RX1 mdX1_markBy 53 [.ref 58, .int x1, .int x2] [.int q2.1] q2.2 post
      refine st_aload_n dX1_markBy_53 rfl rfl ?_
      refine gR1 dX1_markBy_54 (by decide) rfl 0 (by decide) fl_RX1_15 rfl 38 rfl ?_
      refine gR2 dX1_markBy_57 (by decide) rfl 6 (by decide) fl_RX1_65 rfl 45 rfl ?_
      refine st_aload_n dX1_markBy_60 rfl rfl ?_
      refine gI1 dX1_markBy_61 (by decide) rfl 3 (by decide) fl_RX1_23 rfl rfl ?_
      obtain ⟨v3, e_v3, h⟩ := bnd h
      refine st_iald dX1_markBy_64 (by decide) rfl v3 e_v3 ?_
      refine st_iadd dX1_markBy_65 ?_
      obtain rfl := Option.some.inj h
      exact st_iret dX1_markBy_66 rfl hp
    · replace h := (if_neg s9).symm.trans h
      by_cases s10 : x1 = 22
      · replace h := (if_pos s10).symm.trans h
        refine st_tabIn dX1_markBy_14 (by rw [s10]; decide) (by rw [s10]; decide) (by rw [s10] <;> rfl) 67 (by decide) ?_
        refine st_aload_n dX1_markBy_67 rfl rfl ?_
        refine st_bipush dX1_markBy_68 (v := 21) (by decide) ?_
        refine st_iload_n dX1_markBy_70 rfl rfl ?_
        refine st_iconst dX1_markBy_71 (v := 1) rfl ?_
        refine st_iadd dX1_markBy_72 ?_
        obtain ⟨q4, e_q4, h⟩ := bnd h
        refine st_callV [.int 21, .int (x2 + 1)] dX1_markBy_73 co_X1_markBy im_X1_markBy se_X1_markBy ml_RX1_47 rfl (by decide) rfl (rfl : classes[1]? = some (RX1, TX1, 4)) rfl (S := []) rfl (Nat.le_of_ble_eq_true rfl) ((ih _ (by omega)).2.2.2 21 (x2 + 1) H1 _ _ e_q4 ?_)
        show V (D + 1) RX1 mdX1_markBy 76 [.ref 58, .int x1, .int x2] [.int q4.1] q4.2 post
        refine st_sipush dX1_markBy_76 (v := 1000) (by decide) ?_
        refine st_isub dX1_markBy_79 ?_
        obtain rfl := Option.some.inj h
        exact st_iret dX1_markBy_80 rfl hp
      · replace h := (if_neg s10).symm.trans h
        by_cases s11 : x1 = 23
        · replace h := (if_pos s11).symm.trans h
          refine st_tabIn dX1_markBy_14 (by rw [s11]; decide) (by rw [s11]; decide) (by rw [s11] <;> rfl) 81 (by decide) ?_
          refine st_aload_n dX1_markBy_81 rfl rfl ?_
          refine st_bipush dX1_markBy_82 (v := 20) (by decide) ?_
          refine st_iload_n dX1_markBy_84 rfl rfl ?_
          refine st_iconst dX1_markBy_85 (v := 1) rfl ?_
          refine st_iadd dX1_markBy_86 ?_
          obtain ⟨q5, e_q5, h⟩ := bnd h
          refine st_callV [.int 20, .int (x2 + 1)] dX1_markBy_87 co_X1_markBy im_X1_markBy se_X1_markBy ml_RX1_47 rfl (by decide) rfl (rfl : classes[1]? = some (RX1, TX1, 4)) rfl (S := []) rfl (Nat.le_of_ble_eq_true rfl) ((ih _ (by omega)).2.2.2 20 (x2 + 1) H1 _ _ e_q5 ?_)
          show V (D + 1) RX1 mdX1_markBy 90 [.ref 58, .int x1, .int x2] [.int q5.1] q5.2 post
          refine st_aload_n dX1_markBy_90 rfl rfl ?_
          refine st_iload_n dX1_markBy_91 rfl rfl ?_
          refine st_iconst dX1_markBy_92 (v := 1) rfl ?_
          refine st_iadd dX1_markBy_93 ?_
          obtain ⟨q6, e_q6, h⟩ := bnd h
          refine st_callV [.int (x2 + 1)] dX1_markBy_94 co_X1_size im_X1_size se_X1_size ml_RX1_26 rfl (by decide) rfl (rfl : classes[1]? = some (RX1, TX1, 4)) rfl (S := [.int q5.1]) rfl (Nat.le_of_ble_eq_true rfl) ((ih _ (by omega)).1 (x2 + 1) q5.2 _ _ e_q6 ?_)
          show V (D + 1) RX1 mdX1_markBy 97 [.ref 58, .int x1, .int x2] [.int q6.1, .int q5.1] q6.2 post
          refine st_isub dX1_markBy_97 ?_
          obtain rfl := Option.some.inj h
          exact st_iret dX1_markBy_98 rfl hp
        · replace h := (if_neg s11).symm.trans h
          by_cases s12 : x1 = 24
          · replace h := (if_pos s12).symm.trans h
            refine st_tabIn dX1_markBy_14 (by rw [s12]; decide) (by rw [s12]; decide) (by rw [s12] <;> rfl) 99 (by decide) ?_
            refine st_iconst dX1_markBy_99 (v := 2) rfl ?_
            refine st_aload_n dX1_markBy_100 rfl rfl ?_
            refine st_bipush dX1_markBy_101 (v := 21) (by decide) ?_
            refine st_iload_n dX1_markBy_103 rfl rfl ?_
            refine st_iconst dX1_markBy_104 (v := 1) rfl ?_
            refine st_iadd dX1_markBy_105 ?_
            obtain ⟨q7, e_q7, h⟩ := bnd h
            refine st_callV [.int 21, .int (x2 + 1)] dX1_markBy_106 co_X1_markBy im_X1_markBy se_X1_markBy ml_RX1_47 rfl (by decide) rfl (rfl : classes[1]? = some (RX1, TX1, 4)) rfl (S := [.int 2]) rfl (Nat.le_of_ble_eq_true rfl) ((ih _ (by omega)).2.2.2 21 (x2 + 1) H1 _ _ e_q7 ?_)
            show V (D + 1) RX1 mdX1_markBy 109 [.ref 58, .int x1, .int x2] [.int q7.1, .int 2] q7.2 post
            refine st_imul dX1_markBy_109 ?_
            obtain rfl := Option.some.inj h
            exact st_iret dX1_markBy_110 rfl hp
          · replace h := (if_neg s12).symm.trans h
            have ts9 := lv_neT s9 (a := 21) (by decide)
            have ts10 := lv_neT s10 (a := 22) (by decide)
            have ts11 := lv_neT s11 (a := 23) (by decide)
            have ts12 := lv_neT s12 (a := 24) (by decide)
            refine st_tabOut dX1_markBy_14 (by omega) 111 (by decide) ?_
            refine st_aload_n dX1_markBy_111 rfl rfl ?_
            refine gI1 dX1_markBy_112 (by decide) rfl 3 (by decide) fl_RX1_23 rfl rfl ?_
            obtain rfl := Option.some.inj h
            exact st_iret dX1_markBy_115 rfl hp
  · replace h := (if_neg c8).symm.trans h
    refine st_iconst dX1_markBy_6 (v := 0) rfl ?_
    obtain rfl := Option.some.inj h
    exact st_iret dX1_markBy_7 rfl hp
theorem k_X1_rec : ∀ n, IHX1 n := by
  intro n
  induction n with
  | zero =>
    intro D hD
    refine ⟨?_, ?_, ?_, ?_⟩ <;> intros <;> simp_all [f_X1_rec]
  | succ n ih => exact fun D hD => ⟨s_X1_size ih hD, s_X1_mark ih hD, s_X1_sizeBy ih hD, s_X1_markBy ih hD⟩
def f_X1_answer (x1 : Int32) (x2 : Int32) (H : Hp) : Option (Int32 × Hp) :=
  (pf H 58 2 0).bind fun H1 =>
  (pf H1 58 3 x1).bind fun H2 =>
  Option.bind (
    if x2 = 0 then
      (f_X1_rec 20 0 0 0 H2).bind fun q3 =>
      some (q3.1, q3.2)
    else
      (f_X1_rec 20 1 0 0 H2).bind fun q4 =>
      some (q4.1, q4.2)) fun j5 =>
  some (j5.1, j5.2)
set_option maxHeartbeats 4000000 in
set_option maxRecDepth 100000 in
theorem k_X1_answer {D : Nat} (hD : 22 ≤ D) (x1 : Int32) (x2 : Int32) (H : Hp) (q : Int32 × Hp) (h : f_X1_answer x1 x2 H = some q) {post : Option Value → Hp → Prop} (hp : post (some (.int q.1)) q.2) : Sem D mdX1_answer [.ref 58, .int x1, .int x2] H post := by
  obtain ⟨D, rfl⟩ : ∃ E, D = E + 1 := ⟨D - 1, by omega⟩
  refine sem_of (own := RX1) rfl pn_RX1 (Nat.le_of_ble_eq_true rfl) [.ref 58, .int x1, .int x2] ⟨Or.inr rfl, Or.inr rfl, Or.inr rfl, trivial⟩ ?_
  unfold f_X1_answer at h
  refine st_aload_n dX1_answer_0 rfl rfl ?_
  refine st_iconst dX1_answer_1 (v := 0) rfl ?_
  obtain ⟨H1, e_H1, h⟩ := bnd h
  refine pI1 dX1_answer_2 (by decide) rfl 2 (by decide) fl_RX1_19 rfl rfl rfl rfl e_H1 ?_
  refine st_aload_n dX1_answer_5 rfl rfl ?_
  refine st_iload_n dX1_answer_6 rfl rfl ?_
  obtain ⟨H2, e_H2, h⟩ := bnd h
  refine pI1 dX1_answer_7 (by decide) rfl 3 (by decide) fl_RX1_23 rfl rfl rfl rfl e_H2 ?_
  refine st_iload_n dX1_answer_10 rfl rfl ?_
  obtain ⟨j5, e_j5, h⟩ := bnd h
  have kj6 : V (D + 1) RX1 mdX1_answer 27 [.null, .null, .null] [.int j5.1] j5.2 post := by
    obtain rfl := Option.some.inj h
    exact st_iret dX1_answer_27 rfl hp
  refine st_if_ne dX1_answer_11 22 (by decide) (fun c7 => ?_) (fun c7 => ?_)
  · replace e_j5 := (if_neg c7).symm.trans e_j5
    refine st_aload_n dX1_answer_22 rfl rfl ?_
    refine st_iconst dX1_answer_23 (v := 0) rfl ?_
    obtain ⟨q4, e_q4, e_j5⟩ := bnd e_j5
    refine st_callV [.int 0] dX1_answer_24 co_X1_mark im_X1_mark se_X1_mark ml_RX1_30 rfl (by decide) rfl (rfl : classes[1]? = some (RX1, TX1, 4)) rfl (S := []) rfl (Nat.le_of_ble_eq_true rfl) ((k_X1_rec _ _ (by omega)).2.1 0 H2 _ _ e_q4 ?_)
    show V (D + 1) RX1 mdX1_answer 27 [.ref 58, .int x1, .int x2] [.int q4.1] q4.2 post
    obtain rfl := Option.some.inj e_j5
    exact st_sub [.null, .null, .null] ⟨Or.inl rfl, Or.inl rfl, Or.inl rfl, trivial⟩ kj6
  · replace e_j5 := (if_pos c7).symm.trans e_j5
    refine st_aload_n dX1_answer_14 rfl rfl ?_
    refine st_iconst dX1_answer_15 (v := 0) rfl ?_
    obtain ⟨q3, e_q3, e_j5⟩ := bnd e_j5
    refine st_callV [.int 0] dX1_answer_16 co_X1_size im_X1_size se_X1_size ml_RX1_26 rfl (by decide) rfl (rfl : classes[1]? = some (RX1, TX1, 4)) rfl (S := []) rfl (Nat.le_of_ble_eq_true rfl) ((k_X1_rec _ _ (by omega)).1 0 H2 _ _ e_q3 ?_)
    show V (D + 1) RX1 mdX1_answer 19 [.ref 58, .int x1, .int x2] [.int q3.1] q3.2 post
    refine st_goto dX1_answer_19 27 (by decide) ?_
    obtain rfl := Option.some.inj e_j5
    exact st_sub [.null, .null, .null] ⟨Or.inl rfl, Or.inl rfl, Or.inl rfl, trivial⟩ kj6
def f_X7_ask (x1 : Int32) (x2 : Int32) (H : Hp) : Option (Int32 × Hp) :=
  (f_X7_isProject x1 H).bind fun v1 =>
  if v1 = 0 then
    some ((-1000001), H)
  else
    (f_X7_within x2 0 1).bind fun v2 =>
    if v2 = 0 then
      some ((-1000001), H)
    else
      (f_X2_load H).bind fun H3 =>
      (f_X1_answer x1 x2 H3).bind fun q4 =>
      some (q4.1, q4.2)
set_option maxHeartbeats 4000000 in
set_option maxRecDepth 100000 in
theorem k_X7_ask {D : Nat} (hD : 23 ≤ D) (x1 : Int32) (x2 : Int32) (H : Hp) (q : Int32 × Hp) (h : f_X7_ask x1 x2 H = some q) {post : Option Value → Hp → Prop} (hp : post (some (.int q.1)) q.2) : Sem D mdX7_ask [.ref 0, .int x1, .int x2] H post := by
  obtain ⟨D, rfl⟩ : ∃ E, D = E + 1 := ⟨D - 1, by omega⟩
  refine sem_of (own := RX7) rfl pn_RX7 (Nat.le_of_ble_eq_true rfl) [.ref 0, .int x1, .int x2] ⟨Or.inr rfl, Or.inr rfl, Or.inr rfl, trivial⟩ ?_
  unfold f_X7_ask at h
  refine st_aload_n dX7_ask_0 rfl rfl ?_
  refine st_iload_n dX7_ask_1 rfl rfl ?_
  obtain ⟨v1, e_v1, h⟩ := bnd h
  refine st_callV [.int x1] dX7_ask_2 co_X7_isProject im_X7_isProject se_X7_isProject ml_RX7_152 rfl (by decide) rfl (rfl : classes[7]? = some (RX7, TX7, 11)) rfl (S := []) rfl (Nat.le_of_ble_eq_true rfl) (k_X7_isProject (by omega) x1 H _ e_v1 ?_)
  show V (D + 1) RX7 mdX7_ask 5 [.ref 0, .int x1, .int x2] [.int v1] H post
  refine st_if_eq dX7_ask_5 17 (by decide) (fun c5 => ?_) (fun c5 => ?_)
  · replace h := (if_pos c5).symm.trans h
    refine st_ldc dX7_ask_17 cn_RX7_77 ?_
    obtain rfl := Option.some.inj h
    exact st_iret dX7_ask_19 rfl hp
  · replace h := (if_neg c5).symm.trans h
    refine st_iload_n dX7_ask_8 rfl rfl ?_
    refine st_iconst dX7_ask_9 (v := 0) rfl ?_
    refine st_iconst dX7_ask_10 (v := 1) rfl ?_
    obtain ⟨v2, e_v2, h⟩ := bnd h
    refine st_callS [.int x2, .int 0, .int 1] dX7_ask_11 co_X7_within sm_X7_within ml_RX7_73 rfl (S := []) rfl (Nat.le_of_ble_eq_true rfl) (k_X7_within (by omega) x2 0 1 H _ e_v2 ?_)
    show V (D + 1) RX7 mdX7_ask 14 [.ref 0, .int x1, .int x2] [.int v2] H post
    refine st_if_ne dX7_ask_14 20 (by decide) (fun c6 => ?_) (fun c6 => ?_)
    · replace h := (if_neg c6).symm.trans h
      refine st_aload_n dX7_ask_20 rfl rfl ?_
      refine gR7 dX7_ask_21 (by decide) rfl 6 (by decide) fl_RX7_47 rfl 38 rfl ?_
      refine st_aload_n dX7_ask_24 rfl rfl ?_
      refine gR7 dX7_ask_25 (by decide) rfl 2 (by decide) fl_RX7_26 rfl 7 rfl ?_
      obtain ⟨H3, e_H3, h⟩ := bnd h
      refine st_callV [.ref 7] dX7_ask_28 co_X2_load im_X2_load se_X2_load ml_RX7_221 rfl (by decide) rfl (rfl : classes[2]? = some (RX2, TX2, 15)) rfl (S := []) rfl (Nat.le_of_ble_eq_true rfl) (k_X2_load (by omega) H _ e_H3 ?_)
      show V (D + 1) RX7 mdX7_ask 31 [.ref 0, .int x1, .int x2] [] H3 post
      refine st_aload_n dX7_ask_31 rfl rfl ?_
      refine gR7 dX7_ask_32 (by decide) rfl 8 (by decide) fl_RX7_65 rfl 58 rfl ?_
      refine st_iload_n dX7_ask_35 rfl rfl ?_
      refine st_iload_n dX7_ask_36 rfl rfl ?_
      obtain ⟨q4, e_q4, h⟩ := bnd h
      refine st_callV [.int x1, .int x2] dX7_ask_37 co_X1_answer im_X1_answer se_X1_answer ml_RX7_299 rfl (by decide) rfl (rfl : classes[1]? = some (RX1, TX1, 4)) rfl (S := []) rfl (Nat.le_of_ble_eq_true rfl) (k_X1_answer (by omega) x1 x2 H3 _ e_q4 ?_)
      show V (D + 1) RX7 mdX7_ask 40 [.ref 0, .int x1, .int x2] [.int q4.1] q4.2 post
      obtain rfl := Option.some.inj h
      exact st_iret dX7_ask_40 rfl hp
    · replace h := (if_pos c6).symm.trans h
      refine st_ldc dX7_ask_17 cn_RX7_77 ?_
      obtain rfl := Option.some.inj h
      exact st_iret dX7_ask_19 rfl hp
def f_X7_trace (x1 : Int32) (H : Hp) : Option (Int32) :=
  Option.bind (
    if x1 < 0 then
      some (-1000000)
    else
      if (H 58 2) ≤ x1 then
        some (-1000000)
      else
        (ag H 59 16 x1).bind fun v1 =>
        some v1) fun j2 =>
  some j2
set_option maxHeartbeats 4000000 in
set_option maxRecDepth 100000 in
theorem k_X7_trace {D : Nat} (hD : 0 ≤ D) (x1 : Int32) (H : Hp) (q : Int32) (h : f_X7_trace x1 H = some q) {post : Option Value → Hp → Prop} (hp : post (some (.int q)) H) : Sem D mdX7_trace [.ref 0, .int x1] H post := by
  refine sem_of (own := RX7) rfl pn_RX7 (Nat.le_of_ble_eq_true rfl) [.ref 0, .int x1] ⟨Or.inr rfl, Or.inr rfl, trivial⟩ ?_
  unfold f_X7_trace at h
  refine st_iload_n dX7_trace_0 rfl rfl ?_
  obtain ⟨j2, e_j2, h⟩ := bnd h
  have kj3 : V D RX7 mdX7_trace 30 [.null, .null] [.int j2] H post := by
    obtain rfl := Option.some.inj h
    exact st_iret dX7_trace_30 rfl hp
  refine st_if_lt dX7_trace_1 27 (by decide) (fun c4 => ?_) (fun c4 => ?_)
  · replace e_j2 := (if_pos c4).symm.trans e_j2
    refine st_ldcw dX7_trace_27 cn_RX7_308 ?_
    obtain rfl := Option.some.inj e_j2
    exact st_sub [.null, .null] ⟨Or.inl rfl, Or.inl rfl, trivial⟩ kj3
  · replace e_j2 := (if_neg c4).symm.trans e_j2
    refine st_iload_n dX7_trace_4 rfl rfl ?_
    refine st_aload_n dX7_trace_5 rfl rfl ?_
    refine gR7 dX7_trace_6 (by decide) rfl 8 (by decide) fl_RX7_65 rfl 58 rfl ?_
    refine gI1 dX7_trace_9 (by decide) rfl 2 (by decide) fl_RX7_302 rfl rfl ?_
    refine st_ic_ge dX7_trace_12 27 (by decide) (fun c5 => ?_) (fun c5 => ?_)
    · replace e_j2 := (if_pos c5).symm.trans e_j2
      refine st_ldcw dX7_trace_27 cn_RX7_308 ?_
      obtain rfl := Option.some.inj e_j2
      exact st_sub [.null, .null] ⟨Or.inl rfl, Or.inl rfl, trivial⟩ kj3
    · replace e_j2 := (if_neg c5).symm.trans e_j2
      refine st_aload_n dX7_trace_15 rfl rfl ?_
      refine gR7 dX7_trace_16 (by decide) rfl 8 (by decide) fl_RX7_65 rfl 58 rfl ?_
      refine gR1 dX7_trace_19 (by decide) rfl 1 (by decide) fl_RX7_305 rfl 59 rfl ?_
      refine st_iload_n dX7_trace_22 rfl rfl ?_
      obtain ⟨v1, e_v1, e_j2⟩ := bnd e_j2
      refine st_iald dX7_trace_23 (by decide) rfl v1 e_v1 ?_
      refine st_goto dX7_trace_24 30 (by decide) ?_
      obtain rfl := Option.some.inj e_j2
      exact st_sub [.null, .null] ⟨Or.inl rfl, Or.inl rfl, trivial⟩ kj3
