def f_X2_sumFrom (x1 : Int32) (x2 : Int32) (H : Hp) : Option (Int32) :=
  (ag H 39 60 ((x1 * 6) + x2)).bind fun v1 =>
  some v1
set_option maxHeartbeats 4000000 in
set_option maxRecDepth 100000 in
theorem k_X2_sumFrom {D : Nat} (hD : 0 ≤ D) (x1 : Int32) (x2 : Int32) (H : Hp) (q : Int32) (h : f_X2_sumFrom x1 x2 H = some q) {post : Option Value → Hp → Prop} (hp : post (some (.int q)) H) : Sem D mdX2_sumFrom [.ref 38, .int x1, .int x2] H post := by
  refine sem_of (own := RX2) rfl pn_RX2 (Nat.le_of_ble_eq_true rfl) [.ref 38, .int x1, .int x2] ⟨Or.inr rfl, Or.inr rfl, Or.inr rfl, trivial⟩ ?_
  unfold f_X2_sumFrom at h
  refine st_aload_n dX2_sumFrom_0 rfl rfl ?_
  refine gR2 dX2_sumFrom_1 (by decide) rfl 0 (by decide) fl_RX2_9 rfl 39 rfl ?_
  refine st_iload_n dX2_sumFrom_4 rfl rfl ?_
  refine st_bipush dX2_sumFrom_5 (v := 6) (by decide) ?_
  refine st_imul dX2_sumFrom_7 ?_
  refine st_iload_n dX2_sumFrom_8 rfl rfl ?_
  refine st_iadd dX2_sumFrom_9 ?_
  obtain ⟨v1, e_v1, h⟩ := bnd h
  refine st_iald dX2_sumFrom_10 (by decide) rfl v1 e_v1 ?_
  obtain rfl := Option.some.inj h
  exact st_iret dX2_sumFrom_11 rfl hp
def f_X7_sum (x1 : Int32) (x2 : Int32) (H : Hp) : Option (Int32 × Hp) :=
  (f_X7_isGiver x1).bind fun v1 =>
  if v1 = 0 then
    some ((-1000001), H)
  else
    (f_X7_isProject x2 H).bind fun v2 =>
    if v2 = 0 then
      some ((-1000001), H)
    else
      (f_X2_lay H).bind fun H3 =>
      (f_X2_sumFrom x1 x2 H3).bind fun v4 =>
      some (v4, H3)
set_option maxHeartbeats 4000000 in
set_option maxRecDepth 100000 in
theorem k_X7_sum {D : Nat} (hD : 2 ≤ D) (x1 : Int32) (x2 : Int32) (H : Hp) (q : Int32 × Hp) (h : f_X7_sum x1 x2 H = some q) {post : Option Value → Hp → Prop} (hp : post (some (.int q.1)) q.2) : Sem D mdX7_sum [.ref 0, .int x1, .int x2] H post := by
  obtain ⟨D, rfl⟩ : ∃ E, D = E + 1 := ⟨D - 1, by omega⟩
  refine sem_of (own := RX7) rfl pn_RX7 (Nat.le_of_ble_eq_true rfl) [.ref 0, .int x1, .int x2] ⟨Or.inr rfl, Or.inr rfl, Or.inr rfl, trivial⟩ ?_
  unfold f_X7_sum at h
  refine st_iload_n dX7_sum_0 rfl rfl ?_
  obtain ⟨v1, e_v1, h⟩ := bnd h
  refine st_callS [.int x1] dX7_sum_1 co_X7_isGiver sm_X7_isGiver ml_RX7_149 rfl (S := []) rfl (Nat.le_of_ble_eq_true rfl) (k_X7_isGiver (by omega) x1 H _ e_v1 ?_)
  show V (D + 1) RX7 mdX7_sum 4 [.ref 0, .int x1, .int x2] [.int v1] H post
  refine st_if_eq dX7_sum_4 15 (by decide) (fun c5 => ?_) (fun c5 => ?_)
  · replace h := (if_pos c5).symm.trans h
    refine st_ldc dX7_sum_15 cn_RX7_77 ?_
    obtain rfl := Option.some.inj h
    exact st_iret dX7_sum_17 rfl hp
  · replace h := (if_neg c5).symm.trans h
    refine st_aload_n dX7_sum_7 rfl rfl ?_
    refine st_iload_n dX7_sum_8 rfl rfl ?_
    obtain ⟨v2, e_v2, h⟩ := bnd h
    refine st_callV [.int x2] dX7_sum_9 co_X7_isProject im_X7_isProject se_X7_isProject ml_RX7_152 rfl (by decide) rfl (rfl : classes[7]? = some (RX7, TX7, 11)) rfl (S := []) rfl (Nat.le_of_ble_eq_true rfl) (k_X7_isProject (by omega) x2 H _ e_v2 ?_)
    show V (D + 1) RX7 mdX7_sum 12 [.ref 0, .int x1, .int x2] [.int v2] H post
    refine st_if_ne dX7_sum_12 18 (by decide) (fun c6 => ?_) (fun c6 => ?_)
    · replace h := (if_neg c6).symm.trans h
      refine st_aload_n dX7_sum_18 rfl rfl ?_
      refine gR7 dX7_sum_19 (by decide) rfl 6 (by decide) fl_RX7_47 rfl 38 rfl ?_
      refine st_aload_n dX7_sum_22 rfl rfl ?_
      refine gR7 dX7_sum_23 (by decide) rfl 2 (by decide) fl_RX7_26 rfl 7 rfl ?_
      obtain ⟨H3, e_H3, h⟩ := bnd h
      refine st_callV [.ref 7] dX7_sum_26 co_X2_lay im_X2_lay se_X2_lay ml_RX7_208 rfl (by decide) rfl (rfl : classes[2]? = some (RX2, TX2, 15)) rfl (S := []) rfl (Nat.le_of_ble_eq_true rfl) (k_X2_lay (by omega) H _ e_H3 ?_)
      show V (D + 1) RX7 mdX7_sum 29 [.ref 0, .int x1, .int x2] [] H3 post
      refine st_aload_n dX7_sum_29 rfl rfl ?_
      refine gR7 dX7_sum_30 (by decide) rfl 6 (by decide) fl_RX7_47 rfl 38 rfl ?_
      refine st_iload_n dX7_sum_33 rfl rfl ?_
      refine st_iload_n dX7_sum_34 rfl rfl ?_
      obtain ⟨v4, e_v4, h⟩ := bnd h
      refine st_callV [.int x1, .int x2] dX7_sum_35 co_X2_sumFrom im_X2_sumFrom se_X2_sumFrom ml_RX7_210 rfl (by decide) rfl (rfl : classes[2]? = some (RX2, TX2, 15)) rfl (S := []) rfl (Nat.le_of_ble_eq_true rfl) (k_X2_sumFrom (by omega) x1 x2 H3 _ e_v4 ?_)
      show V (D + 1) RX7 mdX7_sum 38 [.ref 0, .int x1, .int x2] [.int v4] H3 post
      obtain rfl := Option.some.inj h
      exact st_iret dX7_sum_38 rfl hp
    · replace h := (if_pos c6).symm.trans h
      refine st_ldc dX7_sum_15 cn_RX7_77 ?_
      obtain rfl := Option.some.inj h
      exact st_iret dX7_sum_17 rfl hp
def f_X2_overlapOf_l5 (H : Hp) (x1 : Int32) (x2 : Int32) : Nat → Int32 → Int32 → Option (Int32)
  | 0, _, _ => none
  | n + 1, x3, x4 =>
    if (H 38 10) ≤ x4 then
      some x3
    else
      (ag H 40 60 ((x1 * 6) + x4)).bind fun v1 =>
      (ag H 40 60 ((x2 * 6) + x4)).bind fun v2 =>
      f_X2_overlapOf_l5 H x1 x2 n (x3 + (v1 * v2)) (x4 + 1)
def f_X2_overlapOf (x1 : Int32) (x2 : Int32) (H : Hp) : Option (Int32) :=
  (f_X2_overlapOf_l5 H x1 x2 fuel 0 0).bind fun l4 =>
  some (l4 / 10000)
set_option maxHeartbeats 4000000 in
set_option maxRecDepth 100000 in
theorem k_X2_overlapOf_l5 {D : Nat} (hD : 0 ≤ D) (H : Hp) (x1 : Int32) (x2 : Int32) {post : Option Value → Hp → Prop} : ∀ (n : Nat) (x3 : Int32) (x4 : Int32) (q : Int32), f_X2_overlapOf_l5 H x1 x2 n x3 x4 = some q → V D RX2 mdX2_overlapOf 48 [.null, .null, .null, .int q, .null] [] H post → V D RX2 mdX2_overlapOf 5 [.ref 38, .int x1, .int x2, .int x3, .int x4] [] H post := by
  intro n
  induction n with
  | zero => intro x3 x4 q h; simp [f_X2_overlapOf_l5] at h
  | succ n ih =>
    intro x3 x4 q h k1
    rw [f_X2_overlapOf_l5] at h
    refine st_iload dX2_overlapOf_5 rfl ?_
    refine st_aload_n dX2_overlapOf_7 rfl rfl ?_
    refine gI2 dX2_overlapOf_8 (by decide) rfl 10 (by decide) fl_RX2_49 rfl rfl ?_
    refine st_ic_ge dX2_overlapOf_11 48 (by decide) (fun c3 => ?_) (fun c3 => ?_)
    · replace h := (if_pos c3).symm.trans h
      obtain rfl := Option.some.inj h
      exact st_sub [.null, .null, .null, .int x3, .null] ⟨Or.inl rfl, Or.inl rfl, Or.inl rfl, Or.inr rfl, Or.inl rfl, trivial⟩ k1
    · replace h := (if_neg c3).symm.trans h
      refine st_iload_n dX2_overlapOf_14 rfl rfl ?_
      refine st_aload_n dX2_overlapOf_15 rfl rfl ?_
      refine gR2 dX2_overlapOf_16 (by decide) rfl 1 (by decide) fl_RX2_15 rfl 40 rfl ?_
      refine st_iload_n dX2_overlapOf_19 rfl rfl ?_
      refine st_bipush dX2_overlapOf_20 (v := 6) (by decide) ?_
      refine st_imul dX2_overlapOf_22 ?_
      refine st_iload dX2_overlapOf_23 rfl ?_
      refine st_iadd dX2_overlapOf_25 ?_
      obtain ⟨v1, e_v1, h⟩ := bnd h
      refine st_iald dX2_overlapOf_26 (by decide) rfl v1 e_v1 ?_
      refine st_aload_n dX2_overlapOf_27 rfl rfl ?_
      refine gR2 dX2_overlapOf_28 (by decide) rfl 1 (by decide) fl_RX2_15 rfl 40 rfl ?_
      refine st_iload_n dX2_overlapOf_31 rfl rfl ?_
      refine st_bipush dX2_overlapOf_32 (v := 6) (by decide) ?_
      refine st_imul dX2_overlapOf_34 ?_
      refine st_iload dX2_overlapOf_35 rfl ?_
      refine st_iadd dX2_overlapOf_37 ?_
      obtain ⟨v2, e_v2, h⟩ := bnd h
      refine st_iald dX2_overlapOf_38 (by decide) rfl v2 e_v2 ?_
      refine st_imul dX2_overlapOf_39 ?_
      refine st_iadd dX2_overlapOf_40 ?_
      refine st_istore_n dX2_overlapOf_41 rfl (by decide) [.ref 38, .int x1, .int x2, .int (x3 + (v1 * v2)), .int x4] rfl ?_
      refine st_iinc dX2_overlapOf_42 rfl (v := (x4 + 1)) rfl (by decide) [.ref 38, .int x1, .int x2, .int (x3 + (v1 * v2)), .int (x4 + 1)] rfl ?_
      refine st_goto dX2_overlapOf_45 5 (by decide) ?_
      exact ih (x3 + (v1 * v2)) (x4 + 1) q h k1
set_option maxHeartbeats 4000000 in
set_option maxRecDepth 100000 in
theorem k_X2_overlapOf {D : Nat} (hD : 0 ≤ D) (x1 : Int32) (x2 : Int32) (H : Hp) (q : Int32) (h : f_X2_overlapOf x1 x2 H = some q) {post : Option Value → Hp → Prop} (hp : post (some (.int q)) H) : Sem D mdX2_overlapOf [.ref 38, .int x1, .int x2] H post := by
  refine sem_of (own := RX2) rfl pn_RX2 (Nat.le_of_ble_eq_true rfl) [.ref 38, .int x1, .int x2, .null, .null] ⟨Or.inr rfl, Or.inr rfl, Or.inr rfl, rfl, rfl, trivial⟩ ?_
  unfold f_X2_overlapOf at h
  refine st_iconst dX2_overlapOf_0 (v := 0) rfl ?_
  refine st_istore_n dX2_overlapOf_1 rfl (by decide) [.ref 38, .int x1, .int x2, .int 0, .null] rfl ?_
  refine st_iconst dX2_overlapOf_2 (v := 0) rfl ?_
  refine st_istore dX2_overlapOf_3 (by decide) [.ref 38, .int x1, .int x2, .int 0, .int 0] rfl ?_
  obtain ⟨l4, e_l4, h⟩ := bnd h
  refine k_X2_overlapOf_l5 (by omega) H x1 x2 fuel 0 0 _ e_l4 ?_
  refine st_iload_n dX2_overlapOf_48 rfl rfl ?_
  refine st_sipush dX2_overlapOf_49 (v := 10000) (by decide) ?_
  refine st_idiv dX2_overlapOf_52 (by decide) ?_
  obtain rfl := Option.some.inj h
  exact st_iret dX2_overlapOf_53 rfl hp
def f_X7_overlap (x1 : Int32) (x2 : Int32) (H : Hp) : Option (Int32 × Hp) :=
  if (H 7 0) = 0 then
    some ((-1000002), H)
  else
    (f_X7_areTwoGivers x1 x2).bind fun v1 =>
    if v1 = 0 then
      some ((-1000001), H)
    else
      (f_X2_lay H).bind fun H2 =>
      (f_X2_overlapOf x1 x2 H2).bind fun v3 =>
      some (v3, H2)
set_option maxHeartbeats 4000000 in
set_option maxRecDepth 100000 in
theorem k_X7_overlap {D : Nat} (hD : 3 ≤ D) (x1 : Int32) (x2 : Int32) (H : Hp) (q : Int32 × Hp) (h : f_X7_overlap x1 x2 H = some q) {post : Option Value → Hp → Prop} (hp : post (some (.int q.1)) q.2) : Sem D mdX7_overlap [.ref 0, .int x1, .int x2] H post := by
  obtain ⟨D, rfl⟩ : ∃ E, D = E + 1 := ⟨D - 1, by omega⟩
  refine sem_of (own := RX7) rfl pn_RX7 (Nat.le_of_ble_eq_true rfl) [.ref 0, .int x1, .int x2] ⟨Or.inr rfl, Or.inr rfl, Or.inr rfl, trivial⟩ ?_
  unfold f_X7_overlap at h
  refine st_aload_n dX7_overlap_0 rfl rfl ?_
  refine gR7 dX7_overlap_1 (by decide) rfl 2 (by decide) fl_RX7_26 rfl 7 rfl ?_
  refine gI4 dX7_overlap_4 (by decide) rfl 0 (by decide) fl_RX7_181 rfl rfl ?_
  refine st_if_ne dX7_overlap_7 13 (by decide) (fun c4 => ?_) (fun c4 => ?_)
  · replace h := (if_neg c4).symm.trans h
    refine st_iload_n dX7_overlap_13 rfl rfl ?_
    refine st_iload_n dX7_overlap_14 rfl rfl ?_
    obtain ⟨v1, e_v1, h⟩ := bnd h
    refine st_callS [.int x1, .int x2] dX7_overlap_15 co_X7_areTwoGivers sm_X7_areTwoGivers ml_RX7_191 rfl (S := []) rfl (Nat.le_of_ble_eq_true rfl) (k_X7_areTwoGivers (by omega) x1 x2 H _ e_v1 ?_)
    show V (D + 1) RX7 mdX7_overlap 18 [.ref 0, .int x1, .int x2] [.int v1] H post
    refine st_if_ne dX7_overlap_18 24 (by decide) (fun c5 => ?_) (fun c5 => ?_)
    · replace h := (if_neg c5).symm.trans h
      refine st_aload_n dX7_overlap_24 rfl rfl ?_
      refine gR7 dX7_overlap_25 (by decide) rfl 6 (by decide) fl_RX7_47 rfl 38 rfl ?_
      refine st_aload_n dX7_overlap_28 rfl rfl ?_
      refine gR7 dX7_overlap_29 (by decide) rfl 2 (by decide) fl_RX7_26 rfl 7 rfl ?_
      obtain ⟨H2, e_H2, h⟩ := bnd h
      refine st_callV [.ref 7] dX7_overlap_32 co_X2_lay im_X2_lay se_X2_lay ml_RX7_208 rfl (by decide) rfl (rfl : classes[2]? = some (RX2, TX2, 15)) rfl (S := []) rfl (Nat.le_of_ble_eq_true rfl) (k_X2_lay (by omega) H _ e_H2 ?_)
      show V (D + 1) RX7 mdX7_overlap 35 [.ref 0, .int x1, .int x2] [] H2 post
      refine st_aload_n dX7_overlap_35 rfl rfl ?_
      refine gR7 dX7_overlap_36 (by decide) rfl 6 (by decide) fl_RX7_47 rfl 38 rfl ?_
      refine st_iload_n dX7_overlap_39 rfl rfl ?_
      refine st_iload_n dX7_overlap_40 rfl rfl ?_
      obtain ⟨v3, e_v3, h⟩ := bnd h
      refine st_callV [.int x1, .int x2] dX7_overlap_41 co_X2_overlapOf im_X2_overlapOf se_X2_overlapOf ml_RX7_214 rfl (by decide) rfl (rfl : classes[2]? = some (RX2, TX2, 15)) rfl (S := []) rfl (Nat.le_of_ble_eq_true rfl) (k_X2_overlapOf (by omega) x1 x2 H2 _ e_v3 ?_)
      show V (D + 1) RX7 mdX7_overlap 44 [.ref 0, .int x1, .int x2] [.int v3] H2 post
      obtain rfl := Option.some.inj h
      exact st_iret dX7_overlap_44 rfl hp
    · replace h := (if_pos c5).symm.trans h
      refine st_ldc dX7_overlap_21 cn_RX7_77 ?_
      obtain rfl := Option.some.inj h
      exact st_iret dX7_overlap_23 rfl hp
  · replace h := (if_pos c4).symm.trans h
    refine st_ldc dX7_overlap_10 cn_RX7_145 ?_
    obtain rfl := Option.some.inj h
    exact st_iret dX7_overlap_12 rfl hp
def f_X2_termOf (x1 : Int32) (x2 : Int32) (x3 : Int32) (x4 : Int32) (H : Hp) : Option (Int32) :=
  (ag H 40 60 ((x1 * 6) + x3)).bind fun v1 =>
  (ag H 40 60 ((x2 * 6) + x3)).bind fun v2 =>
  if (v1 * v2) = 0 then
    some 0
  else
    if 0 < (10000 * ((H 38 12) + x4).toInt64) then
      if (10000 * ((H 38 12) + x4).toInt64) = 0 then none else
      some (((2 * (v1 * v2).toInt64) * (H 38 12).toInt64) / (10000 * ((H 38 12) + x4).toInt64)).toInt32
    else
      some 0
set_option maxHeartbeats 4000000 in
set_option maxRecDepth 100000 in
theorem k_X2_termOf {D : Nat} (hD : 0 ≤ D) (x1 : Int32) (x2 : Int32) (x3 : Int32) (x4 : Int32) (H : Hp) (q : Int32) (h : f_X2_termOf x1 x2 x3 x4 H = some q) {post : Option Value → Hp → Prop} (hp : post (some (.int q)) H) : Sem D mdX2_termOf [.ref 38, .int x1, .int x2, .int x3, .int x4] H post := by
  refine sem_of (own := RX2) rfl pn_RX2 (Nat.le_of_ble_eq_true rfl) [.ref 38, .int x1, .int x2, .int x3, .int x4, .null, .null, .null] ⟨Or.inr rfl, Or.inr rfl, Or.inr rfl, Or.inr rfl, Or.inr rfl, rfl, rfl, rfl, trivial⟩ ?_
  unfold f_X2_termOf at h
  refine st_aload_n dX2_termOf_0 rfl rfl ?_
  refine gR2 dX2_termOf_1 (by decide) rfl 1 (by decide) fl_RX2_15 rfl 40 rfl ?_
  refine st_iload_n dX2_termOf_4 rfl rfl ?_
  refine st_bipush dX2_termOf_5 (v := 6) (by decide) ?_
  refine st_imul dX2_termOf_7 ?_
  refine st_iload_n dX2_termOf_8 rfl rfl ?_
  refine st_iadd dX2_termOf_9 ?_
  obtain ⟨v1, e_v1, h⟩ := bnd h
  refine st_iald dX2_termOf_10 (by decide) rfl v1 e_v1 ?_
  refine st_aload_n dX2_termOf_11 rfl rfl ?_
  refine gR2 dX2_termOf_12 (by decide) rfl 1 (by decide) fl_RX2_15 rfl 40 rfl ?_
  refine st_iload_n dX2_termOf_15 rfl rfl ?_
  refine st_bipush dX2_termOf_16 (v := 6) (by decide) ?_
  refine st_imul dX2_termOf_18 ?_
  refine st_iload_n dX2_termOf_19 rfl rfl ?_
  refine st_iadd dX2_termOf_20 ?_
  obtain ⟨v2, e_v2, h⟩ := bnd h
  refine st_iald dX2_termOf_21 (by decide) rfl v2 e_v2 ?_
  refine st_imul dX2_termOf_22 ?_
  refine st_istore dX2_termOf_23 (by decide) [.ref 38, .int x1, .int x2, .int x3, .int x4, .int (v1 * v2), .null, .null] rfl ?_
  refine st_ldc2 dX2_termOf_25 cl_RX2_92 ?_
  refine st_aload_n dX2_termOf_28 rfl rfl ?_
  refine gI2 dX2_termOf_29 (by decide) rfl 12 (by decide) fl_RX2_57 rfl rfl ?_
  refine st_iload dX2_termOf_32 rfl ?_
  refine st_iadd dX2_termOf_34 ?_
  refine st_i2l dX2_termOf_35 ?_
  refine st_lmul dX2_termOf_36 ?_
  refine st_lstore dX2_termOf_37 (by decide) [.ref 38, .int x1, .int x2, .int x3, .int x4, .int (v1 * v2), .long (10000 * ((H 38 12) + x4).toInt64), .null] rfl ?_
  refine st_iload dX2_termOf_39 rfl ?_
  refine st_if_eq dX2_termOf_41 51 (by decide) (fun c3 => ?_) (fun c3 => ?_)
  · replace h := (if_pos c3).symm.trans h
    refine st_iconst dX2_termOf_51 (v := 0) rfl ?_
    obtain rfl := Option.some.inj h
    exact st_iret dX2_termOf_52 rfl hp
  · replace h := (if_neg c3).symm.trans h
    refine st_lload dX2_termOf_44 rfl ?_
    refine st_lconst dX2_termOf_46 (v := 0) rfl ?_
    refine st_lcmp dX2_termOf_47 ?_
    refine st_if_gt dX2_termOf_48 53 (by decide) (fun c4 => ?_) (fun c4 => ?_)
    · replace c4 := (lg_cmp_gt (10000 * ((H 38 12) + x4).toInt64) 0).mp c4
      replace h := (if_pos c4).symm.trans h
      refine st_ldc2 dX2_termOf_53 cl_RX2_94 ?_
      refine st_iload dX2_termOf_56 rfl ?_
      refine st_i2l dX2_termOf_58 ?_
      refine st_lmul dX2_termOf_59 ?_
      refine st_aload_n dX2_termOf_60 rfl rfl ?_
      refine gI2 dX2_termOf_61 (by decide) rfl 12 (by decide) fl_RX2_57 rfl rfl ?_
      refine st_i2l dX2_termOf_64 ?_
      refine st_lmul dX2_termOf_65 ?_
      refine st_lload dX2_termOf_66 rfl ?_
      have n5 : ¬ (10000 * ((H 38 12) + x4).toInt64) = 0 := fun z => by rw [if_pos z] at h; cases h
      replace h := (if_neg n5).symm.trans h
      refine st_ldiv dX2_termOf_68 n5 ?_
      refine st_l2i dX2_termOf_69 ?_
      obtain rfl := Option.some.inj h
      exact st_iret dX2_termOf_70 rfl hp
    · replace c4 := (not_congr (lg_cmp_gt (10000 * ((H 38 12) + x4).toInt64) 0)).mp c4
      replace h := (if_neg c4).symm.trans h
      refine st_iconst dX2_termOf_51 (v := 0) rfl ?_
      obtain rfl := Option.some.inj h
      exact st_iret dX2_termOf_52 rfl hp
def f_X7_term (x1 : Int32) (x2 : Int32) (x3 : Int32) (H : Hp) : Option (Int32 × Hp) :=
  (f_X7_areTwoGivers x1 x2).bind fun v1 =>
  if v1 = 0 then
    some ((-1000001), H)
  else
    (f_X7_isProject x3 H).bind fun v2 =>
    if v2 = 0 then
      some ((-1000001), H)
    else
      (f_X2_lay H).bind fun H3 =>
      (f_X2_overlapOf x1 x2 H3).bind fun v4 =>
      (f_X2_termOf x1 x2 x3 v4 H3).bind fun v5 =>
      some (v5, H3)
set_option maxHeartbeats 4000000 in
set_option maxRecDepth 100000 in
theorem k_X7_term {D : Nat} (hD : 3 ≤ D) (x1 : Int32) (x2 : Int32) (x3 : Int32) (H : Hp) (q : Int32 × Hp) (h : f_X7_term x1 x2 x3 H = some q) {post : Option Value → Hp → Prop} (hp : post (some (.int q.1)) q.2) : Sem D mdX7_term [.ref 0, .int x1, .int x2, .int x3] H post := by
  obtain ⟨D, rfl⟩ : ∃ E, D = E + 1 := ⟨D - 1, by omega⟩
  refine sem_of (own := RX7) rfl pn_RX7 (Nat.le_of_ble_eq_true rfl) [.ref 0, .int x1, .int x2, .int x3] ⟨Or.inr rfl, Or.inr rfl, Or.inr rfl, Or.inr rfl, trivial⟩ ?_
  unfold f_X7_term at h
  refine st_iload_n dX7_term_0 rfl rfl ?_
  refine st_iload_n dX7_term_1 rfl rfl ?_
  obtain ⟨v1, e_v1, h⟩ := bnd h
  refine st_callS [.int x1, .int x2] dX7_term_2 co_X7_areTwoGivers sm_X7_areTwoGivers ml_RX7_191 rfl (S := []) rfl (Nat.le_of_ble_eq_true rfl) (k_X7_areTwoGivers (by omega) x1 x2 H _ e_v1 ?_)
  show V (D + 1) RX7 mdX7_term 5 [.ref 0, .int x1, .int x2, .int x3] [.int v1] H post
  refine st_if_eq dX7_term_5 16 (by decide) (fun c6 => ?_) (fun c6 => ?_)
  · replace h := (if_pos c6).symm.trans h
    refine st_ldc dX7_term_16 cn_RX7_77 ?_
    obtain rfl := Option.some.inj h
    exact st_iret dX7_term_18 rfl hp
  · replace h := (if_neg c6).symm.trans h
    refine st_aload_n dX7_term_8 rfl rfl ?_
    refine st_iload_n dX7_term_9 rfl rfl ?_
    obtain ⟨v2, e_v2, h⟩ := bnd h
    refine st_callV [.int x3] dX7_term_10 co_X7_isProject im_X7_isProject se_X7_isProject ml_RX7_152 rfl (by decide) rfl (rfl : classes[7]? = some (RX7, TX7, 11)) rfl (S := []) rfl (Nat.le_of_ble_eq_true rfl) (k_X7_isProject (by omega) x3 H _ e_v2 ?_)
    show V (D + 1) RX7 mdX7_term 13 [.ref 0, .int x1, .int x2, .int x3] [.int v2] H post
    refine st_if_ne dX7_term_13 19 (by decide) (fun c7 => ?_) (fun c7 => ?_)
    · replace h := (if_neg c7).symm.trans h
      refine st_aload_n dX7_term_19 rfl rfl ?_
      refine gR7 dX7_term_20 (by decide) rfl 6 (by decide) fl_RX7_47 rfl 38 rfl ?_
      refine st_aload_n dX7_term_23 rfl rfl ?_
      refine gR7 dX7_term_24 (by decide) rfl 2 (by decide) fl_RX7_26 rfl 7 rfl ?_
      obtain ⟨H3, e_H3, h⟩ := bnd h
      refine st_callV [.ref 7] dX7_term_27 co_X2_lay im_X2_lay se_X2_lay ml_RX7_208 rfl (by decide) rfl (rfl : classes[2]? = some (RX2, TX2, 15)) rfl (S := []) rfl (Nat.le_of_ble_eq_true rfl) (k_X2_lay (by omega) H _ e_H3 ?_)
      show V (D + 1) RX7 mdX7_term 30 [.ref 0, .int x1, .int x2, .int x3] [] H3 post
      refine st_aload_n dX7_term_30 rfl rfl ?_
      refine gR7 dX7_term_31 (by decide) rfl 6 (by decide) fl_RX7_47 rfl 38 rfl ?_
      refine st_iload_n dX7_term_34 rfl rfl ?_
      refine st_iload_n dX7_term_35 rfl rfl ?_
      refine st_iload_n dX7_term_36 rfl rfl ?_
      refine st_aload_n dX7_term_37 rfl rfl ?_
      refine gR7 dX7_term_38 (by decide) rfl 6 (by decide) fl_RX7_47 rfl 38 rfl ?_
      refine st_iload_n dX7_term_41 rfl rfl ?_
      refine st_iload_n dX7_term_42 rfl rfl ?_
      obtain ⟨v4, e_v4, h⟩ := bnd h
      refine st_callV [.int x1, .int x2] dX7_term_43 co_X2_overlapOf im_X2_overlapOf se_X2_overlapOf ml_RX7_214 rfl (by decide) rfl (rfl : classes[2]? = some (RX2, TX2, 15)) rfl (S := [.int x3, .int x2, .int x1, .ref 38]) rfl (Nat.le_of_ble_eq_true rfl) (k_X2_overlapOf (by omega) x1 x2 H3 _ e_v4 ?_)
      show V (D + 1) RX7 mdX7_term 46 [.ref 0, .int x1, .int x2, .int x3] [.int v4, .int x3, .int x2, .int x1, .ref 38] H3 post
      obtain ⟨v5, e_v5, h⟩ := bnd h
      refine st_callV [.int x1, .int x2, .int x3, .int v4] dX7_term_46 co_X2_termOf im_X2_termOf se_X2_termOf ml_RX7_217 rfl (by decide) rfl (rfl : classes[2]? = some (RX2, TX2, 15)) rfl (S := []) rfl (Nat.le_of_ble_eq_true rfl) (k_X2_termOf (by omega) x1 x2 x3 v4 H3 _ e_v5 ?_)
      show V (D + 1) RX7 mdX7_term 49 [.ref 0, .int x1, .int x2, .int x3] [.int v5] H3 post
      obtain rfl := Option.some.inj h
      exact st_iret dX7_term_49 rfl hp
    · replace h := (if_pos c7).symm.trans h
      refine st_ldc dX7_term_16 cn_RX7_77 ?_
      obtain rfl := Option.some.inj h
      exact st_iret dX7_term_18 rfl hp
def f_X2_gives_l2 (H : Hp) (x1 : Int32) : Nat → Int32 → Option ((Unit) ⊕ (Int32))
  | 0, _ => none
  | n + 1, x2 =>
    if (H 38 10) ≤ x2 then
      some (.inl ())
    else
      (f_X2_sumFrom x1 x2 H).bind fun v1 =>
      if v1 ≤ 0 then
        f_X2_gives_l2 H x1 n (x2 + 1)
      else
        some (.inr 1)
def f_X2_gives (x1 : Int32) (H : Hp) : Option (Int32) :=
  (f_X2_gives_l2 H x1 fuel 0).bind fun l4 => Sum.elim (fun t5 =>
    some 0) (fun r => some r) l4
set_option maxHeartbeats 4000000 in
set_option maxRecDepth 100000 in
theorem k_X2_gives_l2 {D : Nat} (hD : 1 ≤ (D + 1)) (H : Hp) (x1 : Int32) {post : Option Value → Hp → Prop} : ∀ (n : Nat) (x2 : Int32) (q : (Unit) ⊕ (Int32)), f_X2_gives_l2 H x1 n x2 = some q → (∀ t, q = .inl t → V (D + 1) RX2 mdX2_gives 27 [.null, .null, .null] [] H post) → (∀ r, q = .inr r → post (some (.int r)) H) → V (D + 1) RX2 mdX2_gives 2 [.ref 38, .int x1, .int x2] [] H post := by
  intro n
  induction n with
  | zero => intro x2 q h; simp [f_X2_gives_l2] at h
  | succ n ih =>
    intro x2 q h k1 k2
    rw [f_X2_gives_l2] at h
    refine st_iload_n dX2_gives_2 rfl rfl ?_
    refine st_aload_n dX2_gives_3 rfl rfl ?_
    refine gI2 dX2_gives_4 (by decide) rfl 10 (by decide) fl_RX2_49 rfl rfl ?_
    refine st_ic_ge dX2_gives_7 27 (by decide) (fun c2 => ?_) (fun c2 => ?_)
    · replace h := (if_pos c2).symm.trans h
      exact st_sub [.null, .null, .null] ⟨Or.inl rfl, Or.inl rfl, Or.inl rfl, trivial⟩ (k1 _ (Option.some.inj h).symm)
    · replace h := (if_neg c2).symm.trans h
      refine st_aload_n dX2_gives_10 rfl rfl ?_
      refine st_iload_n dX2_gives_11 rfl rfl ?_
      refine st_iload_n dX2_gives_12 rfl rfl ?_
      obtain ⟨v1, e_v1, h⟩ := bnd h
      refine st_callV [.int x1, .int x2] dX2_gives_13 co_X2_sumFrom im_X2_sumFrom se_X2_sumFrom ml_RX2_88 rfl (by decide) rfl (rfl : classes[2]? = some (RX2, TX2, 15)) rfl (S := []) rfl (Nat.le_of_ble_eq_true rfl) (k_X2_sumFrom (by omega) x1 x2 H _ e_v1 ?_)
      show V (D + 1) RX2 mdX2_gives 16 [.ref 38, .int x1, .int x2] [.int v1] H post
      refine st_if_le dX2_gives_16 21 (by decide) (fun c3 => ?_) (fun c3 => ?_)
      · replace h := (if_pos c3).symm.trans h
        refine st_iinc dX2_gives_21 rfl (v := (x2 + 1)) rfl (by decide) [.ref 38, .int x1, .int (x2 + 1)] rfl ?_
        refine st_goto dX2_gives_24 2 (by decide) ?_
        exact ih (x2 + 1) q h k1 k2
      · replace h := (if_neg c3).symm.trans h
        refine st_iconst dX2_gives_19 (v := 1) rfl ?_
        have hp := k2 _ (Option.some.inj h).symm
        exact st_zret dX2_gives_20 rfl (by first | rfl | (split <;> rfl) | (repeat (first | rfl | split))) hp
set_option maxHeartbeats 4000000 in
set_option maxRecDepth 100000 in
theorem k_X2_gives {D : Nat} (hD : 1 ≤ D) (x1 : Int32) (H : Hp) (q : Int32) (h : f_X2_gives x1 H = some q) {post : Option Value → Hp → Prop} (hp : post (some (.int q)) H) : Sem D mdX2_gives [.ref 38, .int x1] H post := by
  obtain ⟨D, rfl⟩ : ∃ E, D = E + 1 := ⟨D - 1, by omega⟩
  refine sem_of (own := RX2) rfl pn_RX2 (Nat.le_of_ble_eq_true rfl) [.ref 38, .int x1, .null] ⟨Or.inr rfl, Or.inr rfl, rfl, trivial⟩ ?_
  unfold f_X2_gives at h
  refine st_iconst dX2_gives_0 (v := 0) rfl ?_
  refine st_istore_n dX2_gives_1 rfl (by decide) [.ref 38, .int x1, .int 0] rfl ?_
  obtain ⟨l4, e_l4, h⟩ := bnd h
  refine k_X2_gives_l2 (by omega) H x1 fuel 0 _ e_l4 (fun t5 z => ?_) (fun r z => ?_)
  · subst z
    rw [Sum.elim_inl] at h
    refine st_iconst dX2_gives_27 (v := 0) rfl ?_
    obtain rfl := Option.some.inj h
    exact st_zret dX2_gives_28 rfl (by first | rfl | (split <;> rfl) | (repeat (first | rfl | split))) hp
  · subst z
    rw [Sum.elim_inr] at h
    obtain rfl := Option.some.inj h
    exact hp
def f_X2_weighPair_l17 (x1 : Int32) (x2 : Int32) (x3 : Int32) (x4 : Int32) : Nat → Int32 → Hp → Option (Hp)
  | 0, _, _ => none
  | n + 1, x5, H =>
    if (H 38 10) ≤ x5 then
      some H
    else
      (ag H 46 6 x5).bind fun v2 =>
      (f_X2_termOf x1 x2 x5 x4 H).bind fun v3 =>
      (as H 46 6 x5 (v2 + (x3 * v3))).bind fun H4 =>
      f_X2_weighPair_l17 x1 x2 x3 x4 n (x5 + 1) H4
def f_X2_weighPair (x1 : Int32) (x2 : Int32) (x3 : Int32) (H : Hp) : Option (Hp) :=
  (f_X2_overlapOf x1 x2 H).bind fun v1 =>
  if v1 = 0 then
    some H
  else
    (f_X2_weighPair_l17 x1 x2 x3 v1 fuel 0 H).bind fun l6 =>
    some l6
set_option maxHeartbeats 4000000 in
set_option maxRecDepth 100000 in
theorem k_X2_weighPair_l17 {D : Nat} (hD : 1 ≤ (D + 1)) (x1 : Int32) (x2 : Int32) (x3 : Int32) (x4 : Int32) {post : Option Value → Hp → Prop} : ∀ (n : Nat) (x5 : Int32) (H : Hp) (q : Hp), f_X2_weighPair_l17 x1 x2 x3 x4 n x5 H = some q → V (D + 1) RX2 mdX2_weighPair 54 [.null, .null, .null, .null, .null, .null] [] q post → V (D + 1) RX2 mdX2_weighPair 17 [.ref 38, .int x1, .int x2, .int x3, .int x4, .int x5] [] H post := by
  intro n
  induction n with
  | zero => intro x5 H q h; simp [f_X2_weighPair_l17] at h
  | succ n ih =>
    intro x5 H q h k1
    rw [f_X2_weighPair_l17] at h
    refine st_iload dX2_weighPair_17 rfl ?_
    refine st_aload_n dX2_weighPair_19 rfl rfl ?_
    refine gI2 dX2_weighPair_20 (by decide) rfl 10 (by decide) fl_RX2_49 rfl rfl ?_
    refine st_ic_ge dX2_weighPair_23 54 (by decide) (fun c5 => ?_) (fun c5 => ?_)
    · replace h := (if_pos c5).symm.trans h
      obtain rfl := Option.some.inj h
      exact st_sub [.null, .null, .null, .null, .null, .null] ⟨Or.inl rfl, Or.inl rfl, Or.inl rfl, Or.inl rfl, Or.inl rfl, Or.inl rfl, trivial⟩ k1
    · replace h := (if_neg c5).symm.trans h
      refine st_aload_n dX2_weighPair_26 rfl rfl ?_
      refine gR2 dX2_weighPair_27 (by decide) rfl 7 (by decide) fl_RX2_34 rfl 46 rfl ?_
      refine st_iload dX2_weighPair_30 rfl ?_
      refine st_dup2 dX2_weighPair_32 rfl rfl ?_
      obtain ⟨v2, e_v2, h⟩ := bnd h
      refine st_iald dX2_weighPair_33 (by decide) rfl v2 e_v2 ?_
      refine st_iload_n dX2_weighPair_34 rfl rfl ?_
      refine st_aload_n dX2_weighPair_35 rfl rfl ?_
      refine st_iload_n dX2_weighPair_36 rfl rfl ?_
      refine st_iload_n dX2_weighPair_37 rfl rfl ?_
      refine st_iload dX2_weighPair_38 rfl ?_
      refine st_iload dX2_weighPair_40 rfl ?_
      obtain ⟨v3, e_v3, h⟩ := bnd h
      refine st_callV [.int x1, .int x2, .int x5, .int x4] dX2_weighPair_42 co_X2_termOf im_X2_termOf se_X2_termOf ml_RX2_127 rfl (by decide) rfl (rfl : classes[2]? = some (RX2, TX2, 15)) rfl (S := [.int x3, .int v2, .int x5, .ref 46]) rfl (Nat.le_of_ble_eq_true rfl) (k_X2_termOf (by omega) x1 x2 x5 x4 H _ e_v3 ?_)
      show V (D + 1) RX2 mdX2_weighPair 45 [.ref 38, .int x1, .int x2, .int x3, .int x4, .int x5] [.int v3, .int x3, .int v2, .int x5, .ref 46] H post
      refine st_imul dX2_weighPair_45 ?_
      refine st_iadd dX2_weighPair_46 ?_
      obtain ⟨H4, e_H4, h⟩ := bnd h
      refine st_iast dX2_weighPair_47 (by decide) rfl H4 e_H4 ?_
      refine st_iinc dX2_weighPair_48 rfl (v := (x5 + 1)) rfl (by decide) [.ref 38, .int x1, .int x2, .int x3, .int x4, .int (x5 + 1)] rfl ?_
      refine st_goto dX2_weighPair_51 17 (by decide) ?_
      exact ih (x5 + 1) H4 q h k1
set_option maxHeartbeats 4000000 in
set_option maxRecDepth 100000 in
theorem k_X2_weighPair {D : Nat} (hD : 1 ≤ D) (x1 : Int32) (x2 : Int32) (x3 : Int32) (H : Hp) (q : Hp) (h : f_X2_weighPair x1 x2 x3 H = some q) {post : Option Value → Hp → Prop} (hp : post none q) : Sem D mdX2_weighPair [.ref 38, .int x1, .int x2, .int x3] H post := by
  obtain ⟨D, rfl⟩ : ∃ E, D = E + 1 := ⟨D - 1, by omega⟩
  refine sem_of (own := RX2) rfl pn_RX2 (Nat.le_of_ble_eq_true rfl) [.ref 38, .int x1, .int x2, .int x3, .null, .null] ⟨Or.inr rfl, Or.inr rfl, Or.inr rfl, Or.inr rfl, rfl, rfl, trivial⟩ ?_
  unfold f_X2_weighPair at h
  refine st_aload_n dX2_weighPair_0 rfl rfl ?_
  refine st_iload_n dX2_weighPair_1 rfl rfl ?_
  refine st_iload_n dX2_weighPair_2 rfl rfl ?_
  obtain ⟨v1, e_v1, h⟩ := bnd h
  refine st_callV [.int x1, .int x2] dX2_weighPair_3 co_X2_overlapOf im_X2_overlapOf se_X2_overlapOf ml_RX2_124 rfl (by decide) rfl (rfl : classes[2]? = some (RX2, TX2, 15)) rfl (S := []) rfl (Nat.le_of_ble_eq_true rfl) (k_X2_overlapOf (by omega) x1 x2 H _ e_v1 ?_)
  show V (D + 1) RX2 mdX2_weighPair 6 [.ref 38, .int x1, .int x2, .int x3, .null, .null] [.int v1] H post
  refine st_istore dX2_weighPair_6 (by decide) [.ref 38, .int x1, .int x2, .int x3, .int v1, .null] rfl ?_
  refine st_iload dX2_weighPair_8 rfl ?_
  refine st_if_ne dX2_weighPair_10 14 (by decide) (fun c7 => ?_) (fun c7 => ?_)
  · replace h := (if_neg c7).symm.trans h
    refine st_iconst dX2_weighPair_14 (v := 0) rfl ?_
    refine st_istore dX2_weighPair_15 (by decide) [.ref 38, .int x1, .int x2, .int x3, .int v1, .int 0] rfl ?_
    obtain ⟨l6, e_l6, h⟩ := bnd h
    refine k_X2_weighPair_l17 (by omega) x1 x2 x3 v1 fuel 0 H _ e_l6 ?_
    obtain rfl := Option.some.inj h
    exact st_vret dX2_weighPair_54 rfl hp
  · replace h := (if_pos c7).symm.trans h
    obtain rfl := Option.some.inj h
    exact st_vret dX2_weighPair_13 rfl hp
def f_X2_weigh_l26 (x1 : Int32) (x2 : Int32) : Nat → Int32 → Hp → Option (Hp)
  | 0, _, _ => none
  | n + 1, x3, H =>
    if (H 38 10) ≤ x3 then
      some H
    else
      (ag H 43 6 x3).bind fun v3 =>
      (ag H 39 60 ((x1 * 6) + x3)).bind fun v4 =>
      (as H 43 6 x3 (v3 + (x2 * v4))).bind fun H5 =>
      (ag H5 44 6 x3).bind fun v6 =>
      (ag H5 40 60 ((x1 * 6) + x3)).bind fun v7 =>
      (as H5 44 6 x3 (v6 + (x2 * v7))).bind fun H8 =>
      (ag H8 45 6 x3).bind fun v9 =>
      (ag H8 39 60 ((x1 * 6) + x3)).bind fun v10 =>
      (as H8 45 6 x3 (v9 + (if v10 ≤ 0 then 0 else x2))).bind fun H11 =>
      f_X2_weigh_l26 x1 x2 n (x3 + 1) H11
def f_X2_weigh_l110 (x1 : Int32) (x2 : Int32) : Nat → Int32 → Hp → Option (Hp)
  | 0, _, _ => none
  | n + 1, x3, H =>
    if 10 ≤ x3 then
      some H
    else
      (ag H 41 10 x3).bind fun v17 =>
      Option.bind (
        if v17 = 0 then
          some H
        else
          if x3 = x1 then
            some H
          else
            (f_X2_weighPair x1 x3 x2 H).bind fun H18 =>
            some H18) fun j19 =>
      f_X2_weigh_l110 x1 x2 n (x3 + 1) j19
def f_X2_weigh (x1 : Int32) (x2 : Int32) (H : Hp) : Option (Hp) :=
  (f_X2_gives x1 H).bind fun v1 =>
  if v1 = 0 then
    some H
  else
    (as H 41 10 x1 ((if x2 ≤ 0 then 0 else 1) : Int32)).bind fun H2 =>
    (f_X2_weigh_l26 x1 x2 fuel 0 H2).bind fun l16 =>
    (f_X2_weigh_l110 x1 x2 fuel 0 l16).bind fun l24 =>
    some l24
set_option maxHeartbeats 4000000 in
set_option maxRecDepth 100000 in
theorem k_X2_weigh_l26 {D : Nat} (hD : 2 ≤ (D + 1)) (x1 : Int32) (x2 : Int32) {post : Option Value → Hp → Prop} : ∀ (n : Nat) (x3 : Int32) (H : Hp) (q : Hp), f_X2_weigh_l26 x1 x2 n x3 H = some q → V (D + 1) RX2 mdX2_weigh 108 [.ref 38, .int x1, .int x2, .null, .null] [] q post → V (D + 1) RX2 mdX2_weigh 26 [.ref 38, .int x1, .int x2, .int x3, .null] [] H post := by
  intro n
  induction n with
  | zero => intro x3 H q h; simp [f_X2_weigh_l26] at h
  | succ n ih =>
    intro x3 H q h k1
    rw [f_X2_weigh_l26] at h
    refine st_iload_n dX2_weigh_26 rfl rfl ?_
    refine st_aload_n dX2_weigh_27 rfl rfl ?_
    refine gI2 dX2_weigh_28 (by decide) rfl 10 (by decide) fl_RX2_49 rfl rfl ?_
    refine st_ic_ge dX2_weigh_31 108 (by decide) (fun c12 => ?_) (fun c12 => ?_)
    · replace h := (if_pos c12).symm.trans h
      obtain rfl := Option.some.inj h
      exact st_sub [.ref 38, .int x1, .int x2, .null, .null] ⟨Or.inr rfl, Or.inr rfl, Or.inr rfl, Or.inl rfl, Or.inl rfl, trivial⟩ k1
    · replace h := (if_neg c12).symm.trans h
      refine st_iload_n dX2_weigh_34 rfl rfl ?_
      refine st_bipush dX2_weigh_35 (v := 6) (by decide) ?_
      refine st_imul dX2_weigh_37 ?_
      refine st_iload_n dX2_weigh_38 rfl rfl ?_
      refine st_iadd dX2_weigh_39 ?_
      refine st_istore dX2_weigh_40 (by decide) [.ref 38, .int x1, .int x2, .int x3, .int ((x1 * 6) + x3)] rfl ?_
      refine st_aload_n dX2_weigh_42 rfl rfl ?_
      refine gR2 dX2_weigh_43 (by decide) rfl 4 (by decide) fl_RX2_25 rfl 43 rfl ?_
      refine st_iload_n dX2_weigh_46 rfl rfl ?_
      refine st_dup2 dX2_weigh_47 rfl rfl ?_
      obtain ⟨v3, e_v3, h⟩ := bnd h
      refine st_iald dX2_weigh_48 (by decide) rfl v3 e_v3 ?_
      refine st_iload_n dX2_weigh_49 rfl rfl ?_
      refine st_aload_n dX2_weigh_50 rfl rfl ?_
      refine gR2 dX2_weigh_51 (by decide) rfl 0 (by decide) fl_RX2_9 rfl 39 rfl ?_
      refine st_iload dX2_weigh_54 rfl ?_
      obtain ⟨v4, e_v4, h⟩ := bnd h
      refine st_iald dX2_weigh_56 (by decide) rfl v4 e_v4 ?_
      refine st_imul dX2_weigh_57 ?_
      refine st_iadd dX2_weigh_58 ?_
      obtain ⟨H5, e_H5, h⟩ := bnd h
      refine st_iast dX2_weigh_59 (by decide) rfl H5 e_H5 ?_
      refine st_aload_n dX2_weigh_60 rfl rfl ?_
      refine gR2 dX2_weigh_61 (by decide) rfl 5 (by decide) fl_RX2_28 rfl 44 rfl ?_
      refine st_iload_n dX2_weigh_64 rfl rfl ?_
      refine st_dup2 dX2_weigh_65 rfl rfl ?_
      obtain ⟨v6, e_v6, h⟩ := bnd h
      refine st_iald dX2_weigh_66 (by decide) rfl v6 e_v6 ?_
      refine st_iload_n dX2_weigh_67 rfl rfl ?_
      refine st_aload_n dX2_weigh_68 rfl rfl ?_
      refine gR2 dX2_weigh_69 (by decide) rfl 1 (by decide) fl_RX2_15 rfl 40 rfl ?_
      refine st_iload dX2_weigh_72 rfl ?_
      obtain ⟨v7, e_v7, h⟩ := bnd h
      refine st_iald dX2_weigh_74 (by decide) rfl v7 e_v7 ?_
      refine st_imul dX2_weigh_75 ?_
      refine st_iadd dX2_weigh_76 ?_
      obtain ⟨H8, e_H8, h⟩ := bnd h
      refine st_iast dX2_weigh_77 (by decide) rfl H8 e_H8 ?_
      refine st_aload_n dX2_weigh_78 rfl rfl ?_
      refine gR2 dX2_weigh_79 (by decide) rfl 6 (by decide) fl_RX2_31 rfl 45 rfl ?_
      refine st_iload_n dX2_weigh_82 rfl rfl ?_
      refine st_dup2 dX2_weigh_83 rfl rfl ?_
      obtain ⟨v9, e_v9, h⟩ := bnd h
      refine st_iald dX2_weigh_84 (by decide) rfl v9 e_v9 ?_
      refine st_aload_n dX2_weigh_85 rfl rfl ?_
      refine gR2 dX2_weigh_86 (by decide) rfl 0 (by decide) fl_RX2_9 rfl 39 rfl ?_
      refine st_iload dX2_weigh_89 rfl ?_
      obtain ⟨v10, e_v10, h⟩ := bnd h
      refine st_iald dX2_weigh_91 (by decide) rfl v10 e_v10 ?_
      have kj14 : ∀ z13 : Int32, z13 = (if v10 ≤ 0 then 0 else x2) → V (D + 1) RX2 mdX2_weigh 100 [.ref 38, .int x1, .int x2, .int x3, .null] [.int z13, .int v9, .int x3, .ref 45] H8 post := by
        intro z13 ez13
        subst ez13
        refine st_iadd dX2_weigh_100 ?_
        obtain ⟨H11, e_H11, h⟩ := bnd h
        refine st_iast dX2_weigh_101 (by decide) rfl H11 e_H11 ?_
        refine st_iinc dX2_weigh_102 rfl (v := (x3 + 1)) rfl (by decide) [.ref 38, .int x1, .int x2, .int (x3 + 1), .null] rfl ?_
        refine st_goto dX2_weigh_105 26 (by decide) ?_
        exact ih (x3 + 1) H11 q h k1
      refine st_if_le dX2_weigh_92 99 (by decide) (fun c15 => ?_) (fun c15 => ?_)
      · refine st_iconst dX2_weigh_99 (v := 0) rfl ?_
        exact st_sub [.ref 38, .int x1, .int x2, .int x3, .null] ⟨Or.inr rfl, Or.inr rfl, Or.inr rfl, Or.inr rfl, Or.inl rfl, trivial⟩ (kj14 _ (Eq.symm (if_pos c15)))
      · refine st_iload_n dX2_weigh_95 rfl rfl ?_
        refine st_goto dX2_weigh_96 100 (by decide) ?_
        exact st_sub [.ref 38, .int x1, .int x2, .int x3, .null] ⟨Or.inr rfl, Or.inr rfl, Or.inr rfl, Or.inr rfl, Or.inl rfl, trivial⟩ (kj14 _ (Eq.symm (if_neg c15)))
set_option maxHeartbeats 4000000 in
set_option maxRecDepth 100000 in
theorem k_X2_weigh_l110 {D : Nat} (hD : 2 ≤ (D + 1)) (x1 : Int32) (x2 : Int32) {post : Option Value → Hp → Prop} : ∀ (n : Nat) (x3 : Int32) (H : Hp) (q : Hp), f_X2_weigh_l110 x1 x2 n x3 H = some q → V (D + 1) RX2 mdX2_weigh 143 [.null, .null, .null, .null, .null] [] q post → V (D + 1) RX2 mdX2_weigh 110 [.ref 38, .int x1, .int x2, .int x3, .null] [] H post := by
  intro n
  induction n with
  | zero => intro x3 H q h; simp [f_X2_weigh_l110] at h
  | succ n ih =>
    intro x3 H q h k1
    rw [f_X2_weigh_l110] at h
    refine st_iload_n dX2_weigh_110 rfl rfl ?_
    refine st_bipush dX2_weigh_111 (v := 10) (by decide) ?_
    refine st_ic_ge dX2_weigh_113 143 (by decide) (fun c20 => ?_) (fun c20 => ?_)
    · replace h := (if_pos c20).symm.trans h
      obtain rfl := Option.some.inj h
      exact st_sub [.null, .null, .null, .null, .null] ⟨Or.inl rfl, Or.inl rfl, Or.inl rfl, Or.inl rfl, Or.inl rfl, trivial⟩ k1
    · replace h := (if_neg c20).symm.trans h
      refine st_aload_n dX2_weigh_116 rfl rfl ?_
      refine gR2 dX2_weigh_117 (by decide) rfl 2 (by decide) fl_RX2_18 rfl 41 rfl ?_
      refine st_iload_n dX2_weigh_120 rfl rfl ?_
      obtain ⟨v17, e_v17, h⟩ := bnd h
      refine st_zald dX2_weigh_121 (by decide) rfl v17 e_v17 ?_
      obtain ⟨j19, e_j19, h⟩ := bnd h
      have kj21 : V (D + 1) RX2 mdX2_weigh 137 [.ref 38, .int x1, .int x2, .int x3, .null] [] j19 post := by
        refine st_iinc dX2_weigh_137 rfl (v := (x3 + 1)) rfl (by decide) [.ref 38, .int x1, .int x2, .int (x3 + 1), .null] rfl ?_
        refine st_goto dX2_weigh_140 110 (by decide) ?_
        exact ih (x3 + 1) j19 q h k1
      refine st_if_eq dX2_weigh_122 137 (by decide) (fun c22 => ?_) (fun c22 => ?_)
      · replace e_j19 := (if_pos c22).symm.trans e_j19
        obtain rfl := Option.some.inj e_j19
        exact kj21
      · replace e_j19 := (if_neg c22).symm.trans e_j19
        refine st_iload_n dX2_weigh_125 rfl rfl ?_
        refine st_iload_n dX2_weigh_126 rfl rfl ?_
        refine st_ic_eq dX2_weigh_127 137 (by decide) (fun c23 => ?_) (fun c23 => ?_)
        · replace e_j19 := (if_pos c23).symm.trans e_j19
          obtain rfl := Option.some.inj e_j19
          exact kj21
        · replace e_j19 := (if_neg c23).symm.trans e_j19
          refine st_aload_n dX2_weigh_130 rfl rfl ?_
          refine st_iload_n dX2_weigh_131 rfl rfl ?_
          refine st_iload_n dX2_weigh_132 rfl rfl ?_
          refine st_iload_n dX2_weigh_133 rfl rfl ?_
          obtain ⟨H18, e_H18, e_j19⟩ := bnd e_j19
          refine st_callV [.int x1, .int x3, .int x2] dX2_weigh_134 co_X2_weighPair im_X2_weighPair se_X2_weighPair ml_RX2_120 rfl (by decide) rfl (rfl : classes[2]? = some (RX2, TX2, 15)) rfl (S := []) rfl (Nat.le_of_ble_eq_true rfl) (k_X2_weighPair (by omega) x1 x3 x2 H _ e_H18 ?_)
          show V (D + 1) RX2 mdX2_weigh 137 [.ref 38, .int x1, .int x2, .int x3, .null] [] H18 post
          obtain rfl := Option.some.inj e_j19
          exact kj21
set_option maxHeartbeats 4000000 in
set_option maxRecDepth 100000 in
theorem k_X2_weigh {D : Nat} (hD : 2 ≤ D) (x1 : Int32) (x2 : Int32) (H : Hp) (q : Hp) (h : f_X2_weigh x1 x2 H = some q) {post : Option Value → Hp → Prop} (hp : post none q) : Sem D mdX2_weigh [.ref 38, .int x1, .int x2] H post := by
  obtain ⟨D, rfl⟩ : ∃ E, D = E + 1 := ⟨D - 1, by omega⟩
  refine sem_of (own := RX2) rfl pn_RX2 (Nat.le_of_ble_eq_true rfl) [.ref 38, .int x1, .int x2, .null, .null] ⟨Or.inr rfl, Or.inr rfl, Or.inr rfl, rfl, rfl, trivial⟩ ?_
  unfold f_X2_weigh at h
  refine st_aload_n dX2_weigh_0 rfl rfl ?_
  refine st_iload_n dX2_weigh_1 rfl rfl ?_
  obtain ⟨v1, e_v1, h⟩ := bnd h
  refine st_callV [.int x1] dX2_weigh_2 co_X2_gives im_X2_gives se_X2_gives ml_RX2_116 rfl (by decide) rfl (rfl : classes[2]? = some (RX2, TX2, 15)) rfl (S := []) rfl (Nat.le_of_ble_eq_true rfl) (k_X2_gives (by omega) x1 H _ e_v1 ?_)
  show V (D + 1) RX2 mdX2_weigh 5 [.ref 38, .int x1, .int x2, .null, .null] [.int v1] H post
  refine st_if_ne dX2_weigh_5 9 (by decide) (fun c25 => ?_) (fun c25 => ?_)
  · replace h := (if_neg c25).symm.trans h
    refine st_aload_n dX2_weigh_9 rfl rfl ?_
    refine gR2 dX2_weigh_10 (by decide) rfl 2 (by decide) fl_RX2_18 rfl 41 rfl ?_
    refine st_iload_n dX2_weigh_13 rfl rfl ?_
    refine st_iload_n dX2_weigh_14 rfl rfl ?_
    have kj27 : ∀ z26 : Int32, z26 = ((if x2 ≤ 0 then 0 else 1) : Int32) → V (D + 1) RX2 mdX2_weigh 23 [.ref 38, .int x1, .int x2, .null, .null] [.int z26, .int x1, .ref 41] H post := by
      intro z26 ez26
      subst ez26
      obtain ⟨H2, e_H2, h⟩ := bnd h
      refine st_zast dX2_weigh_23 (by decide) rfl (by first | rfl | (split <;> rfl)) H2 e_H2 ?_
      refine st_iconst dX2_weigh_24 (v := 0) rfl ?_
      refine st_istore_n dX2_weigh_25 rfl (by decide) [.ref 38, .int x1, .int x2, .int 0, .null] rfl ?_
      obtain ⟨l16, e_l16, h⟩ := bnd h
      refine k_X2_weigh_l26 (by omega) x1 x2 fuel 0 H2 _ e_l16 ?_
      refine st_iconst dX2_weigh_108 (v := 0) rfl ?_
      refine st_istore_n dX2_weigh_109 rfl (by decide) [.ref 38, .int x1, .int x2, .int 0, .null] rfl ?_
      obtain ⟨l24, e_l24, h⟩ := bnd h
      refine k_X2_weigh_l110 (by omega) x1 x2 fuel 0 l16 _ e_l24 ?_
      obtain rfl := Option.some.inj h
      exact st_vret dX2_weigh_143 rfl hp
    refine st_if_le dX2_weigh_15 22 (by decide) (fun c28 => ?_) (fun c28 => ?_)
    · refine st_iconst dX2_weigh_22 (v := 0) rfl ?_
      exact (kj27 _ (Eq.symm (if_pos c28)))
    · refine st_iconst dX2_weigh_18 (v := 1) rfl ?_
      refine st_goto dX2_weigh_19 23 (by decide) ?_
      exact (kj27 _ (Eq.symm (if_neg c28)))
  · replace h := (if_pos c25).symm.trans h
    obtain rfl := Option.some.inj h
    exact st_vret dX2_weigh_8 rfl hp
def f_X2_join (x1 : Int32) (H : Hp) : Option (Hp) :=
  (f_X2_weigh x1 1 H).bind fun H1 =>
  some H1
set_option maxHeartbeats 4000000 in
set_option maxRecDepth 100000 in
theorem k_X2_join {D : Nat} (hD : 3 ≤ D) (x1 : Int32) (H : Hp) (q : Hp) (h : f_X2_join x1 H = some q) {post : Option Value → Hp → Prop} (hp : post none q) : Sem D mdX2_join [.ref 38, .int x1] H post := by
  obtain ⟨D, rfl⟩ : ∃ E, D = E + 1 := ⟨D - 1, by omega⟩
  refine sem_of (own := RX2) rfl pn_RX2 (Nat.le_of_ble_eq_true rfl) [.ref 38, .int x1] ⟨Or.inr rfl, Or.inr rfl, trivial⟩ ?_
  unfold f_X2_join at h
  refine st_aload_n dX2_join_0 rfl rfl ?_
  refine st_iload_n dX2_join_1 rfl rfl ?_
  refine st_iconst dX2_join_2 (v := 1) rfl ?_
  obtain ⟨H1, e_H1, h⟩ := bnd h
  refine st_callV [.int x1, .int 1] dX2_join_3 co_X2_weigh im_X2_weigh se_X2_weigh ml_RX2_84 rfl (by decide) rfl (rfl : classes[2]? = some (RX2, TX2, 15)) rfl (S := []) rfl (Nat.le_of_ble_eq_true rfl) (k_X2_weigh (by omega) x1 1 H _ e_H1 ?_)
  show V (D + 1) RX2 mdX2_join 6 [.ref 38, .int x1] [] H1 post
  obtain rfl := Option.some.inj h
  exact st_vret dX2_join_6 rfl hp
def f_X2_load_l7 : Nat → Int32 → Hp → Option (Hp)
  | 0, _, _ => none
  | n + 1, x2, H =>
    if (H 38 10) ≤ x2 then
      some H
    else
      (ag H 8 6 x2).bind fun v2 =>
      (as H 42 6 x2 v2).bind fun H3 =>
      (as H3 43 6 x2 0).bind fun H4 =>
      (as H4 44 6 x2 0).bind fun H5 =>
      (as H5 45 6 x2 0).bind fun H6 =>
      (as H6 46 6 x2 0).bind fun H7 =>
      f_X2_load_l7 n (x2 + 1) H7
def f_X2_load_l63 : Nat → Int32 → Hp → Option (Hp)
  | 0, _, _ => none
  | n + 1, x2, H =>
    if 10 ≤ x2 then
      some H
    else
      (as H 41 10 x2 0).bind fun H10 =>
      f_X2_load_l63 n (x2 + 1) H10
def f_X2_load_l84 : Nat → Int32 → Hp → Option (Hp)
  | 0, _, _ => none
  | n + 1, x2, H =>
    if 10 ≤ x2 then
      some H
    else
      (f_X2_join x2 H).bind fun H13 =>
      f_X2_load_l84 n (x2 + 1) H13
def f_X2_load (H : Hp) : Option (Hp) :=
  (f_X2_lay H).bind fun H1 =>
  (f_X2_load_l7 fuel 0 H1).bind fun l9 =>
  (f_X2_load_l63 fuel 0 l9).bind fun l12 =>
  (f_X2_load_l84 fuel 0 l12).bind fun l15 =>
  some l15
set_option maxHeartbeats 4000000 in
set_option maxRecDepth 100000 in
theorem k_X2_load_l7 {D : Nat} (hD : 4 ≤ (D + 1)) {post : Option Value → Hp → Prop} : ∀ (n : Nat) (x2 : Int32) (H : Hp) (q : Hp), f_X2_load_l7 n x2 H = some q → V (D + 1) RX2 mdX2_load 61 [.ref 38, .null, .null] [] q post → V (D + 1) RX2 mdX2_load 7 [.ref 38, .ref 7, .int x2] [] H post := by
  intro n
  induction n with
  | zero => intro x2 H q h; simp [f_X2_load_l7] at h
  | succ n ih =>
    intro x2 H q h k1
    rw [f_X2_load_l7] at h
    refine st_iload_n dX2_load_7 rfl rfl ?_
    refine st_aload_n dX2_load_8 rfl rfl ?_
    refine gI2 dX2_load_9 (by decide) rfl 10 (by decide) fl_RX2_49 rfl rfl ?_
    refine st_ic_ge dX2_load_12 61 (by decide) (fun c8 => ?_) (fun c8 => ?_)
    · replace h := (if_pos c8).symm.trans h
      obtain rfl := Option.some.inj h
      exact st_sub [.ref 38, .null, .null] ⟨Or.inr rfl, Or.inl rfl, Or.inl rfl, trivial⟩ k1
    · replace h := (if_neg c8).symm.trans h
      refine st_aload_n dX2_load_15 rfl rfl ?_
      refine gR2 dX2_load_16 (by decide) rfl 3 (by decide) fl_RX2_22 rfl 42 rfl ?_
      refine st_iload_n dX2_load_19 rfl rfl ?_
      refine st_aload_n dX2_load_20 rfl rfl ?_
      refine gR4 dX2_load_21 (by decide) rfl 5 (by decide) fl_RX2_79 rfl 8 rfl ?_
      refine st_iload_n dX2_load_24 rfl rfl ?_
      obtain ⟨v2, e_v2, h⟩ := bnd h
      refine st_iald dX2_load_25 (by decide) rfl v2 e_v2 ?_
      obtain ⟨H3, e_H3, h⟩ := bnd h
      refine st_iast dX2_load_26 (by decide) rfl H3 e_H3 ?_
      refine st_aload_n dX2_load_27 rfl rfl ?_
      refine gR2 dX2_load_28 (by decide) rfl 4 (by decide) fl_RX2_25 rfl 43 rfl ?_
      refine st_iload_n dX2_load_31 rfl rfl ?_
      refine st_iconst dX2_load_32 (v := 0) rfl ?_
      obtain ⟨H4, e_H4, h⟩ := bnd h
      refine st_iast dX2_load_33 (by decide) rfl H4 e_H4 ?_
      refine st_aload_n dX2_load_34 rfl rfl ?_
      refine gR2 dX2_load_35 (by decide) rfl 5 (by decide) fl_RX2_28 rfl 44 rfl ?_
      refine st_iload_n dX2_load_38 rfl rfl ?_
      refine st_iconst dX2_load_39 (v := 0) rfl ?_
      obtain ⟨H5, e_H5, h⟩ := bnd h
      refine st_iast dX2_load_40 (by decide) rfl H5 e_H5 ?_
      refine st_aload_n dX2_load_41 rfl rfl ?_
      refine gR2 dX2_load_42 (by decide) rfl 6 (by decide) fl_RX2_31 rfl 45 rfl ?_
      refine st_iload_n dX2_load_45 rfl rfl ?_
      refine st_iconst dX2_load_46 (v := 0) rfl ?_
      obtain ⟨H6, e_H6, h⟩ := bnd h
      refine st_iast dX2_load_47 (by decide) rfl H6 e_H6 ?_
      refine st_aload_n dX2_load_48 rfl rfl ?_
      refine gR2 dX2_load_49 (by decide) rfl 7 (by decide) fl_RX2_34 rfl 46 rfl ?_
      refine st_iload_n dX2_load_52 rfl rfl ?_
      refine st_iconst dX2_load_53 (v := 0) rfl ?_
      obtain ⟨H7, e_H7, h⟩ := bnd h
      refine st_iast dX2_load_54 (by decide) rfl H7 e_H7 ?_
      refine st_iinc dX2_load_55 rfl (v := (x2 + 1)) rfl (by decide) [.ref 38, .ref 7, .int (x2 + 1)] rfl ?_
      refine st_goto dX2_load_58 7 (by decide) ?_
      exact ih (x2 + 1) H7 q h k1
set_option maxHeartbeats 4000000 in
set_option maxRecDepth 100000 in
theorem k_X2_load_l63 {D : Nat} (hD : 4 ≤ (D + 1)) {post : Option Value → Hp → Prop} : ∀ (n : Nat) (x2 : Int32) (H : Hp) (q : Hp), f_X2_load_l63 n x2 H = some q → V (D + 1) RX2 mdX2_load 82 [.ref 38, .null, .null] [] q post → V (D + 1) RX2 mdX2_load 63 [.ref 38, .null, .int x2] [] H post := by
  intro n
  induction n with
  | zero => intro x2 H q h; simp [f_X2_load_l63] at h
  | succ n ih =>
    intro x2 H q h k1
    rw [f_X2_load_l63] at h
    refine st_iload_n dX2_load_63 rfl rfl ?_
    refine st_bipush dX2_load_64 (v := 10) (by decide) ?_
    refine st_ic_ge dX2_load_66 82 (by decide) (fun c11 => ?_) (fun c11 => ?_)
    · replace h := (if_pos c11).symm.trans h
      obtain rfl := Option.some.inj h
      exact st_sub [.ref 38, .null, .null] ⟨Or.inr rfl, Or.inl rfl, Or.inl rfl, trivial⟩ k1
    · replace h := (if_neg c11).symm.trans h
      refine st_aload_n dX2_load_69 rfl rfl ?_
      refine gR2 dX2_load_70 (by decide) rfl 2 (by decide) fl_RX2_18 rfl 41 rfl ?_
      refine st_iload_n dX2_load_73 rfl rfl ?_
      refine st_iconst dX2_load_74 (v := 0) rfl ?_
      obtain ⟨H10, e_H10, h⟩ := bnd h
      refine st_zast dX2_load_75 (by decide) rfl (by first | rfl | (split <;> rfl)) H10 e_H10 ?_
      refine st_iinc dX2_load_76 rfl (v := (x2 + 1)) rfl (by decide) [.ref 38, .null, .int (x2 + 1)] rfl ?_
      refine st_goto dX2_load_79 63 (by decide) ?_
      exact ih (x2 + 1) H10 q h k1
set_option maxHeartbeats 4000000 in
set_option maxRecDepth 100000 in
theorem k_X2_load_l84 {D : Nat} (hD : 4 ≤ (D + 1)) {post : Option Value → Hp → Prop} : ∀ (n : Nat) (x2 : Int32) (H : Hp) (q : Hp), f_X2_load_l84 n x2 H = some q → V (D + 1) RX2 mdX2_load 101 [.null, .null, .null] [] q post → V (D + 1) RX2 mdX2_load 84 [.ref 38, .null, .int x2] [] H post := by
  intro n
  induction n with
  | zero => intro x2 H q h; simp [f_X2_load_l84] at h
  | succ n ih =>
    intro x2 H q h k1
    rw [f_X2_load_l84] at h
    refine st_iload_n dX2_load_84 rfl rfl ?_
    refine st_bipush dX2_load_85 (v := 10) (by decide) ?_
    refine st_ic_ge dX2_load_87 101 (by decide) (fun c14 => ?_) (fun c14 => ?_)
    · replace h := (if_pos c14).symm.trans h
      obtain rfl := Option.some.inj h
      exact st_sub [.null, .null, .null] ⟨Or.inl rfl, Or.inl rfl, Or.inl rfl, trivial⟩ k1
    · replace h := (if_neg c14).symm.trans h
      refine st_aload_n dX2_load_90 rfl rfl ?_
      refine st_iload_n dX2_load_91 rfl rfl ?_
      obtain ⟨H13, e_H13, h⟩ := bnd h
      refine st_callV [.int x2] dX2_load_92 co_X2_join im_X2_join se_X2_join ml_RX2_80 rfl (by decide) rfl (rfl : classes[2]? = some (RX2, TX2, 15)) rfl (S := []) rfl (Nat.le_of_ble_eq_true rfl) (k_X2_join (by omega) x2 H _ e_H13 ?_)
      show V (D + 1) RX2 mdX2_load 95 [.ref 38, .null, .int x2] [] H13 post
      refine st_iinc dX2_load_95 rfl (v := (x2 + 1)) rfl (by decide) [.ref 38, .null, .int (x2 + 1)] rfl ?_
      refine st_goto dX2_load_98 84 (by decide) ?_
      exact ih (x2 + 1) H13 q h k1
set_option maxHeartbeats 4000000 in
set_option maxRecDepth 100000 in
theorem k_X2_load {D : Nat} (hD : 4 ≤ D) (H : Hp) (q : Hp) (h : f_X2_load H = some q) {post : Option Value → Hp → Prop} (hp : post none q) : Sem D mdX2_load [.ref 38, .ref 7] H post := by
  obtain ⟨D, rfl⟩ : ∃ E, D = E + 1 := ⟨D - 1, by omega⟩
  refine sem_of (own := RX2) rfl pn_RX2 (Nat.le_of_ble_eq_true rfl) [.ref 38, .ref 7, .null] ⟨Or.inr rfl, Or.inr rfl, rfl, trivial⟩ ?_
  unfold f_X2_load at h
  refine st_aload_n dX2_load_0 rfl rfl ?_
  refine st_aload_n dX2_load_1 rfl rfl ?_
  obtain ⟨H1, e_H1, h⟩ := bnd h
  refine st_callV [.ref 7] dX2_load_2 co_X2_lay im_X2_lay se_X2_lay ml_RX2_75 rfl (by decide) rfl (rfl : classes[2]? = some (RX2, TX2, 15)) rfl (S := []) rfl (Nat.le_of_ble_eq_true rfl) (k_X2_lay (by omega) H _ e_H1 ?_)
  show V (D + 1) RX2 mdX2_load 5 [.ref 38, .ref 7, .null] [] H1 post
  refine st_iconst dX2_load_5 (v := 0) rfl ?_
  refine st_istore_n dX2_load_6 rfl (by decide) [.ref 38, .ref 7, .int 0] rfl ?_
  obtain ⟨l9, e_l9, h⟩ := bnd h
  refine k_X2_load_l7 (by omega) fuel 0 H1 _ e_l9 ?_
  refine st_iconst dX2_load_61 (v := 0) rfl ?_
  refine st_istore_n dX2_load_62 rfl (by decide) [.ref 38, .null, .int 0] rfl ?_
  obtain ⟨l12, e_l12, h⟩ := bnd h
  refine k_X2_load_l63 (by omega) fuel 0 l9 _ e_l12 ?_
  refine st_iconst dX2_load_82 (v := 0) rfl ?_
  refine st_istore_n dX2_load_83 rfl (by decide) [.ref 38, .null, .int 0] rfl ?_
  obtain ⟨l15, e_l15, h⟩ := bnd h
  refine k_X2_load_l84 (by omega) fuel 0 l12 _ e_l15 ?_
  obtain rfl := Option.some.inj h
  exact st_vret dX2_load_101 rfl hp
def f_X2_claimOf (x1 : Int32) (H : Hp) : Option (Int32) :=
  (ag H 42 6 x1).bind fun v1 =>
  if v1 = 1 then
    (ag H 46 6 x1).bind fun v2 =>
    some v2
  else
  if v1 = 2 then
    (ag H 44 6 x1).bind fun v3 =>
    (ag H 43 6 x1).bind fun v4 =>
    some (if 0 < (((v3 * v3) / 10000) - v4) then (((v3 * v3) / 10000) - v4) else 0)
  else
  if v1 = 3 then
    (ag H 46 6 x1).bind fun v5 =>
    some (v5 / 2)
  else
  if v1 = 4 then
    (ag H 43 6 x1).bind fun v6 =>
    some v6
  else
    (ag H 43 6 x1).bind fun v7 =>
    (ag H 45 6 x1).bind fun v8 =>
    some (if (5 * v8) < v7 then (5 * v8) else v7)
set_option maxHeartbeats 4000000 in
set_option maxRecDepth 100000 in
theorem k_X2_claimOf {D : Nat} (hD : 1 ≤ D) (x1 : Int32) (H : Hp) (q : Int32) (h : f_X2_claimOf x1 H = some q) {post : Option Value → Hp → Prop} (hp : post (some (.int q)) H) : Sem D mdX2_claimOf [.ref 38, .int x1] H post := by
  obtain ⟨D, rfl⟩ : ∃ E, D = E + 1 := ⟨D - 1, by omega⟩
  refine sem_of (own := RX2) rfl pn_RX2 (Nat.le_of_ble_eq_true rfl) [.ref 38, .int x1, .null] ⟨Or.inr rfl, Or.inr rfl, rfl, trivial⟩ ?_
  unfold f_X2_claimOf at h
  refine st_aload_n dX2_claimOf_0 rfl rfl ?_
  refine gR2 dX2_claimOf_1 (by decide) rfl 3 (by decide) fl_RX2_22 rfl 42 rfl ?_
  refine st_iload_n dX2_claimOf_4 rfl rfl ?_
  obtain ⟨v1, e_v1, h⟩ := bnd h
  refine st_iald dX2_claimOf_5 (by decide) rfl v1 e_v1 ?_
  by_cases s9 : v1 = 1
  · replace h := (if_pos s9).symm.trans h
    refine st_tabIn dX2_claimOf_6 (by rw [s9]; decide) (by rw [s9]; decide) (by rw [s9] <;> rfl) 36 (by decide) ?_
    refine st_aload_n dX2_claimOf_36 rfl rfl ?_
    refine gR2 dX2_claimOf_37 (by decide) rfl 7 (by decide) fl_RX2_34 rfl 46 rfl ?_
    refine st_iload_n dX2_claimOf_40 rfl rfl ?_
    obtain ⟨v2, e_v2, h⟩ := bnd h
    refine st_iald dX2_claimOf_41 (by decide) rfl v2 e_v2 ?_
    obtain rfl := Option.some.inj h
    exact st_iret dX2_claimOf_42 rfl hp
  · replace h := (if_neg s9).symm.trans h
    by_cases s10 : v1 = 2
    · replace h := (if_pos s10).symm.trans h
      refine st_tabIn dX2_claimOf_6 (by rw [s10]; decide) (by rw [s10]; decide) (by rw [s10] <;> rfl) 43 (by decide) ?_
      refine st_aload_n dX2_claimOf_43 rfl rfl ?_
      refine gR2 dX2_claimOf_44 (by decide) rfl 5 (by decide) fl_RX2_28 rfl 44 rfl ?_
      refine st_iload_n dX2_claimOf_47 rfl rfl ?_
      obtain ⟨v3, e_v3, h⟩ := bnd h
      refine st_iald dX2_claimOf_48 (by decide) rfl v3 e_v3 ?_
      refine st_istore_n dX2_claimOf_49 rfl (by decide) [.ref 38, .int x1, .int v3] rfl ?_
      refine st_iconst dX2_claimOf_50 (v := 0) rfl ?_
      refine st_iload_n dX2_claimOf_51 rfl rfl ?_
      refine st_iload_n dX2_claimOf_52 rfl rfl ?_
      refine st_imul dX2_claimOf_53 ?_
      refine st_sipush dX2_claimOf_54 (v := 10000) (by decide) ?_
      refine st_idiv dX2_claimOf_57 (by decide) ?_
      refine st_aload_n dX2_claimOf_58 rfl rfl ?_
      refine gR2 dX2_claimOf_59 (by decide) rfl 4 (by decide) fl_RX2_25 rfl 43 rfl ?_
      refine st_iload_n dX2_claimOf_62 rfl rfl ?_
      obtain ⟨v4, e_v4, h⟩ := bnd h
      refine st_iald dX2_claimOf_63 (by decide) rfl v4 e_v4 ?_
      refine st_isub dX2_claimOf_64 ?_
      refine st_mmax dX2_claimOf_65 (by omega) ml_RX2_105 w_maxS w_mathI w_maxC (Nat.le_of_ble_eq_true rfl) ?_
      obtain rfl := Option.some.inj h
      exact st_iret dX2_claimOf_68 rfl hp
    · replace h := (if_neg s10).symm.trans h
      by_cases s11 : v1 = 3
      · replace h := (if_pos s11).symm.trans h
        refine st_tabIn dX2_claimOf_6 (by rw [s11]; decide) (by rw [s11]; decide) (by rw [s11] <;> rfl) 69 (by decide) ?_
        refine st_aload_n dX2_claimOf_69 rfl rfl ?_
        refine gR2 dX2_claimOf_70 (by decide) rfl 7 (by decide) fl_RX2_34 rfl 46 rfl ?_
        refine st_iload_n dX2_claimOf_73 rfl rfl ?_
        obtain ⟨v5, e_v5, h⟩ := bnd h
        refine st_iald dX2_claimOf_74 (by decide) rfl v5 e_v5 ?_
        refine st_iconst dX2_claimOf_75 (v := 2) rfl ?_
        refine st_idiv dX2_claimOf_76 (by decide) ?_
        obtain rfl := Option.some.inj h
        exact st_iret dX2_claimOf_77 rfl hp
      · replace h := (if_neg s11).symm.trans h
        by_cases s12 : v1 = 4
        · replace h := (if_pos s12).symm.trans h
          refine st_tabIn dX2_claimOf_6 (by rw [s12]; decide) (by rw [s12]; decide) (by rw [s12] <;> rfl) 78 (by decide) ?_
          refine st_aload_n dX2_claimOf_78 rfl rfl ?_
          refine gR2 dX2_claimOf_79 (by decide) rfl 4 (by decide) fl_RX2_25 rfl 43 rfl ?_
          refine st_iload_n dX2_claimOf_82 rfl rfl ?_
          obtain ⟨v6, e_v6, h⟩ := bnd h
          refine st_iald dX2_claimOf_83 (by decide) rfl v6 e_v6 ?_
          obtain rfl := Option.some.inj h
          exact st_iret dX2_claimOf_84 rfl hp
        · replace h := (if_neg s12).symm.trans h
          have ts9 := lv_neT s9 (a := 1) (by decide)
          have ts10 := lv_neT s10 (a := 2) (by decide)
          have ts11 := lv_neT s11 (a := 3) (by decide)
          have ts12 := lv_neT s12 (a := 4) (by decide)
          refine st_tabOut dX2_claimOf_6 (by omega) 85 (by decide) ?_
          refine st_aload_n dX2_claimOf_85 rfl rfl ?_
          refine gR2 dX2_claimOf_86 (by decide) rfl 4 (by decide) fl_RX2_25 rfl 43 rfl ?_
          refine st_iload_n dX2_claimOf_89 rfl rfl ?_
          obtain ⟨v7, e_v7, h⟩ := bnd h
          refine st_iald dX2_claimOf_90 (by decide) rfl v7 e_v7 ?_
          refine st_iconst dX2_claimOf_91 (v := 5) rfl ?_
          refine st_aload_n dX2_claimOf_92 rfl rfl ?_
          refine gR2 dX2_claimOf_93 (by decide) rfl 6 (by decide) fl_RX2_31 rfl 45 rfl ?_
          refine st_iload_n dX2_claimOf_96 rfl rfl ?_
          obtain ⟨v8, e_v8, h⟩ := bnd h
          refine st_iald dX2_claimOf_97 (by decide) rfl v8 e_v8 ?_
          refine st_imul dX2_claimOf_98 ?_
          refine st_mmin dX2_claimOf_99 (by omega) ml_RX2_110 w_minS w_mathI w_minC (Nat.le_of_ble_eq_true rfl) ?_
          obtain rfl := Option.some.inj h
          exact st_iret dX2_claimOf_102 rfl hp
def f_X2_share_l51 (x1 : Int32) : Nat → Int32 → Int32 → Hp → Option (Int32 × Hp)
  | 0, _, _, _ => none
  | n + 1, x2, x3, H =>
    if (H 38 10) ≤ x3 then
      some (x2, H)
    else
      (ag H 47 6 x3).bind fun v1 =>
      if (H 38 13) = 0 then none else
      (as H 48 6 x3 ((v1 * x1) / (H 38 13))).bind fun H2 =>
      (ag H2 48 6 x3).bind fun v3 =>
      f_X2_share_l51 x1 n (x2 - v3) (x3 + 1) H2
def f_X2_share_l95 : Nat → Int32 → Int32 → Hp → Option (Hp)
  | 0, _, _, _ => none
  | n + 1, x2, x3, H =>
    if (H 38 10) ≤ x3 then
      some H
    else
      if x2 ≤ 0 then
        some H
      else
        (ag H 47 6 x3).bind fun v7 =>
        Option.bind (
          if v7 ≤ 0 then
            some (x2, H)
          else
            (ag H 48 6 x3).bind fun v8 =>
            (as H 48 6 x3 (v8 + 1)).bind fun H9 =>
            some ((x2 + (-1)), H9)) fun j10 =>
        f_X2_share_l95 n j10.1 (x3 + 1) j10.2
def f_X2_share_l10 : Nat → Int32 → Hp → Option (Hp)
  | 0, _, _ => none
  | n + 1, x2, H =>
    if (H 38 10) ≤ x2 then
      some H
    else
      (ag H 47 6 x2).bind fun v17 =>
      (as H 48 6 x2 v17).bind fun H18 =>
      f_X2_share_l10 n (x2 + 1) H18
def f_X2_share (x1 : Int32) (H : Hp) : Option (Hp) :=
  if x1 < (H 38 13) then
    (f_X2_share_l51 x1 fuel x1 0 H).bind fun l6 =>
    (f_X2_share_l95 fuel l6.1 0 l6.2).bind fun l15 =>
    (pf l15 38 14 0).bind fun H16 =>
    some H16
  else
    (f_X2_share_l10 fuel 0 H).bind fun l20 =>
    (pf l20 38 14 (x1 - (l20 38 13))).bind fun H21 =>
    some H21
set_option maxHeartbeats 4000000 in
set_option maxRecDepth 100000 in
theorem k_X2_share_l51 {D : Nat} (hD : 0 ≤ D) (x1 : Int32) {post : Option Value → Hp → Prop} : ∀ (n : Nat) (x2 : Int32) (x3 : Int32) (H : Hp) (q : Int32 × Hp), f_X2_share_l51 x1 n x2 x3 H = some q → V D RX2 mdX2_share 93 [.ref 38, .null, .int q.1, .null] [] q.2 post → V D RX2 mdX2_share 51 [.ref 38, .int x1, .int x2, .int x3] [] H post := by
  intro n
  induction n with
  | zero => intro x2 x3 H q h; simp [f_X2_share_l51] at h
  | succ n ih =>
    intro x2 x3 H q h k1
    rw [f_X2_share_l51] at h
    refine st_iload_n dX2_share_51 rfl rfl ?_
    refine st_aload_n dX2_share_52 rfl rfl ?_
    refine gI2 dX2_share_53 (by decide) rfl 10 (by decide) fl_RX2_49 rfl rfl ?_
    refine st_ic_ge dX2_share_56 93 (by decide) (fun c4 => ?_) (fun c4 => ?_)
    · replace h := (if_pos c4).symm.trans h
      obtain rfl := Option.some.inj h
      exact st_sub [.ref 38, .null, .int x2, .null] ⟨Or.inr rfl, Or.inl rfl, Or.inr rfl, Or.inl rfl, trivial⟩ k1
    · replace h := (if_neg c4).symm.trans h
      refine st_aload_n dX2_share_59 rfl rfl ?_
      refine gR2 dX2_share_60 (by decide) rfl 9 (by decide) fl_RX2_40 rfl 48 rfl ?_
      refine st_iload_n dX2_share_63 rfl rfl ?_
      refine st_aload_n dX2_share_64 rfl rfl ?_
      refine gR2 dX2_share_65 (by decide) rfl 8 (by decide) fl_RX2_37 rfl 47 rfl ?_
      refine st_iload_n dX2_share_68 rfl rfl ?_
      obtain ⟨v1, e_v1, h⟩ := bnd h
      refine st_iald dX2_share_69 (by decide) rfl v1 e_v1 ?_
      refine st_iload_n dX2_share_70 rfl rfl ?_
      refine st_imul dX2_share_71 ?_
      refine st_aload_n dX2_share_72 rfl rfl ?_
      refine gI2 dX2_share_73 (by decide) rfl 13 (by decide) fl_RX2_96 rfl rfl ?_
      have n5 : ¬ (H 38 13) = 0 := fun z => by rw [if_pos z] at h; cases h
      replace h := (if_neg n5).symm.trans h
      refine st_idiv dX2_share_76 n5 ?_
      obtain ⟨H2, e_H2, h⟩ := bnd h
      refine st_iast dX2_share_77 (by decide) rfl H2 e_H2 ?_
      refine st_iload_n dX2_share_78 rfl rfl ?_
      refine st_aload_n dX2_share_79 rfl rfl ?_
      refine gR2 dX2_share_80 (by decide) rfl 9 (by decide) fl_RX2_40 rfl 48 rfl ?_
      refine st_iload_n dX2_share_83 rfl rfl ?_
      obtain ⟨v3, e_v3, h⟩ := bnd h
      refine st_iald dX2_share_84 (by decide) rfl v3 e_v3 ?_
      refine st_isub dX2_share_85 ?_
      refine st_istore_n dX2_share_86 rfl (by decide) [.ref 38, .int x1, .int (x2 - v3), .int x3] rfl ?_
      refine st_iinc dX2_share_87 rfl (v := (x3 + 1)) rfl (by decide) [.ref 38, .int x1, .int (x2 - v3), .int (x3 + 1)] rfl ?_
      refine st_goto dX2_share_90 51 (by decide) ?_
      exact ih (x2 - v3) (x3 + 1) H2 q h k1
set_option maxHeartbeats 4000000 in
set_option maxRecDepth 100000 in
theorem k_X2_share_l95 {D : Nat} (hD : 0 ≤ D) {post : Option Value → Hp → Prop} : ∀ (n : Nat) (x2 : Int32) (x3 : Int32) (H : Hp) (q : Hp), f_X2_share_l95 n x2 x3 H = some q → V D RX2 mdX2_share 135 [.ref 38, .null, .null, .null] [] q post → V D RX2 mdX2_share 95 [.ref 38, .null, .int x2, .int x3] [] H post := by
  intro n
  induction n with
  | zero => intro x2 x3 H q h; simp [f_X2_share_l95] at h
  | succ n ih =>
    intro x2 x3 H q h k1
    rw [f_X2_share_l95] at h
    refine st_iload_n dX2_share_95 rfl rfl ?_
    refine st_aload_n dX2_share_96 rfl rfl ?_
    refine gI2 dX2_share_97 (by decide) rfl 10 (by decide) fl_RX2_49 rfl rfl ?_
    refine st_ic_ge dX2_share_100 135 (by decide) (fun c11 => ?_) (fun c11 => ?_)
    · replace h := (if_pos c11).symm.trans h
      obtain rfl := Option.some.inj h
      exact st_sub [.ref 38, .null, .null, .null] ⟨Or.inr rfl, Or.inl rfl, Or.inl rfl, Or.inl rfl, trivial⟩ k1
    · replace h := (if_neg c11).symm.trans h
      refine st_iload_n dX2_share_103 rfl rfl ?_
      refine st_if_le dX2_share_104 135 (by decide) (fun c12 => ?_) (fun c12 => ?_)
      · replace h := (if_pos c12).symm.trans h
        obtain rfl := Option.some.inj h
        exact st_sub [.ref 38, .null, .null, .null] ⟨Or.inr rfl, Or.inl rfl, Or.inl rfl, Or.inl rfl, trivial⟩ k1
      · replace h := (if_neg c12).symm.trans h
        refine st_aload_n dX2_share_107 rfl rfl ?_
        refine gR2 dX2_share_108 (by decide) rfl 8 (by decide) fl_RX2_37 rfl 47 rfl ?_
        refine st_iload_n dX2_share_111 rfl rfl ?_
        obtain ⟨v7, e_v7, h⟩ := bnd h
        refine st_iald dX2_share_112 (by decide) rfl v7 e_v7 ?_
        obtain ⟨j10, e_j10, h⟩ := bnd h
        have kj13 : V D RX2 mdX2_share 129 [.ref 38, .null, .int j10.1, .int x3] [] j10.2 post := by
          refine st_iinc dX2_share_129 rfl (v := (x3 + 1)) rfl (by decide) [.ref 38, .null, .int j10.1, .int (x3 + 1)] rfl ?_
          refine st_goto dX2_share_132 95 (by decide) ?_
          exact ih j10.1 (x3 + 1) j10.2 q h k1
        refine st_if_le dX2_share_113 129 (by decide) (fun c14 => ?_) (fun c14 => ?_)
        · replace e_j10 := (if_pos c14).symm.trans e_j10
          obtain rfl := Option.some.inj e_j10
          exact kj13
        · replace e_j10 := (if_neg c14).symm.trans e_j10
          refine st_aload_n dX2_share_116 rfl rfl ?_
          refine gR2 dX2_share_117 (by decide) rfl 9 (by decide) fl_RX2_40 rfl 48 rfl ?_
          refine st_iload_n dX2_share_120 rfl rfl ?_
          refine st_dup2 dX2_share_121 rfl rfl ?_
          obtain ⟨v8, e_v8, e_j10⟩ := bnd e_j10
          refine st_iald dX2_share_122 (by decide) rfl v8 e_v8 ?_
          refine st_iconst dX2_share_123 (v := 1) rfl ?_
          refine st_iadd dX2_share_124 ?_
          obtain ⟨H9, e_H9, e_j10⟩ := bnd e_j10
          refine st_iast dX2_share_125 (by decide) rfl H9 e_H9 ?_
          refine st_iinc dX2_share_126 rfl (v := (x2 + (-1))) rfl (by decide) [.ref 38, .null, .int (x2 + (-1)), .int x3] rfl ?_
          obtain rfl := Option.some.inj e_j10
          exact kj13
set_option maxHeartbeats 4000000 in
set_option maxRecDepth 100000 in
theorem k_X2_share_l10 {D : Nat} (hD : 0 ≤ D) (x1 : Int32) {post : Option Value → Hp → Prop} : ∀ (n : Nat) (x2 : Int32) (H : Hp) (q : Hp), f_X2_share_l10 n x2 H = some q → V D RX2 mdX2_share 36 [.ref 38, .int x1, .null, .null] [] q post → V D RX2 mdX2_share 10 [.ref 38, .int x1, .int x2, .null] [] H post := by
  intro n
  induction n with
  | zero => intro x2 H q h; simp [f_X2_share_l10] at h
  | succ n ih =>
    intro x2 H q h k1
    rw [f_X2_share_l10] at h
    refine st_iload_n dX2_share_10 rfl rfl ?_
    refine st_aload_n dX2_share_11 rfl rfl ?_
    refine gI2 dX2_share_12 (by decide) rfl 10 (by decide) fl_RX2_49 rfl rfl ?_
    refine st_ic_ge dX2_share_15 36 (by decide) (fun c19 => ?_) (fun c19 => ?_)
    · replace h := (if_pos c19).symm.trans h
      obtain rfl := Option.some.inj h
      exact st_sub [.ref 38, .int x1, .null, .null] ⟨Or.inr rfl, Or.inr rfl, Or.inl rfl, Or.inl rfl, trivial⟩ k1
    · replace h := (if_neg c19).symm.trans h
      refine st_aload_n dX2_share_18 rfl rfl ?_
      refine gR2 dX2_share_19 (by decide) rfl 9 (by decide) fl_RX2_40 rfl 48 rfl ?_
      refine st_iload_n dX2_share_22 rfl rfl ?_
      refine st_aload_n dX2_share_23 rfl rfl ?_
      refine gR2 dX2_share_24 (by decide) rfl 8 (by decide) fl_RX2_37 rfl 47 rfl ?_
      refine st_iload_n dX2_share_27 rfl rfl ?_
      obtain ⟨v17, e_v17, h⟩ := bnd h
      refine st_iald dX2_share_28 (by decide) rfl v17 e_v17 ?_
      obtain ⟨H18, e_H18, h⟩ := bnd h
      refine st_iast dX2_share_29 (by decide) rfl H18 e_H18 ?_
      refine st_iinc dX2_share_30 rfl (v := (x2 + 1)) rfl (by decide) [.ref 38, .int x1, .int (x2 + 1), .null] rfl ?_
      refine st_goto dX2_share_33 10 (by decide) ?_
      exact ih (x2 + 1) H18 q h k1
set_option maxHeartbeats 4000000 in
set_option maxRecDepth 100000 in
theorem k_X2_share {D : Nat} (hD : 0 ≤ D) (x1 : Int32) (H : Hp) (q : Hp) (h : f_X2_share x1 H = some q) {post : Option Value → Hp → Prop} (hp : post none q) : Sem D mdX2_share [.ref 38, .int x1] H post := by
  refine sem_of (own := RX2) rfl pn_RX2 (Nat.le_of_ble_eq_true rfl) [.ref 38, .int x1, .null, .null] ⟨Or.inr rfl, Or.inr rfl, rfl, rfl, trivial⟩ ?_
  unfold f_X2_share at h
  refine st_aload_n dX2_share_0 rfl rfl ?_
  refine gI2 dX2_share_1 (by decide) rfl 13 (by decide) fl_RX2_96 rfl rfl ?_
  refine st_iload_n dX2_share_4 rfl rfl ?_
  refine st_ic_gt dX2_share_5 47 (by decide) (fun c22 => ?_) (fun c22 => ?_)
  · replace h := (if_pos c22).symm.trans h
    refine st_iload_n dX2_share_47 rfl rfl ?_
    refine st_istore_n dX2_share_48 rfl (by decide) [.ref 38, .int x1, .int x1, .null] rfl ?_
    refine st_iconst dX2_share_49 (v := 0) rfl ?_
    refine st_istore_n dX2_share_50 rfl (by decide) [.ref 38, .int x1, .int x1, .int 0] rfl ?_
    obtain ⟨l6, e_l6, h⟩ := bnd h
    refine k_X2_share_l51 (by omega) x1 fuel x1 0 H _ e_l6 ?_
    refine st_iconst dX2_share_93 (v := 0) rfl ?_
    refine st_istore_n dX2_share_94 rfl (by decide) [.ref 38, .null, .int l6.1, .int 0] rfl ?_
    obtain ⟨l15, e_l15, h⟩ := bnd h
    refine k_X2_share_l95 (by omega) fuel l6.1 0 l6.2 _ e_l15 ?_
    refine st_aload_n dX2_share_135 rfl rfl ?_
    refine st_iconst dX2_share_136 (v := 0) rfl ?_
    obtain ⟨H16, e_H16, h⟩ := bnd h
    refine pI2 dX2_share_137 (by decide) rfl 14 (by decide) fl_RX2_113 rfl rfl rfl rfl e_H16 ?_
    obtain rfl := Option.some.inj h
    exact st_vret dX2_share_140 rfl hp
  · replace h := (if_neg c22).symm.trans h
    refine st_iconst dX2_share_8 (v := 0) rfl ?_
    refine st_istore_n dX2_share_9 rfl (by decide) [.ref 38, .int x1, .int 0, .null] rfl ?_
    obtain ⟨l20, e_l20, h⟩ := bnd h
    refine k_X2_share_l10 (by omega) x1 fuel 0 H _ e_l20 ?_
    refine st_aload_n dX2_share_36 rfl rfl ?_
    refine st_iload_n dX2_share_37 rfl rfl ?_
    refine st_aload_n dX2_share_38 rfl rfl ?_
    refine gI2 dX2_share_39 (by decide) rfl 13 (by decide) fl_RX2_96 rfl rfl ?_
    refine st_isub dX2_share_42 ?_
    obtain ⟨H21, e_H21, h⟩ := bnd h
    refine pI2 dX2_share_43 (by decide) rfl 14 (by decide) fl_RX2_113 rfl rfl rfl rfl e_H21 ?_
    obtain rfl := Option.some.inj h
    exact st_vret dX2_share_46 rfl hp
def f_X2_settle_l7 : Nat → Int32 → Hp → Option (Hp)
  | 0, _, _ => none
  | n + 1, x1, H =>
    if (H 38 10) ≤ x1 then
      some H
    else
      (f_X2_claimOf x1 H).bind fun v2 =>
      (as H 47 6 x1 v2).bind fun H3 =>
      (ag H3 47 6 x1).bind fun v4 =>
      (pf H3 38 13 ((H3 38 13) + v4)).bind fun H5 =>
      f_X2_settle_l7 n (x1 + 1) H5
def f_X2_settle (H : Hp) : Option (Hp) :=
  (pf H 38 13 0).bind fun H1 =>
  (f_X2_settle_l7 fuel 0 H1).bind fun l7 =>
  (f_X2_share (l7 38 11) l7).bind fun H8 =>
  some H8
set_option maxHeartbeats 4000000 in
set_option maxRecDepth 100000 in
theorem k_X2_settle_l7 {D : Nat} (hD : 2 ≤ (D + 1)) {post : Option Value → Hp → Prop} : ∀ (n : Nat) (x1 : Int32) (H : Hp) (q : Hp), f_X2_settle_l7 n x1 H = some q → V (D + 1) RX2 mdX2_settle 47 [.ref 38, .null] [] q post → V (D + 1) RX2 mdX2_settle 7 [.ref 38, .int x1] [] H post := by
  intro n
  induction n with
  | zero => intro x1 H q h; simp [f_X2_settle_l7] at h
  | succ n ih =>
    intro x1 H q h k1
    rw [f_X2_settle_l7] at h
    refine st_iload_n dX2_settle_7 rfl rfl ?_
    refine st_aload_n dX2_settle_8 rfl rfl ?_
    refine gI2 dX2_settle_9 (by decide) rfl 10 (by decide) fl_RX2_49 rfl rfl ?_
    refine st_ic_ge dX2_settle_12 47 (by decide) (fun c6 => ?_) (fun c6 => ?_)
    · replace h := (if_pos c6).symm.trans h
      obtain rfl := Option.some.inj h
      exact st_sub [.ref 38, .null] ⟨Or.inr rfl, Or.inl rfl, trivial⟩ k1
    · replace h := (if_neg c6).symm.trans h
      refine st_aload_n dX2_settle_15 rfl rfl ?_
      refine gR2 dX2_settle_16 (by decide) rfl 8 (by decide) fl_RX2_37 rfl 47 rfl ?_
      refine st_iload_n dX2_settle_19 rfl rfl ?_
      refine st_aload_n dX2_settle_20 rfl rfl ?_
      refine st_iload_n dX2_settle_21 rfl rfl ?_
      obtain ⟨v2, e_v2, h⟩ := bnd h
      refine st_callV [.int x1] dX2_settle_22 co_X2_claimOf im_X2_claimOf se_X2_claimOf ml_RX2_99 rfl (by decide) rfl (rfl : classes[2]? = some (RX2, TX2, 15)) rfl (S := [.int x1, .ref 47]) rfl (Nat.le_of_ble_eq_true rfl) (k_X2_claimOf (by omega) x1 H _ e_v2 ?_)
      show V (D + 1) RX2 mdX2_settle 25 [.ref 38, .int x1] [.int v2, .int x1, .ref 47] H post
      obtain ⟨H3, e_H3, h⟩ := bnd h
      refine st_iast dX2_settle_25 (by decide) rfl H3 e_H3 ?_
      refine st_aload_n dX2_settle_26 rfl rfl ?_
      refine st_dup dX2_settle_27 rfl ?_
      refine gI2 dX2_settle_28 (by decide) rfl 13 (by decide) fl_RX2_96 rfl rfl ?_
      refine st_aload_n dX2_settle_31 rfl rfl ?_
      refine gR2 dX2_settle_32 (by decide) rfl 8 (by decide) fl_RX2_37 rfl 47 rfl ?_
      refine st_iload_n dX2_settle_35 rfl rfl ?_
      obtain ⟨v4, e_v4, h⟩ := bnd h
      refine st_iald dX2_settle_36 (by decide) rfl v4 e_v4 ?_
      refine st_iadd dX2_settle_37 ?_
      obtain ⟨H5, e_H5, h⟩ := bnd h
      refine pI2 dX2_settle_38 (by decide) rfl 13 (by decide) fl_RX2_96 rfl rfl rfl rfl e_H5 ?_
      refine st_iinc dX2_settle_41 rfl (v := (x1 + 1)) rfl (by decide) [.ref 38, .int (x1 + 1)] rfl ?_
      refine st_goto dX2_settle_44 7 (by decide) ?_
      exact ih (x1 + 1) H5 q h k1
set_option maxHeartbeats 4000000 in
set_option maxRecDepth 100000 in
theorem k_X2_settle {D : Nat} (hD : 2 ≤ D) (H : Hp) (q : Hp) (h : f_X2_settle H = some q) {post : Option Value → Hp → Prop} (hp : post none q) : Sem D mdX2_settle [.ref 38] H post := by
  obtain ⟨D, rfl⟩ : ∃ E, D = E + 1 := ⟨D - 1, by omega⟩
  refine sem_of (own := RX2) rfl pn_RX2 (Nat.le_of_ble_eq_true rfl) [.ref 38, .null] ⟨Or.inr rfl, rfl, trivial⟩ ?_
  unfold f_X2_settle at h
  refine st_aload_n dX2_settle_0 rfl rfl ?_
  refine st_iconst dX2_settle_1 (v := 0) rfl ?_
  obtain ⟨H1, e_H1, h⟩ := bnd h
  refine pI2 dX2_settle_2 (by decide) rfl 13 (by decide) fl_RX2_96 rfl rfl rfl rfl e_H1 ?_
  refine st_iconst dX2_settle_5 (v := 0) rfl ?_
  refine st_istore_n dX2_settle_6 rfl (by decide) [.ref 38, .int 0] rfl ?_
  obtain ⟨l7, e_l7, h⟩ := bnd h
  refine k_X2_settle_l7 (by omega) fuel 0 H1 _ e_l7 ?_
  refine st_aload_n dX2_settle_47 rfl rfl ?_
  refine st_aload_n dX2_settle_48 rfl rfl ?_
  refine gI2 dX2_settle_49 (by decide) rfl 11 (by decide) fl_RX2_53 rfl rfl ?_
  obtain ⟨H8, e_H8, h⟩ := bnd h
  refine st_callV [.int (l7 38 11)] dX2_settle_52 co_X2_share im_X2_share se_X2_share ml_RX2_102 rfl (by decide) rfl (rfl : classes[2]? = some (RX2, TX2, 15)) rfl (S := []) rfl (Nat.le_of_ble_eq_true rfl) (k_X2_share (by omega) (l7 38 11) l7 _ e_H8 ?_)
  show V (D + 1) RX2 mdX2_settle 55 [.ref 38, .null] [] H8 post
  obtain rfl := Option.some.inj h
  exact st_vret dX2_settle_55 rfl hp
def f_X2_giversTo_l4 (H : Hp) (x1 : Int32) : Nat → Int32 → Int32 → Option (Int32)
  | 0, _, _ => none
  | n + 1, x2, x3 =>
    if 10 ≤ x3 then
      some x2
    else
      (f_X2_sumFrom x3 x1 H).bind fun v1 =>
      f_X2_giversTo_l4 H x1 n (if v1 ≤ 0 then x2 else (x2 ||| ((1 : Int32) <<< (x3 &&& 31)))) (x3 + 1)
def f_X2_giversTo (x1 : Int32) (H : Hp) : Option (Int32) :=
  (f_X2_giversTo_l4 H x1 fuel 0 0).bind fun l6 =>
  some l6
set_option maxHeartbeats 4000000 in
set_option maxRecDepth 100000 in
theorem k_X2_giversTo_l4 {D : Nat} (hD : 1 ≤ (D + 1)) (H : Hp) (x1 : Int32) {post : Option Value → Hp → Prop} : ∀ (n : Nat) (x2 : Int32) (x3 : Int32) (q : Int32), f_X2_giversTo_l4 H x1 n x2 x3 = some q → V (D + 1) RX2 mdX2_giversTo 31 [.null, .null, .int q, .null] [] H post → V (D + 1) RX2 mdX2_giversTo 4 [.ref 38, .int x1, .int x2, .int x3] [] H post := by
  intro n
  induction n with
  | zero => intro x2 x3 q h; simp [f_X2_giversTo_l4] at h
  | succ n ih =>
    intro x2 x3 q h k1
    rw [f_X2_giversTo_l4] at h
    refine st_iload_n dX2_giversTo_4 rfl rfl ?_
    refine st_bipush dX2_giversTo_5 (v := 10) (by decide) ?_
    refine st_ic_ge dX2_giversTo_7 31 (by decide) (fun c2 => ?_) (fun c2 => ?_)
    · replace h := (if_pos c2).symm.trans h
      obtain rfl := Option.some.inj h
      exact st_sub [.null, .null, .int x2, .null] ⟨Or.inl rfl, Or.inl rfl, Or.inr rfl, Or.inl rfl, trivial⟩ k1
    · replace h := (if_neg c2).symm.trans h
      refine st_aload_n dX2_giversTo_10 rfl rfl ?_
      refine st_iload_n dX2_giversTo_11 rfl rfl ?_
      refine st_iload_n dX2_giversTo_12 rfl rfl ?_
      obtain ⟨v1, e_v1, h⟩ := bnd h
      refine st_callV [.int x3, .int x1] dX2_giversTo_13 co_X2_sumFrom im_X2_sumFrom se_X2_sumFrom ml_RX2_88 rfl (by decide) rfl (rfl : classes[2]? = some (RX2, TX2, 15)) rfl (S := []) rfl (Nat.le_of_ble_eq_true rfl) (k_X2_sumFrom (by omega) x3 x1 H _ e_v1 ?_)
      show V (D + 1) RX2 mdX2_giversTo 16 [.ref 38, .int x1, .int x2, .int x3] [.int v1] H post
      have kj4 : ∀ z3 : Int32, z3 = (if v1 ≤ 0 then x2 else (x2 ||| ((1 : Int32) <<< (x3 &&& 31)))) → V (D + 1) RX2 mdX2_giversTo 25 [.ref 38, .int x1, .int z3, .int x3] [] H post := by
        intro z3 ez3
        subst ez3
        refine st_iinc dX2_giversTo_25 rfl (v := (x3 + 1)) rfl (by decide) [.ref 38, .int x1, .int (if v1 ≤ 0 then x2 else (x2 ||| ((1 : Int32) <<< (x3 &&& 31)))), .int (x3 + 1)] rfl ?_
        refine st_goto dX2_giversTo_28 4 (by decide) ?_
        exact ih (if v1 ≤ 0 then x2 else (x2 ||| ((1 : Int32) <<< (x3 &&& 31)))) (x3 + 1) q h k1
      refine st_if_le dX2_giversTo_16 25 (by decide) (fun c5 => ?_) (fun c5 => ?_)
      · exact (kj4 _ (Eq.symm (if_pos c5)))
      · refine st_iload_n dX2_giversTo_19 rfl rfl ?_
        refine st_iconst dX2_giversTo_20 (v := 1) rfl ?_
        refine st_iload_n dX2_giversTo_21 rfl rfl ?_
        refine st_ishl dX2_giversTo_22 ?_
        refine st_ior dX2_giversTo_23 ?_
        refine st_istore_n dX2_giversTo_24 rfl (by decide) [.ref 38, .int x1, .int (x2 ||| ((1 : Int32) <<< (x3 &&& 31))), .int x3] rfl ?_
        exact (kj4 _ (Eq.symm (if_neg c5)))
set_option maxHeartbeats 4000000 in
set_option maxRecDepth 100000 in
theorem k_X2_giversTo {D : Nat} (hD : 1 ≤ D) (x1 : Int32) (H : Hp) (q : Int32) (h : f_X2_giversTo x1 H = some q) {post : Option Value → Hp → Prop} (hp : post (some (.int q)) H) : Sem D mdX2_giversTo [.ref 38, .int x1] H post := by
  obtain ⟨D, rfl⟩ : ∃ E, D = E + 1 := ⟨D - 1, by omega⟩
  refine sem_of (own := RX2) rfl pn_RX2 (Nat.le_of_ble_eq_true rfl) [.ref 38, .int x1, .null, .null] ⟨Or.inr rfl, Or.inr rfl, rfl, rfl, trivial⟩ ?_
  unfold f_X2_giversTo at h
  refine st_iconst dX2_giversTo_0 (v := 0) rfl ?_
  refine st_istore_n dX2_giversTo_1 rfl (by decide) [.ref 38, .int x1, .int 0, .null] rfl ?_
  refine st_iconst dX2_giversTo_2 (v := 0) rfl ?_
  refine st_istore_n dX2_giversTo_3 rfl (by decide) [.ref 38, .int x1, .int 0, .int 0] rfl ?_
  obtain ⟨l6, e_l6, h⟩ := bnd h
  refine k_X2_giversTo_l4 (by omega) H x1 fuel 0 0 _ e_l6 ?_
  refine st_iload_n dX2_giversTo_31 rfl rfl ?_
  obtain rfl := Option.some.inj h
  exact st_iret dX2_giversTo_32 rfl hp
def f_X7_project (x1 : Int32) (x2 : Int32) (H : Hp) : Option (Int32 × Hp) :=
  (f_X7_isProject x1 H).bind fun v1 =>
  if v1 = 0 then
    some ((-1000001), H)
  else
    (f_X7_within x2 0 2).bind fun v2 =>
    if v2 = 0 then
      some ((-1000001), H)
    else
      (f_X2_load H).bind fun H3 =>
      (f_X2_settle H3).bind fun H4 =>
      if x2 = 0 then
        (ag H4 47 6 x1).bind fun v5 =>
        some (v5, H4)
      else
      if x2 = 1 then
        (ag H4 48 6 x1).bind fun v6 =>
        some (v6, H4)
      else
        (f_X2_giversTo x1 H4).bind fun v7 =>
        some (v7, H4)
set_option maxHeartbeats 4000000 in
set_option maxRecDepth 100000 in
theorem k_X7_project {D : Nat} (hD : 5 ≤ D) (x1 : Int32) (x2 : Int32) (H : Hp) (q : Int32 × Hp) (h : f_X7_project x1 x2 H = some q) {post : Option Value → Hp → Prop} (hp : post (some (.int q.1)) q.2) : Sem D mdX7_project [.ref 0, .int x1, .int x2] H post := by
  obtain ⟨D, rfl⟩ : ∃ E, D = E + 1 := ⟨D - 1, by omega⟩
  refine sem_of (own := RX7) rfl pn_RX7 (Nat.le_of_ble_eq_true rfl) [.ref 0, .int x1, .int x2] ⟨Or.inr rfl, Or.inr rfl, Or.inr rfl, trivial⟩ ?_
  unfold f_X7_project at h
  refine st_aload_n dX7_project_0 rfl rfl ?_
  refine st_iload_n dX7_project_1 rfl rfl ?_
  obtain ⟨v1, e_v1, h⟩ := bnd h
  refine st_callV [.int x1] dX7_project_2 co_X7_isProject im_X7_isProject se_X7_isProject ml_RX7_152 rfl (by decide) rfl (rfl : classes[7]? = some (RX7, TX7, 11)) rfl (S := []) rfl (Nat.le_of_ble_eq_true rfl) (k_X7_isProject (by omega) x1 H _ e_v1 ?_)
  show V (D + 1) RX7 mdX7_project 5 [.ref 0, .int x1, .int x2] [.int v1] H post
  refine st_if_eq dX7_project_5 17 (by decide) (fun c8 => ?_) (fun c8 => ?_)
  · replace h := (if_pos c8).symm.trans h
    refine st_ldc dX7_project_17 cn_RX7_77 ?_
    obtain rfl := Option.some.inj h
    exact st_iret dX7_project_19 rfl hp
  · replace h := (if_neg c8).symm.trans h
    refine st_iload_n dX7_project_8 rfl rfl ?_
    refine st_iconst dX7_project_9 (v := 0) rfl ?_
    refine st_iconst dX7_project_10 (v := 2) rfl ?_
    obtain ⟨v2, e_v2, h⟩ := bnd h
    refine st_callS [.int x2, .int 0, .int 2] dX7_project_11 co_X7_within sm_X7_within ml_RX7_73 rfl (S := []) rfl (Nat.le_of_ble_eq_true rfl) (k_X7_within (by omega) x2 0 2 H _ e_v2 ?_)
    show V (D + 1) RX7 mdX7_project 14 [.ref 0, .int x1, .int x2] [.int v2] H post
    refine st_if_ne dX7_project_14 20 (by decide) (fun c9 => ?_) (fun c9 => ?_)
    · replace h := (if_neg c9).symm.trans h
      refine st_aload_n dX7_project_20 rfl rfl ?_
      refine gR7 dX7_project_21 (by decide) rfl 6 (by decide) fl_RX7_47 rfl 38 rfl ?_
      refine st_aload_n dX7_project_24 rfl rfl ?_
      refine gR7 dX7_project_25 (by decide) rfl 2 (by decide) fl_RX7_26 rfl 7 rfl ?_
      obtain ⟨H3, e_H3, h⟩ := bnd h
      refine st_callV [.ref 7] dX7_project_28 co_X2_load im_X2_load se_X2_load ml_RX7_221 rfl (by decide) rfl (rfl : classes[2]? = some (RX2, TX2, 15)) rfl (S := []) rfl (Nat.le_of_ble_eq_true rfl) (k_X2_load (by omega) H _ e_H3 ?_)
      show V (D + 1) RX7 mdX7_project 31 [.ref 0, .int x1, .int x2] [] H3 post
      refine st_aload_n dX7_project_31 rfl rfl ?_
      refine gR7 dX7_project_32 (by decide) rfl 6 (by decide) fl_RX7_47 rfl 38 rfl ?_
      obtain ⟨H4, e_H4, h⟩ := bnd h
      refine st_callV [] dX7_project_35 co_X2_settle im_X2_settle se_X2_settle ml_RX7_224 rfl (by decide) rfl (rfl : classes[2]? = some (RX2, TX2, 15)) rfl (S := []) rfl (Nat.le_of_ble_eq_true rfl) (k_X2_settle (by omega) H3 _ e_H4 ?_)
      show V (D + 1) RX7 mdX7_project 38 [.ref 0, .int x1, .int x2] [] H4 post
      refine st_iload_n dX7_project_38 rfl rfl ?_
      by_cases s10 : x2 = 0
      · replace h := (if_pos s10).symm.trans h
        refine st_lookup dX7_project_39 (by decide) (by rw [s10] <;> rfl) 64 (by decide) ?_
        refine st_aload_n dX7_project_64 rfl rfl ?_
        refine gR7 dX7_project_65 (by decide) rfl 6 (by decide) fl_RX7_47 rfl 38 rfl ?_
        refine gR2 dX7_project_68 (by decide) rfl 8 (by decide) fl_RX7_227 rfl 47 rfl ?_
        refine st_iload_n dX7_project_71 rfl rfl ?_
        obtain ⟨v5, e_v5, h⟩ := bnd h
        refine st_iald dX7_project_72 (by decide) rfl v5 e_v5 ?_
        obtain rfl := Option.some.inj h
        exact st_iret dX7_project_73 rfl hp
      · replace h := (if_neg s10).symm.trans h
        by_cases s11 : x2 = 1
        · replace h := (if_pos s11).symm.trans h
          refine st_lookup dX7_project_39 (by decide) (by rw [s11] <;> rfl) 74 (by decide) ?_
          refine st_aload_n dX7_project_74 rfl rfl ?_
          refine gR7 dX7_project_75 (by decide) rfl 6 (by decide) fl_RX7_47 rfl 38 rfl ?_
          refine gR2 dX7_project_78 (by decide) rfl 9 (by decide) fl_RX7_230 rfl 48 rfl ?_
          refine st_iload_n dX7_project_81 rfl rfl ?_
          obtain ⟨v6, e_v6, h⟩ := bnd h
          refine st_iald dX7_project_82 (by decide) rfl v6 e_v6 ?_
          obtain rfl := Option.some.inj h
          exact st_iret dX7_project_83 rfl hp
        · replace h := (if_neg s11).symm.trans h
          refine st_lookup dX7_project_39 (by decide) (off := 45) ((lv_osw s10 (by decide)).trans ((lv_osw s11 (by decide)).trans rfl)) 84 (by decide) ?_
          refine st_aload_n dX7_project_84 rfl rfl ?_
          refine gR7 dX7_project_85 (by decide) rfl 6 (by decide) fl_RX7_47 rfl 38 rfl ?_
          refine st_iload_n dX7_project_88 rfl rfl ?_
          obtain ⟨v7, e_v7, h⟩ := bnd h
          refine st_callV [.int x1] dX7_project_89 co_X2_giversTo im_X2_giversTo se_X2_giversTo ml_RX7_233 rfl (by decide) rfl (rfl : classes[2]? = some (RX2, TX2, 15)) rfl (S := []) rfl (Nat.le_of_ble_eq_true rfl) (k_X2_giversTo (by omega) x1 H4 _ e_v7 ?_)
          show V (D + 1) RX7 mdX7_project 92 [.ref 0, .int x1, .int x2] [.int v7] H4 post
          obtain rfl := Option.some.inj h
          exact st_iret dX7_project_92 rfl hp
    · replace h := (if_pos c9).symm.trans h
      refine st_ldc dX7_project_17 cn_RX7_77 ?_
      obtain rfl := Option.some.inj h
      exact st_iret dX7_project_19 rfl hp
def f_X2_allPaid_l4 (H : Hp) : Nat → Int32 → Int32 → Option (Int32)
  | 0, _, _ => none
  | n + 1, x1, x2 =>
    if (H 38 10) ≤ x2 then
      some x1
    else
      (ag H 48 6 x2).bind fun v1 =>
      f_X2_allPaid_l4 H n (x1 + v1) (x2 + 1)
def f_X2_allPaid (H : Hp) : Option (Int32) :=
  (f_X2_allPaid_l4 H fuel 0 0).bind fun l3 =>
  some l3
set_option maxHeartbeats 4000000 in
set_option maxRecDepth 100000 in
theorem k_X2_allPaid_l4 {D : Nat} (hD : 0 ≤ D) (H : Hp) {post : Option Value → Hp → Prop} : ∀ (n : Nat) (x1 : Int32) (x2 : Int32) (q : Int32), f_X2_allPaid_l4 H n x1 x2 = some q → V D RX2 mdX2_allPaid 27 [.null, .int q, .null] [] H post → V D RX2 mdX2_allPaid 4 [.ref 38, .int x1, .int x2] [] H post := by
  intro n
  induction n with
  | zero => intro x1 x2 q h; simp [f_X2_allPaid_l4] at h
  | succ n ih =>
    intro x1 x2 q h k1
    rw [f_X2_allPaid_l4] at h
    refine st_iload_n dX2_allPaid_4 rfl rfl ?_
    refine st_aload_n dX2_allPaid_5 rfl rfl ?_
    refine gI2 dX2_allPaid_6 (by decide) rfl 10 (by decide) fl_RX2_49 rfl rfl ?_
    refine st_ic_ge dX2_allPaid_9 27 (by decide) (fun c2 => ?_) (fun c2 => ?_)
    · replace h := (if_pos c2).symm.trans h
      obtain rfl := Option.some.inj h
      exact st_sub [.null, .int x1, .null] ⟨Or.inl rfl, Or.inr rfl, Or.inl rfl, trivial⟩ k1
    · replace h := (if_neg c2).symm.trans h
      refine st_iload_n dX2_allPaid_12 rfl rfl ?_
      refine st_aload_n dX2_allPaid_13 rfl rfl ?_
      refine gR2 dX2_allPaid_14 (by decide) rfl 9 (by decide) fl_RX2_40 rfl 48 rfl ?_
      refine st_iload_n dX2_allPaid_17 rfl rfl ?_
      obtain ⟨v1, e_v1, h⟩ := bnd h
      refine st_iald dX2_allPaid_18 (by decide) rfl v1 e_v1 ?_
      refine st_iadd dX2_allPaid_19 ?_
      refine st_istore_n dX2_allPaid_20 rfl (by decide) [.ref 38, .int (x1 + v1), .int x2] rfl ?_
      refine st_iinc dX2_allPaid_21 rfl (v := (x2 + 1)) rfl (by decide) [.ref 38, .int (x1 + v1), .int (x2 + 1)] rfl ?_
      refine st_goto dX2_allPaid_24 4 (by decide) ?_
      exact ih (x1 + v1) (x2 + 1) q h k1
set_option maxHeartbeats 4000000 in
set_option maxRecDepth 100000 in
theorem k_X2_allPaid {D : Nat} (hD : 0 ≤ D) (H : Hp) (q : Int32) (h : f_X2_allPaid H = some q) {post : Option Value → Hp → Prop} (hp : post (some (.int q)) H) : Sem D mdX2_allPaid [.ref 38] H post := by
  refine sem_of (own := RX2) rfl pn_RX2 (Nat.le_of_ble_eq_true rfl) [.ref 38, .null, .null] ⟨Or.inr rfl, rfl, rfl, trivial⟩ ?_
  unfold f_X2_allPaid at h
  refine st_iconst dX2_allPaid_0 (v := 0) rfl ?_
  refine st_istore_n dX2_allPaid_1 rfl (by decide) [.ref 38, .int 0, .null] rfl ?_
  refine st_iconst dX2_allPaid_2 (v := 0) rfl ?_
  refine st_istore_n dX2_allPaid_3 rfl (by decide) [.ref 38, .int 0, .int 0] rfl ?_
  obtain ⟨l3, e_l3, h⟩ := bnd h
  refine k_X2_allPaid_l4 (by omega) H fuel 0 0 _ e_l3 ?_
  refine st_iload_n dX2_allPaid_27 rfl rfl ?_
  obtain rfl := Option.some.inj h
  exact st_iret dX2_allPaid_28 rfl hp
def f_X7_stand (x1 : Int32) (H : Hp) : Option (Int32 × Hp) :=
  if (H 7 0) = 0 then
    some ((-1000002), H)
  else
    (f_X2_load H).bind fun H1 =>
    (f_X2_settle H1).bind fun H2 =>
    if x1 = 0 then
      some ((H2 7 1), H2)
    else
    if x1 = 1 then
      some ((H2 38 13), H2)
    else
    if x1 = 2 then
      (f_X2_allPaid H2).bind fun v3 =>
      some (v3, H2)
    else
    if x1 = 3 then
      some ((H2 38 14), H2)
    else
      some ((-1000001), H2)
set_option maxHeartbeats 4000000 in
set_option maxRecDepth 100000 in
theorem k_X7_stand {D : Nat} (hD : 5 ≤ D) (x1 : Int32) (H : Hp) (q : Int32 × Hp) (h : f_X7_stand x1 H = some q) {post : Option Value → Hp → Prop} (hp : post (some (.int q.1)) q.2) : Sem D mdX7_stand [.ref 0, .int x1] H post := by
  obtain ⟨D, rfl⟩ : ∃ E, D = E + 1 := ⟨D - 1, by omega⟩
  refine sem_of (own := RX7) rfl pn_RX7 (Nat.le_of_ble_eq_true rfl) [.ref 0, .int x1] ⟨Or.inr rfl, Or.inr rfl, trivial⟩ ?_
  unfold f_X7_stand at h
  refine st_aload_n dX7_stand_0 rfl rfl ?_
  refine gR7 dX7_stand_1 (by decide) rfl 2 (by decide) fl_RX7_26 rfl 7 rfl ?_
  refine gI4 dX7_stand_4 (by decide) rfl 0 (by decide) fl_RX7_181 rfl rfl ?_
  refine st_if_ne dX7_stand_7 13 (by decide) (fun c4 => ?_) (fun c4 => ?_)
  · replace h := (if_neg c4).symm.trans h
    refine st_aload_n dX7_stand_13 rfl rfl ?_
    refine gR7 dX7_stand_14 (by decide) rfl 6 (by decide) fl_RX7_47 rfl 38 rfl ?_
    refine st_aload_n dX7_stand_17 rfl rfl ?_
    refine gR7 dX7_stand_18 (by decide) rfl 2 (by decide) fl_RX7_26 rfl 7 rfl ?_
    obtain ⟨H1, e_H1, h⟩ := bnd h
    refine st_callV [.ref 7] dX7_stand_21 co_X2_load im_X2_load se_X2_load ml_RX7_221 rfl (by decide) rfl (rfl : classes[2]? = some (RX2, TX2, 15)) rfl (S := []) rfl (Nat.le_of_ble_eq_true rfl) (k_X2_load (by omega) H _ e_H1 ?_)
    show V (D + 1) RX7 mdX7_stand 24 [.ref 0, .int x1] [] H1 post
    refine st_aload_n dX7_stand_24 rfl rfl ?_
    refine gR7 dX7_stand_25 (by decide) rfl 6 (by decide) fl_RX7_47 rfl 38 rfl ?_
    obtain ⟨H2, e_H2, h⟩ := bnd h
    refine st_callV [] dX7_stand_28 co_X2_settle im_X2_settle se_X2_settle ml_RX7_224 rfl (by decide) rfl (rfl : classes[2]? = some (RX2, TX2, 15)) rfl (S := []) rfl (Nat.le_of_ble_eq_true rfl) (k_X2_settle (by omega) H1 _ e_H2 ?_)
    show V (D + 1) RX7 mdX7_stand 31 [.ref 0, .int x1] [] H2 post
    refine st_iload_n dX7_stand_31 rfl rfl ?_
    by_cases s5 : x1 = 0
    · replace h := (if_pos s5).symm.trans h
      refine st_tabIn dX7_stand_32 (by rw [s5]; decide) (by rw [s5]; decide) (by rw [s5] <;> rfl) 64 (by decide) ?_
      refine st_aload_n dX7_stand_64 rfl rfl ?_
      refine gR7 dX7_stand_65 (by decide) rfl 2 (by decide) fl_RX7_26 rfl 7 rfl ?_
      refine gI4 dX7_stand_68 (by decide) rfl 1 (by decide) fl_RX7_185 rfl rfl ?_
      obtain rfl := Option.some.inj h
      exact st_iret dX7_stand_71 rfl hp
    · replace h := (if_neg s5).symm.trans h
      by_cases s6 : x1 = 1
      · replace h := (if_pos s6).symm.trans h
        refine st_tabIn dX7_stand_32 (by rw [s6]; decide) (by rw [s6]; decide) (by rw [s6] <;> rfl) 72 (by decide) ?_
        refine st_aload_n dX7_stand_72 rfl rfl ?_
        refine gR7 dX7_stand_73 (by decide) rfl 6 (by decide) fl_RX7_47 rfl 38 rfl ?_
        refine gI2 dX7_stand_76 (by decide) rfl 13 (by decide) fl_RX7_236 rfl rfl ?_
        obtain rfl := Option.some.inj h
        exact st_iret dX7_stand_79 rfl hp
      · replace h := (if_neg s6).symm.trans h
        by_cases s7 : x1 = 2
        · replace h := (if_pos s7).symm.trans h
          refine st_tabIn dX7_stand_32 (by rw [s7]; decide) (by rw [s7]; decide) (by rw [s7] <;> rfl) 80 (by decide) ?_
          refine st_aload_n dX7_stand_80 rfl rfl ?_
          refine gR7 dX7_stand_81 (by decide) rfl 6 (by decide) fl_RX7_47 rfl 38 rfl ?_
          obtain ⟨v3, e_v3, h⟩ := bnd h
          refine st_callV [] dX7_stand_84 co_X2_allPaid im_X2_allPaid se_X2_allPaid ml_RX7_239 rfl (by decide) rfl (rfl : classes[2]? = some (RX2, TX2, 15)) rfl (S := []) rfl (Nat.le_of_ble_eq_true rfl) (k_X2_allPaid (by omega) H2 _ e_v3 ?_)
          show V (D + 1) RX7 mdX7_stand 87 [.ref 0, .int x1] [.int v3] H2 post
          obtain rfl := Option.some.inj h
          exact st_iret dX7_stand_87 rfl hp
        · replace h := (if_neg s7).symm.trans h
          by_cases s8 : x1 = 3
          · replace h := (if_pos s8).symm.trans h
            refine st_tabIn dX7_stand_32 (by rw [s8]; decide) (by rw [s8]; decide) (by rw [s8] <;> rfl) 88 (by decide) ?_
            refine st_aload_n dX7_stand_88 rfl rfl ?_
            refine gR7 dX7_stand_89 (by decide) rfl 6 (by decide) fl_RX7_47 rfl 38 rfl ?_
            refine gI2 dX7_stand_92 (by decide) rfl 14 (by decide) fl_RX7_243 rfl rfl ?_
            obtain rfl := Option.some.inj h
            exact st_iret dX7_stand_95 rfl hp
          · replace h := (if_neg s8).symm.trans h
            have ts5 := lv_neT s5 (a := 0) (by decide)
            have ts6 := lv_neT s6 (a := 1) (by decide)
            have ts7 := lv_neT s7 (a := 2) (by decide)
            have ts8 := lv_neT s8 (a := 3) (by decide)
            refine st_tabOut dX7_stand_32 (by omega) 96 (by decide) ?_
            refine st_ldc dX7_stand_96 cn_RX7_77 ?_
            obtain rfl := Option.some.inj h
            exact st_iret dX7_stand_98 rfl hp
  · replace h := (if_pos c4).symm.trans h
    refine st_ldc dX7_stand_10 cn_RX7_145 ?_
    obtain rfl := Option.some.inj h
    exact st_iret dX7_stand_12 rfl hp
def f_X2_add (x1 : Int32) (x2 : Int32) (x3 : Int32) (H : Hp) : Option (Hp) :=
  if x3 = 0 then
    some H
  else
    (f_X2_weigh x1 (-1) H).bind fun H1 =>
    (ag H1 39 60 ((x1 * 6) + x2)).bind fun v2 =>
    (as H1 39 60 ((x1 * 6) + x2) (v2 + x3)).bind fun H3 =>
    (ag H3 39 60 ((x1 * 6) + x2)).bind fun v4 =>
    (f_X2_rootOf v4).bind fun v5 =>
    (as H3 40 60 ((x1 * 6) + x2) v5).bind fun H6 =>
    (f_X2_weigh x1 1 H6).bind fun H7 =>
    some H7
set_option maxHeartbeats 4000000 in
set_option maxRecDepth 100000 in
theorem k_X2_add {D : Nat} (hD : 3 ≤ D) (x1 : Int32) (x2 : Int32) (x3 : Int32) (H : Hp) (q : Hp) (h : f_X2_add x1 x2 x3 H = some q) {post : Option Value → Hp → Prop} (hp : post none q) : Sem D mdX2_add [.ref 38, .int x1, .int x2, .int x3] H post := by
  obtain ⟨D, rfl⟩ : ∃ E, D = E + 1 := ⟨D - 1, by omega⟩
  refine sem_of (own := RX2) rfl pn_RX2 (Nat.le_of_ble_eq_true rfl) [.ref 38, .int x1, .int x2, .int x3, .null] ⟨Or.inr rfl, Or.inr rfl, Or.inr rfl, Or.inr rfl, rfl, trivial⟩ ?_
  unfold f_X2_add at h
  refine st_iload_n dX2_add_0 rfl rfl ?_
  refine st_if_ne dX2_add_1 5 (by decide) (fun c8 => ?_) (fun c8 => ?_)
  · replace h := (if_neg c8).symm.trans h
    refine st_aload_n dX2_add_5 rfl rfl ?_
    refine st_iload_n dX2_add_6 rfl rfl ?_
    refine st_iconst dX2_add_7 (v := (-1)) rfl ?_
    obtain ⟨H1, e_H1, h⟩ := bnd h
    refine st_callV [.int x1, .int (-1)] dX2_add_8 co_X2_weigh im_X2_weigh se_X2_weigh ml_RX2_84 rfl (by decide) rfl (rfl : classes[2]? = some (RX2, TX2, 15)) rfl (S := []) rfl (Nat.le_of_ble_eq_true rfl) (k_X2_weigh (by omega) x1 (-1) H _ e_H1 ?_)
    show V (D + 1) RX2 mdX2_add 11 [.ref 38, .int x1, .int x2, .int x3, .null] [] H1 post
    refine st_iload_n dX2_add_11 rfl rfl ?_
    refine st_bipush dX2_add_12 (v := 6) (by decide) ?_
    refine st_imul dX2_add_14 ?_
    refine st_iload_n dX2_add_15 rfl rfl ?_
    refine st_iadd dX2_add_16 ?_
    refine st_istore dX2_add_17 (by decide) [.ref 38, .int x1, .int x2, .int x3, .int ((x1 * 6) + x2)] rfl ?_
    refine st_aload_n dX2_add_19 rfl rfl ?_
    refine gR2 dX2_add_20 (by decide) rfl 0 (by decide) fl_RX2_9 rfl 39 rfl ?_
    refine st_iload dX2_add_23 rfl ?_
    refine st_dup2 dX2_add_25 rfl rfl ?_
    obtain ⟨v2, e_v2, h⟩ := bnd h
    refine st_iald dX2_add_26 (by decide) rfl v2 e_v2 ?_
    refine st_iload_n dX2_add_27 rfl rfl ?_
    refine st_iadd dX2_add_28 ?_
    obtain ⟨H3, e_H3, h⟩ := bnd h
    refine st_iast dX2_add_29 (by decide) rfl H3 e_H3 ?_
    refine st_aload_n dX2_add_30 rfl rfl ?_
    refine gR2 dX2_add_31 (by decide) rfl 1 (by decide) fl_RX2_15 rfl 40 rfl ?_
    refine st_iload dX2_add_34 rfl ?_
    refine st_aload_n dX2_add_36 rfl rfl ?_
    refine gR2 dX2_add_37 (by decide) rfl 0 (by decide) fl_RX2_9 rfl 39 rfl ?_
    refine st_iload dX2_add_40 rfl ?_
    obtain ⟨v4, e_v4, h⟩ := bnd h
    refine st_iald dX2_add_42 (by decide) rfl v4 e_v4 ?_
    obtain ⟨v5, e_v5, h⟩ := bnd h
    refine st_callS [.int v4] dX2_add_43 co_X2_rootOf sm_X2_rootOf ml_RX2_71 rfl (S := [.int ((x1 * 6) + x2), .ref 40]) rfl (Nat.le_of_ble_eq_true rfl) (k_X2_rootOf (by omega) v4 H3 _ e_v5 ?_)
    show V (D + 1) RX2 mdX2_add 46 [.ref 38, .int x1, .int x2, .int x3, .int ((x1 * 6) + x2)] [.int v5, .int ((x1 * 6) + x2), .ref 40] H3 post
    obtain ⟨H6, e_H6, h⟩ := bnd h
    refine st_iast dX2_add_46 (by decide) rfl H6 e_H6 ?_
    refine st_aload_n dX2_add_47 rfl rfl ?_
    refine st_iload_n dX2_add_48 rfl rfl ?_
    refine st_iconst dX2_add_49 (v := 1) rfl ?_
    obtain ⟨H7, e_H7, h⟩ := bnd h
    refine st_callV [.int x1, .int 1] dX2_add_50 co_X2_weigh im_X2_weigh se_X2_weigh ml_RX2_84 rfl (by decide) rfl (rfl : classes[2]? = some (RX2, TX2, 15)) rfl (S := []) rfl (Nat.le_of_ble_eq_true rfl) (k_X2_weigh (by omega) x1 1 H6 _ e_H7 ?_)
    show V (D + 1) RX2 mdX2_add 53 [.ref 38, .int x1, .int x2, .int x3, .int ((x1 * 6) + x2)] [] H7 post
    obtain rfl := Option.some.inj h
    exact st_vret dX2_add_53 rfl hp
  · replace h := (if_pos c8).symm.trans h
    obtain rfl := Option.some.inj h
    exact st_vret dX2_add_4 rfl hp
def f_X3_paidWith (x1 : Int32) (x2 : Int32) (x3 : Int32) (x4 : Int32) (H : Hp) : Option (Int32 × Hp) :=
  (f_X2_load H).bind fun H1 =>
  (ag H1 9 10 x1).bind fun v2 =>
  (f_X2_add v2 x2 x3 H1).bind fun H3 =>
  (f_X2_settle H3).bind fun H4 =>
  (ag H4 48 6 x4).bind fun v5 =>
  some (v5, H4)
set_option maxHeartbeats 4000000 in
set_option maxRecDepth 100000 in
theorem k_X3_paidWith {D : Nat} (hD : 5 ≤ D) (x1 : Int32) (x2 : Int32) (x3 : Int32) (x4 : Int32) (H : Hp) (q : Int32 × Hp) (h : f_X3_paidWith x1 x2 x3 x4 H = some q) {post : Option Value → Hp → Prop} (hp : post (some (.int q.1)) q.2) : Sem D mdX3_paidWith [.ref 49, .int x1, .int x2, .int x3, .int x4] H post := by
  obtain ⟨D, rfl⟩ : ∃ E, D = E + 1 := ⟨D - 1, by omega⟩
  refine sem_of (own := RX3) rfl pn_RX3 (Nat.le_of_ble_eq_true rfl) [.ref 49, .int x1, .int x2, .int x3, .int x4] ⟨Or.inr rfl, Or.inr rfl, Or.inr rfl, Or.inr rfl, Or.inr rfl, trivial⟩ ?_
  unfold f_X3_paidWith at h
  refine st_aload_n dX3_paidWith_0 rfl rfl ?_
  refine gR3 dX3_paidWith_1 (by decide) rfl 1 (by decide) fl_RX3_28 rfl 38 rfl ?_
  refine st_aload_n dX3_paidWith_4 rfl rfl ?_
  refine gR3 dX3_paidWith_5 (by decide) rfl 0 (by decide) fl_RX3_25 rfl 7 rfl ?_
  obtain ⟨H1, e_H1, h⟩ := bnd h
  refine st_callV [.ref 7] dX3_paidWith_8 co_X2_load im_X2_load se_X2_load ml_RX3_32 rfl (by decide) rfl (rfl : classes[2]? = some (RX2, TX2, 15)) rfl (S := []) rfl (Nat.le_of_ble_eq_true rfl) (k_X2_load (by omega) H _ e_H1 ?_)
  show V (D + 1) RX3 mdX3_paidWith 11 [.ref 49, .int x1, .int x2, .int x3, .int x4] [] H1 post
  refine st_aload_n dX3_paidWith_11 rfl rfl ?_
  refine gR3 dX3_paidWith_12 (by decide) rfl 1 (by decide) fl_RX3_28 rfl 38 rfl ?_
  refine st_aload_n dX3_paidWith_15 rfl rfl ?_
  refine gR3 dX3_paidWith_16 (by decide) rfl 0 (by decide) fl_RX3_25 rfl 7 rfl ?_
  refine gR4 dX3_paidWith_19 (by decide) rfl 6 (by decide) fl_RX3_38 rfl 9 rfl ?_
  refine st_iload_n dX3_paidWith_22 rfl rfl ?_
  obtain ⟨v2, e_v2, h⟩ := bnd h
  refine st_iald dX3_paidWith_23 (by decide) rfl v2 e_v2 ?_
  refine st_iload_n dX3_paidWith_24 rfl rfl ?_
  refine st_iload_n dX3_paidWith_25 rfl rfl ?_
  obtain ⟨H3, e_H3, h⟩ := bnd h
  refine st_callV [.int v2, .int x2, .int x3] dX3_paidWith_26 co_X2_add im_X2_add se_X2_add ml_RX3_41 rfl (by decide) rfl (rfl : classes[2]? = some (RX2, TX2, 15)) rfl (S := []) rfl (Nat.le_of_ble_eq_true rfl) (k_X2_add (by omega) v2 x2 x3 H1 _ e_H3 ?_)
  show V (D + 1) RX3 mdX3_paidWith 29 [.ref 49, .int x1, .int x2, .int x3, .int x4] [] H3 post
  refine st_aload_n dX3_paidWith_29 rfl rfl ?_
  refine gR3 dX3_paidWith_30 (by decide) rfl 1 (by decide) fl_RX3_28 rfl 38 rfl ?_
  obtain ⟨H4, e_H4, h⟩ := bnd h
  refine st_callV [] dX3_paidWith_33 co_X2_settle im_X2_settle se_X2_settle ml_RX3_45 rfl (by decide) rfl (rfl : classes[2]? = some (RX2, TX2, 15)) rfl (S := []) rfl (Nat.le_of_ble_eq_true rfl) (k_X2_settle (by omega) H3 _ e_H4 ?_)
  show V (D + 1) RX3 mdX3_paidWith 36 [.ref 49, .int x1, .int x2, .int x3, .int x4] [] H4 post
  refine st_aload_n dX3_paidWith_36 rfl rfl ?_
  refine gR3 dX3_paidWith_37 (by decide) rfl 1 (by decide) fl_RX3_28 rfl 38 rfl ?_
  refine gR2 dX3_paidWith_40 (by decide) rfl 9 (by decide) fl_RX3_48 rfl 48 rfl ?_
  refine st_iload dX3_paidWith_43 rfl ?_
  obtain ⟨v5, e_v5, h⟩ := bnd h
  refine st_iald dX3_paidWith_45 (by decide) rfl v5 e_v5 ?_
  obtain rfl := Option.some.inj h
  exact st_iret dX3_paidWith_46 rfl hp
def f_X7_paidIf (x1 : Int32) (x2 : Int32) (x3 : Int32) (x4 : Int32) (H : Hp) : Option (Int32 × Hp) :=
  (f_X7_isGiver x1).bind fun v1 =>
  if v1 = 0 then
    some ((-1000001), H)
  else
    (f_X7_isProject x2 H).bind fun v2 =>
    if v2 = 0 then
      some ((-1000001), H)
    else
      (f_X7_within x3 0 99).bind fun v3 =>
      if v3 = 0 then
        some ((-1000001), H)
      else
        (f_X7_isProject x4 H).bind fun v4 =>
        if v4 = 0 then
          some ((-1000001), H)
        else
          if x3 ≤ 0 then
            (f_X3_paidWith x1 x2 x3 x4 H).bind fun q5 =>
            some (q5.1, q5.2)
          else
            if (H 7 4) < 20 then
              (f_X3_paidWith x1 x2 x3 x4 H).bind fun q6 =>
              some (q6.1, q6.2)
            else
              some ((-1000003), H)
set_option maxHeartbeats 4000000 in
set_option maxRecDepth 100000 in
theorem k_X7_paidIf {D : Nat} (hD : 6 ≤ D) (x1 : Int32) (x2 : Int32) (x3 : Int32) (x4 : Int32) (H : Hp) (q : Int32 × Hp) (h : f_X7_paidIf x1 x2 x3 x4 H = some q) {post : Option Value → Hp → Prop} (hp : post (some (.int q.1)) q.2) : Sem D mdX7_paidIf [.ref 0, .int x1, .int x2, .int x3, .int x4] H post := by
  obtain ⟨D, rfl⟩ : ∃ E, D = E + 1 := ⟨D - 1, by omega⟩
  refine sem_of (own := RX7) rfl pn_RX7 (Nat.le_of_ble_eq_true rfl) [.ref 0, .int x1, .int x2, .int x3, .int x4] ⟨Or.inr rfl, Or.inr rfl, Or.inr rfl, Or.inr rfl, Or.inr rfl, trivial⟩ ?_
  unfold f_X7_paidIf at h
  refine st_iload_n dX7_paidIf_0 rfl rfl ?_
  obtain ⟨v1, e_v1, h⟩ := bnd h
  refine st_callS [.int x1] dX7_paidIf_1 co_X7_isGiver sm_X7_isGiver ml_RX7_149 rfl (S := []) rfl (Nat.le_of_ble_eq_true rfl) (k_X7_isGiver (by omega) x1 H _ e_v1 ?_)
  show V (D + 1) RX7 mdX7_paidIf 4 [.ref 0, .int x1, .int x2, .int x3, .int x4] [.int v1] H post
  refine st_if_eq dX7_paidIf_4 34 (by decide) (fun c7 => ?_) (fun c7 => ?_)
  · replace h := (if_pos c7).symm.trans h
    refine st_ldc dX7_paidIf_34 cn_RX7_77 ?_
    obtain rfl := Option.some.inj h
    exact st_iret dX7_paidIf_36 rfl hp
  · replace h := (if_neg c7).symm.trans h
    refine st_aload_n dX7_paidIf_7 rfl rfl ?_
    refine st_iload_n dX7_paidIf_8 rfl rfl ?_
    obtain ⟨v2, e_v2, h⟩ := bnd h
    refine st_callV [.int x2] dX7_paidIf_9 co_X7_isProject im_X7_isProject se_X7_isProject ml_RX7_152 rfl (by decide) rfl (rfl : classes[7]? = some (RX7, TX7, 11)) rfl (S := []) rfl (Nat.le_of_ble_eq_true rfl) (k_X7_isProject (by omega) x2 H _ e_v2 ?_)
    show V (D + 1) RX7 mdX7_paidIf 12 [.ref 0, .int x1, .int x2, .int x3, .int x4] [.int v2] H post
    refine st_if_eq dX7_paidIf_12 34 (by decide) (fun c8 => ?_) (fun c8 => ?_)
    · replace h := (if_pos c8).symm.trans h
      refine st_ldc dX7_paidIf_34 cn_RX7_77 ?_
      obtain rfl := Option.some.inj h
      exact st_iret dX7_paidIf_36 rfl hp
    · replace h := (if_neg c8).symm.trans h
      refine st_iload_n dX7_paidIf_15 rfl rfl ?_
      refine st_iconst dX7_paidIf_16 (v := 0) rfl ?_
      refine st_bipush dX7_paidIf_17 (v := 99) (by decide) ?_
      obtain ⟨v3, e_v3, h⟩ := bnd h
      refine st_callS [.int x3, .int 0, .int 99] dX7_paidIf_19 co_X7_within sm_X7_within ml_RX7_73 rfl (S := []) rfl (Nat.le_of_ble_eq_true rfl) (k_X7_within (by omega) x3 0 99 H _ e_v3 ?_)
      show V (D + 1) RX7 mdX7_paidIf 22 [.ref 0, .int x1, .int x2, .int x3, .int x4] [.int v3] H post
      refine st_if_eq dX7_paidIf_22 34 (by decide) (fun c9 => ?_) (fun c9 => ?_)
      · replace h := (if_pos c9).symm.trans h
        refine st_ldc dX7_paidIf_34 cn_RX7_77 ?_
        obtain rfl := Option.some.inj h
        exact st_iret dX7_paidIf_36 rfl hp
      · replace h := (if_neg c9).symm.trans h
        refine st_aload_n dX7_paidIf_25 rfl rfl ?_
        refine st_iload dX7_paidIf_26 rfl ?_
        obtain ⟨v4, e_v4, h⟩ := bnd h
        refine st_callV [.int x4] dX7_paidIf_28 co_X7_isProject im_X7_isProject se_X7_isProject ml_RX7_152 rfl (by decide) rfl (rfl : classes[7]? = some (RX7, TX7, 11)) rfl (S := []) rfl (Nat.le_of_ble_eq_true rfl) (k_X7_isProject (by omega) x4 H _ e_v4 ?_)
        show V (D + 1) RX7 mdX7_paidIf 31 [.ref 0, .int x1, .int x2, .int x3, .int x4] [.int v4] H post
        refine st_if_ne dX7_paidIf_31 37 (by decide) (fun c10 => ?_) (fun c10 => ?_)
        · replace h := (if_neg c10).symm.trans h
          refine st_iload_n dX7_paidIf_37 rfl rfl ?_
          refine st_if_le dX7_paidIf_38 56 (by decide) (fun c11 => ?_) (fun c11 => ?_)
          · replace h := (if_pos c11).symm.trans h
            refine st_aload_n dX7_paidIf_56 rfl rfl ?_
            refine gR7 dX7_paidIf_57 (by decide) rfl 7 (by decide) fl_RX7_56 rfl 49 rfl ?_
            refine st_iload_n dX7_paidIf_60 rfl rfl ?_
            refine st_iload_n dX7_paidIf_61 rfl rfl ?_
            refine st_iload_n dX7_paidIf_62 rfl rfl ?_
            refine st_iload dX7_paidIf_63 rfl ?_
            obtain ⟨q5, e_q5, h⟩ := bnd h
            refine st_callV [.int x1, .int x2, .int x3, .int x4] dX7_paidIf_65 co_X3_paidWith im_X3_paidWith se_X3_paidWith ml_RX7_246 rfl (by decide) rfl (rfl : classes[3]? = some (RX3, TX3, 5)) rfl (S := []) rfl (Nat.le_of_ble_eq_true rfl) (k_X3_paidWith (by omega) x1 x2 x3 x4 H _ e_q5 ?_)
            show V (D + 1) RX7 mdX7_paidIf 68 [.ref 0, .int x1, .int x2, .int x3, .int x4] [.int q5.1] q5.2 post
            obtain rfl := Option.some.inj h
            exact st_iret dX7_paidIf_68 rfl hp
          · replace h := (if_neg c11).symm.trans h
            refine st_aload_n dX7_paidIf_41 rfl rfl ?_
            refine gR7 dX7_paidIf_42 (by decide) rfl 2 (by decide) fl_RX7_26 rfl 7 rfl ?_
            refine gI4 dX7_paidIf_45 (by decide) rfl 4 (by decide) fl_RX7_155 rfl rfl ?_
            refine st_bipush dX7_paidIf_48 (v := 20) (by decide) ?_
            refine st_ic_lt dX7_paidIf_50 56 (by decide) (fun c12 => ?_) (fun c12 => ?_)
            · replace h := (if_pos c12).symm.trans h
              refine st_aload_n dX7_paidIf_56 rfl rfl ?_
              refine gR7 dX7_paidIf_57 (by decide) rfl 7 (by decide) fl_RX7_56 rfl 49 rfl ?_
              refine st_iload_n dX7_paidIf_60 rfl rfl ?_
              refine st_iload_n dX7_paidIf_61 rfl rfl ?_
              refine st_iload_n dX7_paidIf_62 rfl rfl ?_
              refine st_iload dX7_paidIf_63 rfl ?_
              obtain ⟨q6, e_q6, h⟩ := bnd h
              refine st_callV [.int x1, .int x2, .int x3, .int x4] dX7_paidIf_65 co_X3_paidWith im_X3_paidWith se_X3_paidWith ml_RX7_246 rfl (by decide) rfl (rfl : classes[3]? = some (RX3, TX3, 5)) rfl (S := []) rfl (Nat.le_of_ble_eq_true rfl) (k_X3_paidWith (by omega) x1 x2 x3 x4 H _ e_q6 ?_)
              show V (D + 1) RX7 mdX7_paidIf 68 [.ref 0, .int x1, .int x2, .int x3, .int x4] [.int q6.1] q6.2 post
              obtain rfl := Option.some.inj h
              exact st_iret dX7_paidIf_68 rfl hp
            · replace h := (if_neg c12).symm.trans h
              refine st_ldc dX7_paidIf_53 cn_RX7_117 ?_
              obtain rfl := Option.some.inj h
              exact st_iret dX7_paidIf_55 rfl hp
        · replace h := (if_pos c10).symm.trans h
          refine st_ldc dX7_paidIf_34 cn_RX7_77 ?_
          obtain rfl := Option.some.inj h
          exact st_iret dX7_paidIf_36 rfl hp
def f_X3_bestTarget_l56 (x2 : Int32) (x4 : Int32) : Nat → Int32 → Int32 → Int32 → Hp → Option (Int32 × Int32 × Hp)
  | 0, _, _, _, _ => none
  | n + 1, x5, x6, x7, H =>
    if (H 7 3) ≤ x7 then
      some (x5, x6, H)
    else
      (f_X2_add x4 x7 x2 H).bind fun H5 =>
      (f_X2_settle H5).bind fun H6 =>
      (f_X2_add x4 x7 (-x2) H6).bind fun H7 =>
      (ag H7 48 6 x7).bind fun v8 =>
      (ag H7 56 6 x7).bind fun v9 =>
      f_X3_bestTarget_l56 x2 x4 n (if x7 = 0 then x7 else (if (v8 - v9) ≤ x6 then x5 else x7)) (if x7 = 0 then (v8 - v9) else (if (v8 - v9) ≤ x6 then x6 else (v8 - v9))) (x7 + 1) H7
def f_X3_bestTarget (x1 : Int32) (x2 : Int32) (x3 : Int32) (H : Hp) : Option (Int32 × Hp) :=
  (ag H 9 10 x1).bind fun v1 =>
  (f_X2_load H).bind fun H2 =>
  (f_X2_settle H2).bind fun H3 =>
  (ac H3 48 6 0 56 6 0 6).bind fun H4 =>
  (f_X3_bestTarget_l56 x2 v1 fuel 0 0 0 H4).bind fun l16 =>
  some ((if x3 = 0 then l16.1 else l16.2.1), l16.2.2)
set_option maxHeartbeats 4000000 in
set_option maxRecDepth 100000 in
theorem k_X3_bestTarget_l56 {D : Nat} (hD : 5 ≤ (D + 1)) (x2 : Int32) (x4 : Int32) (x3 : Int32) {post : Option Value → Hp → Prop} : ∀ (n : Nat) (x5 : Int32) (x6 : Int32) (x7 : Int32) (H : Hp) (q : Int32 × Int32 × Hp), f_X3_bestTarget_l56 x2 x4 n x5 x6 x7 H = some q → V (D + 1) RX3 mdX3_bestTarget 146 [.null, .null, .null, .int x3, .null, .int q.1, .int q.2.1, .null, .null] [] q.2.2 post → V (D + 1) RX3 mdX3_bestTarget 56 [.ref 49, .null, .int x2, .int x3, .int x4, .int x5, .int x6, .int x7, .null] [] H post := by
  intro n
  induction n with
  | zero => intro x5 x6 x7 H q h; simp [f_X3_bestTarget_l56] at h
  | succ n ih =>
    intro x5 x6 x7 H q h k1
    rw [f_X3_bestTarget_l56] at h
    refine st_iload dX3_bestTarget_56 rfl ?_
    refine st_aload_n dX3_bestTarget_58 rfl rfl ?_
    refine gR3 dX3_bestTarget_59 (by decide) rfl 0 (by decide) fl_RX3_25 rfl 7 rfl ?_
    refine gI4 dX3_bestTarget_62 (by decide) rfl 3 (by decide) fl_RX3_57 rfl rfl ?_
    refine st_ic_ge dX3_bestTarget_65 146 (by decide) (fun c10 => ?_) (fun c10 => ?_)
    · replace h := (if_pos c10).symm.trans h
      obtain rfl := Option.some.inj h
      exact st_sub [.null, .null, .null, .int x3, .null, .int x5, .int x6, .null, .null] ⟨Or.inl rfl, Or.inl rfl, Or.inl rfl, Or.inr rfl, Or.inl rfl, Or.inr rfl, Or.inr rfl, Or.inl rfl, Or.inl rfl, trivial⟩ k1
    · replace h := (if_neg c10).symm.trans h
      refine st_aload_n dX3_bestTarget_68 rfl rfl ?_
      refine gR3 dX3_bestTarget_69 (by decide) rfl 1 (by decide) fl_RX3_28 rfl 38 rfl ?_
      refine st_iload dX3_bestTarget_72 rfl ?_
      refine st_iload dX3_bestTarget_74 rfl ?_
      refine st_iload_n dX3_bestTarget_76 rfl rfl ?_
      obtain ⟨H5, e_H5, h⟩ := bnd h
      refine st_callV [.int x4, .int x7, .int x2] dX3_bestTarget_77 co_X2_add im_X2_add se_X2_add ml_RX3_41 rfl (by decide) rfl (rfl : classes[2]? = some (RX2, TX2, 15)) rfl (S := []) rfl (Nat.le_of_ble_eq_true rfl) (k_X2_add (by omega) x4 x7 x2 H _ e_H5 ?_)
      show V (D + 1) RX3 mdX3_bestTarget 80 [.ref 49, .null, .int x2, .int x3, .int x4, .int x5, .int x6, .int x7, .null] [] H5 post
      refine st_aload_n dX3_bestTarget_80 rfl rfl ?_
      refine gR3 dX3_bestTarget_81 (by decide) rfl 1 (by decide) fl_RX3_28 rfl 38 rfl ?_
      obtain ⟨H6, e_H6, h⟩ := bnd h
      refine st_callV [] dX3_bestTarget_84 co_X2_settle im_X2_settle se_X2_settle ml_RX3_45 rfl (by decide) rfl (rfl : classes[2]? = some (RX2, TX2, 15)) rfl (S := []) rfl (Nat.le_of_ble_eq_true rfl) (k_X2_settle (by omega) H5 _ e_H6 ?_)
      show V (D + 1) RX3 mdX3_bestTarget 87 [.ref 49, .null, .int x2, .int x3, .int x4, .int x5, .int x6, .int x7, .null] [] H6 post
      refine st_aload_n dX3_bestTarget_87 rfl rfl ?_
      refine gR3 dX3_bestTarget_88 (by decide) rfl 1 (by decide) fl_RX3_28 rfl 38 rfl ?_
      refine st_iload dX3_bestTarget_91 rfl ?_
      refine st_iload dX3_bestTarget_93 rfl ?_
      refine st_iload_n dX3_bestTarget_95 rfl rfl ?_
      refine st_ineg dX3_bestTarget_96 ?_
      obtain ⟨H7, e_H7, h⟩ := bnd h
      refine st_callV [.int x4, .int x7, .int (-x2)] dX3_bestTarget_97 co_X2_add im_X2_add se_X2_add ml_RX3_41 rfl (by decide) rfl (rfl : classes[2]? = some (RX2, TX2, 15)) rfl (S := []) rfl (Nat.le_of_ble_eq_true rfl) (k_X2_add (by omega) x4 x7 (-x2) H6 _ e_H7 ?_)
      show V (D + 1) RX3 mdX3_bestTarget 100 [.ref 49, .null, .int x2, .int x3, .int x4, .int x5, .int x6, .int x7, .null] [] H7 post
      refine st_aload_n dX3_bestTarget_100 rfl rfl ?_
      refine gR3 dX3_bestTarget_101 (by decide) rfl 1 (by decide) fl_RX3_28 rfl 38 rfl ?_
      refine gR2 dX3_bestTarget_104 (by decide) rfl 9 (by decide) fl_RX3_48 rfl 48 rfl ?_
      refine st_iload dX3_bestTarget_107 rfl ?_
      obtain ⟨v8, e_v8, h⟩ := bnd h
      refine st_iald dX3_bestTarget_109 (by decide) rfl v8 e_v8 ?_
      refine st_aload_n dX3_bestTarget_110 rfl rfl ?_
      refine gR3 dX3_bestTarget_111 (by decide) rfl 3 (by decide) fl_RX3_18 rfl 56 rfl ?_
      refine st_iload dX3_bestTarget_114 rfl ?_
      obtain ⟨v9, e_v9, h⟩ := bnd h
      refine st_iald dX3_bestTarget_116 (by decide) rfl v9 e_v9 ?_
      refine st_isub dX3_bestTarget_117 ?_
      refine st_istore dX3_bestTarget_118 (by decide) [.ref 49, .null, .int x2, .int x3, .int x4, .int x5, .int x6, .int x7, .int (v8 - v9)] rfl ?_
      refine st_iload dX3_bestTarget_120 rfl ?_
      have kj13 : ∀ z11 : Int32, z11 = (if x7 = 0 then x7 else (if (v8 - v9) ≤ x6 then x5 else x7)) → ∀ z12 : Int32, z12 = (if x7 = 0 then (v8 - v9) else (if (v8 - v9) ≤ x6 then x6 else (v8 - v9))) → V (D + 1) RX3 mdX3_bestTarget 140 [.ref 49, .null, .int x2, .int x3, .int x4, .int z11, .int z12, .int x7, .null] [] H7 post := by
        intro z11 ez11 z12 ez12
        subst ez11
        subst ez12
        refine st_iinc dX3_bestTarget_140 rfl (v := (x7 + 1)) rfl (by decide) [.ref 49, .null, .int x2, .int x3, .int x4, .int (if x7 = 0 then x7 else (if (v8 - v9) ≤ x6 then x5 else x7)), .int (if x7 = 0 then (v8 - v9) else (if (v8 - v9) ≤ x6 then x6 else (v8 - v9))), .int (x7 + 1), .null] rfl ?_
        refine st_goto dX3_bestTarget_143 56 (by decide) ?_
        exact ih (if x7 = 0 then x7 else (if (v8 - v9) ≤ x6 then x5 else x7)) (if x7 = 0 then (v8 - v9) else (if (v8 - v9) ≤ x6 then x6 else (v8 - v9))) (x7 + 1) H7 q h k1
      refine st_if_eq dX3_bestTarget_122 132 (by decide) (fun c14 => ?_) (fun c14 => ?_)
      · refine st_iload dX3_bestTarget_132 rfl ?_
        refine st_istore dX3_bestTarget_134 (by decide) [.ref 49, .null, .int x2, .int x3, .int x4, .int x7, .int x6, .int x7, .int (v8 - v9)] rfl ?_
        refine st_iload dX3_bestTarget_136 rfl ?_
        refine st_istore dX3_bestTarget_138 (by decide) [.ref 49, .null, .int x2, .int x3, .int x4, .int x7, .int (v8 - v9), .int x7, .int (v8 - v9)] rfl ?_
        exact st_sub [.ref 49, .null, .int x2, .int x3, .int x4, .int x7, .int (v8 - v9), .int x7, .null] ⟨Or.inr rfl, Or.inl rfl, Or.inr rfl, Or.inr rfl, Or.inr rfl, Or.inr rfl, Or.inr rfl, Or.inr rfl, Or.inl rfl, trivial⟩ (kj13 _ (Eq.symm (if_pos c14)) _ (Eq.symm (if_pos c14)))
      · refine st_iload dX3_bestTarget_125 rfl ?_
        refine st_iload dX3_bestTarget_127 rfl ?_
        refine st_ic_le dX3_bestTarget_129 140 (by decide) (fun c15 => ?_) (fun c15 => ?_)
        · exact st_sub [.ref 49, .null, .int x2, .int x3, .int x4, .int x5, .int x6, .int x7, .null] ⟨Or.inr rfl, Or.inl rfl, Or.inr rfl, Or.inr rfl, Or.inr rfl, Or.inr rfl, Or.inr rfl, Or.inr rfl, Or.inl rfl, trivial⟩ (kj13 _ (Eq.symm ((if_neg c14).trans (if_pos c15))) _ (Eq.symm ((if_neg c14).trans (if_pos c15))))
        · refine st_iload dX3_bestTarget_132 rfl ?_
          refine st_istore dX3_bestTarget_134 (by decide) [.ref 49, .null, .int x2, .int x3, .int x4, .int x7, .int x6, .int x7, .int (v8 - v9)] rfl ?_
          refine st_iload dX3_bestTarget_136 rfl ?_
          refine st_istore dX3_bestTarget_138 (by decide) [.ref 49, .null, .int x2, .int x3, .int x4, .int x7, .int (v8 - v9), .int x7, .int (v8 - v9)] rfl ?_
          exact st_sub [.ref 49, .null, .int x2, .int x3, .int x4, .int x7, .int (v8 - v9), .int x7, .null] ⟨Or.inr rfl, Or.inl rfl, Or.inr rfl, Or.inr rfl, Or.inr rfl, Or.inr rfl, Or.inr rfl, Or.inr rfl, Or.inl rfl, trivial⟩ (kj13 _ (Eq.symm ((if_neg c14).trans (if_neg c15))) _ (Eq.symm ((if_neg c14).trans (if_neg c15))))
set_option maxHeartbeats 4000000 in
set_option maxRecDepth 100000 in
theorem k_X3_bestTarget {D : Nat} (hD : 5 ≤ D) (x1 : Int32) (x2 : Int32) (x3 : Int32) (H : Hp) (q : Int32 × Hp) (h : f_X3_bestTarget x1 x2 x3 H = some q) {post : Option Value → Hp → Prop} (hp : post (some (.int q.1)) q.2) : Sem D mdX3_bestTarget [.ref 49, .int x1, .int x2, .int x3] H post := by
  obtain ⟨D, rfl⟩ : ∃ E, D = E + 1 := ⟨D - 1, by omega⟩
  refine sem_of (own := RX3) rfl pn_RX3 (Nat.le_of_ble_eq_true rfl) [.ref 49, .int x1, .int x2, .int x3, .null, .null, .null, .null, .null] ⟨Or.inr rfl, Or.inr rfl, Or.inr rfl, Or.inr rfl, rfl, rfl, rfl, rfl, rfl, trivial⟩ ?_
  unfold f_X3_bestTarget at h
  refine st_aload_n dX3_bestTarget_0 rfl rfl ?_
  refine gR3 dX3_bestTarget_1 (by decide) rfl 0 (by decide) fl_RX3_25 rfl 7 rfl ?_
  refine gR4 dX3_bestTarget_4 (by decide) rfl 6 (by decide) fl_RX3_38 rfl 9 rfl ?_
  refine st_iload_n dX3_bestTarget_7 rfl rfl ?_
  obtain ⟨v1, e_v1, h⟩ := bnd h
  refine st_iald dX3_bestTarget_8 (by decide) rfl v1 e_v1 ?_
  refine st_istore dX3_bestTarget_9 (by decide) [.ref 49, .int x1, .int x2, .int x3, .int v1, .null, .null, .null, .null] rfl ?_
  refine st_aload_n dX3_bestTarget_11 rfl rfl ?_
  refine gR3 dX3_bestTarget_12 (by decide) rfl 1 (by decide) fl_RX3_28 rfl 38 rfl ?_
  refine st_aload_n dX3_bestTarget_15 rfl rfl ?_
  refine gR3 dX3_bestTarget_16 (by decide) rfl 0 (by decide) fl_RX3_25 rfl 7 rfl ?_
  obtain ⟨H2, e_H2, h⟩ := bnd h
  refine st_callV [.ref 7] dX3_bestTarget_19 co_X2_load im_X2_load se_X2_load ml_RX3_32 rfl (by decide) rfl (rfl : classes[2]? = some (RX2, TX2, 15)) rfl (S := []) rfl (Nat.le_of_ble_eq_true rfl) (k_X2_load (by omega) H _ e_H2 ?_)
  show V (D + 1) RX3 mdX3_bestTarget 22 [.ref 49, .int x1, .int x2, .int x3, .int v1, .null, .null, .null, .null] [] H2 post
  refine st_aload_n dX3_bestTarget_22 rfl rfl ?_
  refine gR3 dX3_bestTarget_23 (by decide) rfl 1 (by decide) fl_RX3_28 rfl 38 rfl ?_
  obtain ⟨H3, e_H3, h⟩ := bnd h
  refine st_callV [] dX3_bestTarget_26 co_X2_settle im_X2_settle se_X2_settle ml_RX3_45 rfl (by decide) rfl (rfl : classes[2]? = some (RX2, TX2, 15)) rfl (S := []) rfl (Nat.le_of_ble_eq_true rfl) (k_X2_settle (by omega) H2 _ e_H3 ?_)
  show V (D + 1) RX3 mdX3_bestTarget 29 [.ref 49, .int x1, .int x2, .int x3, .int v1, .null, .null, .null, .null] [] H3 post
  refine st_aload_n dX3_bestTarget_29 rfl rfl ?_
  refine gR3 dX3_bestTarget_30 (by decide) rfl 1 (by decide) fl_RX3_28 rfl 38 rfl ?_
  refine gR2 dX3_bestTarget_33 (by decide) rfl 9 (by decide) fl_RX3_48 rfl 48 rfl ?_
  refine st_iconst dX3_bestTarget_36 (v := 0) rfl ?_
  refine st_aload_n dX3_bestTarget_37 rfl rfl ?_
  refine gR3 dX3_bestTarget_38 (by decide) rfl 3 (by decide) fl_RX3_18 rfl 56 rfl ?_
  refine st_iconst dX3_bestTarget_41 (v := 0) rfl ?_
  refine st_bipush dX3_bestTarget_42 (v := 6) (by decide) ?_
  obtain ⟨H4, e_H4, h⟩ := bnd h
  refine st_copy dX3_bestTarget_44 (by omega) (by decide) rfl (by decide) rfl ml_RX3_51 w_acN w_acS w_acI (Nat.le_of_ble_eq_true rfl) H4 e_H4 ?_
  refine st_iconst dX3_bestTarget_47 (v := 0) rfl ?_
  refine st_istore dX3_bestTarget_48 (by decide) [.ref 49, .int x1, .int x2, .int x3, .int v1, .int 0, .null, .null, .null] rfl ?_
  refine st_iconst dX3_bestTarget_50 (v := 0) rfl ?_
  refine st_istore dX3_bestTarget_51 (by decide) [.ref 49, .int x1, .int x2, .int x3, .int v1, .int 0, .int 0, .null, .null] rfl ?_
  refine st_iconst dX3_bestTarget_53 (v := 0) rfl ?_
  refine st_istore dX3_bestTarget_54 (by decide) [.ref 49, .int x1, .int x2, .int x3, .int v1, .int 0, .int 0, .int 0, .null] rfl ?_
  refine st_sub [.ref 49, .null, .int x2, .int x3, .int v1, .int 0, .int 0, .int 0, .null] ⟨Or.inr rfl, Or.inl rfl, Or.inr rfl, Or.inr rfl, Or.inr rfl, Or.inr rfl, Or.inr rfl, Or.inr rfl, Or.inl rfl, trivial⟩ ?_
  obtain ⟨l16, e_l16, h⟩ := bnd h
  refine k_X3_bestTarget_l56 (by omega) x2 v1 x3 fuel 0 0 0 H4 _ e_l16 ?_
  refine st_iload_n dX3_bestTarget_146 rfl rfl ?_
  have kj18 : ∀ z17 : Int32, z17 = (if x3 = 0 then l16.1 else l16.2.1) → V (D + 1) RX3 mdX3_bestTarget 157 [.null, .null, .null, .null, .null, .null, .null, .null, .null] [.int z17] l16.2.2 post := by
    intro z17 ez17
    subst ez17
    obtain rfl := Option.some.inj h
    exact st_iret dX3_bestTarget_157 rfl hp
  refine st_if_ne dX3_bestTarget_147 155 (by decide) (fun c19 => ?_) (fun c19 => ?_)
  · refine st_iload dX3_bestTarget_155 rfl ?_
    exact st_sub [.null, .null, .null, .null, .null, .null, .null, .null, .null] ⟨Or.inl rfl, Or.inl rfl, Or.inl rfl, Or.inl rfl, Or.inl rfl, Or.inl rfl, Or.inl rfl, Or.inl rfl, Or.inl rfl, trivial⟩ (kj18 _ (Eq.symm (if_neg c19)))
  · refine st_iload dX3_bestTarget_150 rfl ?_
    refine st_goto dX3_bestTarget_152 157 (by decide) ?_
    exact st_sub [.null, .null, .null, .null, .null, .null, .null, .null, .null] ⟨Or.inl rfl, Or.inl rfl, Or.inl rfl, Or.inl rfl, Or.inl rfl, Or.inl rfl, Or.inl rfl, Or.inl rfl, Or.inl rfl, trivial⟩ (kj18 _ (Eq.symm (if_pos c19)))
