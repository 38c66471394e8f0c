def f_X8_image_l30 (x1 : Int32) : Nat → Int32 → Hp → Option (Hp)
  | 0, _, _ => none
  | n + 1, x2, H =>
    if 80 ≤ x2 then
      some H
    else
      (ag H 64 80 x2).bind fun v4 =>
      (as H 76 160 ((80 * x1) + x2) v4).bind fun H5 =>
      f_X8_image_l30 x1 n (x2 + 1) H5
def f_X8_image (x1 : Int32) (H : Hp) : Option (Int32 × Hp) :=
  (pf H 60 0 0).bind fun H1 =>
  (f_X8_in x1.toInt64 0 1).bind fun v2 =>
  if v2 = 0 then
    some ((-1000001), H1)
  else
    (f_X8_isThere H1).bind fun v3 =>
    if v3 = 0 then
      some ((-1000002), H1)
    else
      (f_X8_image_l30 x1 fuel 0 H1).bind fun l7 =>
      (as l7 75 2 x1 1).bind fun H8 =>
      some (1, H8)
set_option maxHeartbeats 4000000 in
set_option maxRecDepth 100000 in
theorem k_X8_image_l30 {D : Nat} (hD : 1 ≤ (D + 1)) (x1 : Int32) {post : Option Value → Hp → Prop} : ∀ (n : Nat) (x2 : Int32) (H : Hp) (q : Hp), f_X8_image_l30 x1 n x2 H = some q → V (D + 1) RX8 mdX8_image 59 [.ref 60, .int x1, .null] [] q post → V (D + 1) RX8 mdX8_image 30 [.ref 60, .int x1, .int x2] [] H post := by
  intro n
  induction n with
  | zero => intro x2 H q h; simp [f_X8_image_l30] at h
  | succ n ih =>
    intro x2 H q h k1
    rw [f_X8_image_l30] at h
    refine st_iload_n dX8_image_30 rfl rfl ?_
    refine st_bipush dX8_image_31 (v := 80) (by decide) ?_
    refine st_ic_ge dX8_image_33 59 (by decide) (fun c6 => ?_) (fun c6 => ?_)
    · replace h := (if_pos c6).symm.trans h
      obtain rfl := Option.some.inj h
      exact st_sub [.ref 60, .int x1, .null] ⟨Or.inr rfl, Or.inr rfl, Or.inl rfl, trivial⟩ k1
    · replace h := (if_neg c6).symm.trans h
      refine st_aload_n dX8_image_36 rfl rfl ?_
      refine gR8 dX8_image_37 (by decide) rfl 27 (by decide) fl_RX8_56 rfl 76 rfl ?_
      refine st_bipush dX8_image_40 (v := 80) (by decide) ?_
      refine st_iload_n dX8_image_42 rfl rfl ?_
      refine st_imul dX8_image_43 ?_
      refine st_iload_n dX8_image_44 rfl rfl ?_
      refine st_iadd dX8_image_45 ?_
      refine st_aload_n dX8_image_46 rfl rfl ?_
      refine gR8 dX8_image_47 (by decide) rfl 5 (by decide) fl_RX8_19 rfl 64 rfl ?_
      refine st_iload_n dX8_image_50 rfl rfl ?_
      obtain ⟨v4, e_v4, h⟩ := bnd h
      refine st_iald dX8_image_51 (by decide) rfl v4 e_v4 ?_
      obtain ⟨H5, e_H5, h⟩ := bnd h
      refine st_iast dX8_image_52 (by decide) rfl H5 e_H5 ?_
      refine st_iinc dX8_image_53 rfl (v := (x2 + 1)) rfl (by decide) [.ref 60, .int x1, .int (x2 + 1)] rfl ?_
      refine st_goto dX8_image_56 30 (by decide) ?_
      exact ih (x2 + 1) H5 q h k1
set_option maxHeartbeats 4000000 in
set_option maxRecDepth 100000 in
theorem k_X8_image {D : Nat} (hD : 1 ≤ D) (x1 : Int32) (H : Hp) (q : Int32 × Hp) (h : f_X8_image x1 H = some q) {post : Option Value → Hp → Prop} (hp : post (some (.int q.1)) q.2) : Sem D mdX8_image [.ref 60, .int x1] H post := by
  obtain ⟨D, rfl⟩ : ∃ E, D = E + 1 := ⟨D - 1, by omega⟩
  refine sem_of (own := RX8) rfl pn_RX8 (Nat.le_of_ble_eq_true rfl) [.ref 60, .int x1, .null] ⟨Or.inr rfl, Or.inr rfl, rfl, trivial⟩ ?_
  unfold f_X8_image at h
  refine st_aload_n dX8_image_0 rfl rfl ?_
  refine st_iconst dX8_image_1 (v := 0) rfl ?_
  obtain ⟨H1, e_H1, h⟩ := bnd h
  refine pI8 dX8_image_2 (by decide) rfl 0 (by decide) fl_RX8_62 rfl rfl rfl rfl e_H1 ?_
  refine st_iload_n dX8_image_5 rfl rfl ?_
  refine st_i2l dX8_image_6 ?_
  refine st_lconst dX8_image_7 (v := 0) rfl ?_
  refine st_lconst dX8_image_8 (v := 1) rfl ?_
  obtain ⟨v2, e_v2, h⟩ := bnd h
  refine st_callS [.long x1.toInt64, .long 0, .long 1] dX8_image_9 co_X8_in sm_X8_in ml_RX8_72 rfl (S := []) rfl (Nat.le_of_ble_eq_true rfl) (k_X8_in (by omega) x1.toInt64 0 1 H1 _ e_v2 ?_)
  show V (D + 1) RX8 mdX8_image 12 [.ref 60, .int x1, .null] [.int v2] H1 post
  refine st_if_ne dX8_image_12 18 (by decide) (fun c9 => ?_) (fun c9 => ?_)
  · replace h := (if_neg c9).symm.trans h
    refine st_aload_n dX8_image_18 rfl rfl ?_
    obtain ⟨v3, e_v3, h⟩ := bnd h
    refine st_callV [] dX8_image_19 co_X8_isThere im_X8_isThere se_X8_isThere ml_RX8_174 rfl (by decide) rfl (rfl : classes[8]? = some (RX8, TX8, 30)) rfl (S := []) rfl (Nat.le_of_ble_eq_true rfl) (k_X8_isThere (by omega) H1 _ e_v3 ?_)
    show V (D + 1) RX8 mdX8_image 22 [.ref 60, .int x1, .null] [.int v3] H1 post
    refine st_if_ne dX8_image_22 28 (by decide) (fun c10 => ?_) (fun c10 => ?_)
    · replace h := (if_neg c10).symm.trans h
      refine st_iconst dX8_image_28 (v := 0) rfl ?_
      refine st_istore_n dX8_image_29 rfl (by decide) [.ref 60, .int x1, .int 0] rfl ?_
      obtain ⟨l7, e_l7, h⟩ := bnd h
      refine k_X8_image_l30 (by omega) x1 fuel 0 H1 _ e_l7 ?_
      refine st_aload_n dX8_image_59 rfl rfl ?_
      refine gR8 dX8_image_60 (by decide) rfl 26 (by decide) fl_RX8_52 rfl 75 rfl ?_
      refine st_iload_n dX8_image_63 rfl rfl ?_
      refine st_iconst dX8_image_64 (v := 1) rfl ?_
      obtain ⟨H8, e_H8, h⟩ := bnd h
      refine st_zast dX8_image_65 (by decide) rfl (by first | rfl | (split <;> rfl)) H8 e_H8 ?_
      refine st_iconst dX8_image_66 (v := 1) rfl ?_
      obtain rfl := Option.some.inj h
      exact st_iret dX8_image_67 rfl hp
    · replace h := (if_pos c10).symm.trans h
      refine st_ldc dX8_image_25 cn_RX8_253 ?_
      obtain rfl := Option.some.inj h
      exact st_iret dX8_image_27 rfl hp
  · replace h := (if_pos c9).symm.trans h
    refine st_ldc dX8_image_15 cn_RX8_82 ?_
    obtain rfl := Option.some.inj h
    exact st_iret dX8_image_17 rfl hp
def f_X8_restore_l32 (x1 : Int32) : Nat → Int32 → Hp → Option (Hp)
  | 0, _, _ => none
  | n + 1, x2, H =>
    if 80 ≤ x2 then
      some H
    else
      (ag H 76 160 ((80 * x1) + x2)).bind fun v4 =>
      (as H 64 80 x2 v4).bind fun H5 =>
      f_X8_restore_l32 x1 n (x2 + 1) H5
def f_X8_restore (x1 : Int32) (H : Hp) : Option (Int32 × Hp) :=
  (pf H 60 0 0).bind fun H1 =>
  (f_X8_in x1.toInt64 0 1).bind fun v2 =>
  if v2 = 0 then
    some ((-1000001), H1)
  else
    (ag H1 75 2 x1).bind fun v3 =>
    if v3 = 0 then
      some ((-1000002), H1)
    else
      (f_X8_restore_l32 x1 fuel 0 H1).bind fun l7 =>
      (pf l7 60 9 0).bind fun H8 =>
      some (1, H8)
set_option maxHeartbeats 4000000 in
set_option maxRecDepth 100000 in
theorem k_X8_restore_l32 {D : Nat} (hD : 1 ≤ (D + 1)) (x1 : Int32) {post : Option Value → Hp → Prop} : ∀ (n : Nat) (x2 : Int32) (H : Hp) (q : Hp), f_X8_restore_l32 x1 n x2 H = some q → V (D + 1) RX8 mdX8_restore 61 [.ref 60, .null, .null] [] q post → V (D + 1) RX8 mdX8_restore 32 [.ref 60, .int x1, .int x2] [] H post := by
  intro n
  induction n with
  | zero => intro x2 H q h; simp [f_X8_restore_l32] at h
  | succ n ih =>
    intro x2 H q h k1
    rw [f_X8_restore_l32] at h
    refine st_iload_n dX8_restore_32 rfl rfl ?_
    refine st_bipush dX8_restore_33 (v := 80) (by decide) ?_
    refine st_ic_ge dX8_restore_35 61 (by decide) (fun c6 => ?_) (fun c6 => ?_)
    · replace h := (if_pos c6).symm.trans h
      obtain rfl := Option.some.inj h
      exact st_sub [.ref 60, .null, .null] ⟨Or.inr rfl, Or.inl rfl, Or.inl rfl, trivial⟩ k1
    · replace h := (if_neg c6).symm.trans h
      refine st_aload_n dX8_restore_38 rfl rfl ?_
      refine gR8 dX8_restore_39 (by decide) rfl 5 (by decide) fl_RX8_19 rfl 64 rfl ?_
      refine st_iload_n dX8_restore_42 rfl rfl ?_
      refine st_aload_n dX8_restore_43 rfl rfl ?_
      refine gR8 dX8_restore_44 (by decide) rfl 27 (by decide) fl_RX8_56 rfl 76 rfl ?_
      refine st_bipush dX8_restore_47 (v := 80) (by decide) ?_
      refine st_iload_n dX8_restore_49 rfl rfl ?_
      refine st_imul dX8_restore_50 ?_
      refine st_iload_n dX8_restore_51 rfl rfl ?_
      refine st_iadd dX8_restore_52 ?_
      obtain ⟨v4, e_v4, h⟩ := bnd h
      refine st_iald dX8_restore_53 (by decide) rfl v4 e_v4 ?_
      obtain ⟨H5, e_H5, h⟩ := bnd h
      refine st_iast dX8_restore_54 (by decide) rfl H5 e_H5 ?_
      refine st_iinc dX8_restore_55 rfl (v := (x2 + 1)) rfl (by decide) [.ref 60, .int x1, .int (x2 + 1)] rfl ?_
      refine st_goto dX8_restore_58 32 (by decide) ?_
      exact ih (x2 + 1) H5 q h k1
set_option maxHeartbeats 4000000 in
set_option maxRecDepth 100000 in
theorem k_X8_restore {D : Nat} (hD : 1 ≤ D) (x1 : Int32) (H : Hp) (q : Int32 × Hp) (h : f_X8_restore x1 H = some q) {post : Option Value → Hp → Prop} (hp : post (some (.int q.1)) q.2) : Sem D mdX8_restore [.ref 60, .int x1] H post := by
  obtain ⟨D, rfl⟩ : ∃ E, D = E + 1 := ⟨D - 1, by omega⟩
  refine sem_of (own := RX8) rfl pn_RX8 (Nat.le_of_ble_eq_true rfl) [.ref 60, .int x1, .null] ⟨Or.inr rfl, Or.inr rfl, rfl, trivial⟩ ?_
  unfold f_X8_restore at h
  refine st_aload_n dX8_restore_0 rfl rfl ?_
  refine st_iconst dX8_restore_1 (v := 0) rfl ?_
  obtain ⟨H1, e_H1, h⟩ := bnd h
  refine pI8 dX8_restore_2 (by decide) rfl 0 (by decide) fl_RX8_62 rfl rfl rfl rfl e_H1 ?_
  refine st_iload_n dX8_restore_5 rfl rfl ?_
  refine st_i2l dX8_restore_6 ?_
  refine st_lconst dX8_restore_7 (v := 0) rfl ?_
  refine st_lconst dX8_restore_8 (v := 1) rfl ?_
  obtain ⟨v2, e_v2, h⟩ := bnd h
  refine st_callS [.long x1.toInt64, .long 0, .long 1] dX8_restore_9 co_X8_in sm_X8_in ml_RX8_72 rfl (S := []) rfl (Nat.le_of_ble_eq_true rfl) (k_X8_in (by omega) x1.toInt64 0 1 H1 _ e_v2 ?_)
  show V (D + 1) RX8 mdX8_restore 12 [.ref 60, .int x1, .null] [.int v2] H1 post
  refine st_if_ne dX8_restore_12 18 (by decide) (fun c9 => ?_) (fun c9 => ?_)
  · replace h := (if_neg c9).symm.trans h
    refine st_aload_n dX8_restore_18 rfl rfl ?_
    refine gR8 dX8_restore_19 (by decide) rfl 26 (by decide) fl_RX8_52 rfl 75 rfl ?_
    refine st_iload_n dX8_restore_22 rfl rfl ?_
    obtain ⟨v3, e_v3, h⟩ := bnd h
    refine st_zald dX8_restore_23 (by decide) rfl v3 e_v3 ?_
    refine st_if_ne dX8_restore_24 30 (by decide) (fun c10 => ?_) (fun c10 => ?_)
    · replace h := (if_neg c10).symm.trans h
      refine st_iconst dX8_restore_30 (v := 0) rfl ?_
      refine st_istore_n dX8_restore_31 rfl (by decide) [.ref 60, .int x1, .int 0] rfl ?_
      obtain ⟨l7, e_l7, h⟩ := bnd h
      refine k_X8_restore_l32 (by omega) x1 fuel 0 H1 _ e_l7 ?_
      refine st_aload_n dX8_restore_61 rfl rfl ?_
      refine st_iconst dX8_restore_62 (v := 0) rfl ?_
      obtain ⟨H8, e_H8, h⟩ := bnd h
      refine pI8 dX8_restore_63 (by decide) rfl 9 (by decide) fl_RX8_171 rfl rfl rfl rfl e_H8 ?_
      refine st_iconst dX8_restore_66 (v := 1) rfl ?_
      obtain rfl := Option.some.inj h
      exact st_iret dX8_restore_67 rfl hp
    · replace h := (if_pos c10).symm.trans h
      refine st_ldc dX8_restore_27 cn_RX8_253 ?_
      obtain rfl := Option.some.inj h
      exact st_iret dX8_restore_29 rfl hp
  · replace h := (if_pos c9).symm.trans h
    refine st_ldc dX8_restore_15 cn_RX8_82 ?_
    obtain rfl := Option.some.inj h
    exact st_iret dX8_restore_17 rfl hp
def f_X8_kind (x1 : Int32) (H : Hp) : Option (Int32 × Hp) :=
  (pf H 60 0 0).bind fun H1 =>
  (f_X8_isProject x1 H1).bind fun v2 =>
  Option.bind (
    if v2 = 0 then
      some (-1000001)
    else
      (ag H1 64 80 (4 + x1)).bind fun v3 =>
      some v3) fun j4 =>
  some (j4, H1)
set_option maxHeartbeats 4000000 in
set_option maxRecDepth 100000 in
theorem k_X8_kind {D : Nat} (hD : 2 ≤ D) (x1 : Int32) (H : Hp) (q : Int32 × Hp) (h : f_X8_kind x1 H = some q) {post : Option Value → Hp → Prop} (hp : post (some (.int q.1)) q.2) : Sem D mdX8_kind [.ref 60, .int x1] H post := by
  obtain ⟨D, rfl⟩ : ∃ E, D = E + 1 := ⟨D - 1, by omega⟩
  refine sem_of (own := RX8) rfl pn_RX8 (Nat.le_of_ble_eq_true rfl) [.ref 60, .int x1] ⟨Or.inr rfl, Or.inr rfl, trivial⟩ ?_
  unfold f_X8_kind at h
  refine st_aload_n dX8_kind_0 rfl rfl ?_
  refine st_iconst dX8_kind_1 (v := 0) rfl ?_
  obtain ⟨H1, e_H1, h⟩ := bnd h
  refine pI8 dX8_kind_2 (by decide) rfl 0 (by decide) fl_RX8_62 rfl rfl rfl rfl e_H1 ?_
  refine st_aload_n dX8_kind_5 rfl rfl ?_
  refine st_iload_n dX8_kind_6 rfl rfl ?_
  obtain ⟨v2, e_v2, h⟩ := bnd h
  refine st_callV [.int x1] dX8_kind_7 co_X8_isProject im_X8_isProject se_X8_isProject ml_RX8_238 rfl (by decide) rfl (rfl : classes[8]? = some (RX8, TX8, 30)) rfl (S := []) rfl (Nat.le_of_ble_eq_true rfl) (k_X8_isProject (by omega) x1 H1 _ e_v2 ?_)
  show V (D + 1) RX8 mdX8_kind 10 [.ref 60, .int x1] [.int v2] H1 post
  obtain ⟨j4, e_j4, h⟩ := bnd h
  have kj5 : V (D + 1) RX8 mdX8_kind 26 [.null, .null] [.int j4] H1 post := by
    obtain rfl := Option.some.inj h
    exact st_iret dX8_kind_26 rfl hp
  refine st_if_eq dX8_kind_10 24 (by decide) (fun c6 => ?_) (fun c6 => ?_)
  · replace e_j4 := (if_pos c6).symm.trans e_j4
    refine st_ldc dX8_kind_24 cn_RX8_82 ?_
    obtain rfl := Option.some.inj e_j4
    exact st_sub [.null, .null] ⟨Or.inl rfl, Or.inl rfl, trivial⟩ kj5
  · replace e_j4 := (if_neg c6).symm.trans e_j4
    refine st_aload_n dX8_kind_13 rfl rfl ?_
    refine gR8 dX8_kind_14 (by decide) rfl 5 (by decide) fl_RX8_19 rfl 64 rfl ?_
    refine st_iconst dX8_kind_17 (v := 4) rfl ?_
    refine st_iload_n dX8_kind_18 rfl rfl ?_
    refine st_iadd dX8_kind_19 ?_
    obtain ⟨v3, e_v3, e_j4⟩ := bnd e_j4
    refine st_iald dX8_kind_20 (by decide) rfl v3 e_v3 ?_
    refine st_goto dX8_kind_21 26 (by decide) ?_
    obtain rfl := Option.some.inj e_j4
    exact st_sub [.null, .null] ⟨Or.inl rfl, Or.inl rfl, trivial⟩ kj5
def f_X8_isOf (x0 : Int32) (x1 : Int32) : Option (Int32) :=
  some ((if x1 = 0 then 1 else (if x0 = x1 then 1 else (if x1 = 1 then (if x0 < 4 then 1 else (if x1 = 4 then (if x0 = 5 then 1 else 0) else 0)) else (if x1 = 4 then (if x0 = 5 then 1 else 0) else 0)))) : Int32)
set_option maxHeartbeats 4000000 in
set_option maxRecDepth 100000 in
theorem k_X8_isOf {D : Nat} (hD : 0 ≤ D) (x0 : Int32) (x1 : Int32) (H : Hp) (q : Int32) (h : f_X8_isOf x0 x1 = some q) {post : Option Value → Hp → Prop} (hp : post (some (.int q)) H) : Sem D mdX8_isOf [.int x0, .int x1] H post := by
  refine sem_of (own := RX8) rfl pn_RX8 (Nat.le_of_ble_eq_true rfl) [.int x0, .int x1] ⟨Or.inr rfl, Or.inr rfl, trivial⟩ ?_
  unfold f_X8_isOf at h
  refine st_iload_n dX8_isOf_0 rfl rfl ?_
  have kj2 : ∀ z1 : Int32, z1 = ((if x1 = 0 then 1 else (if x0 = x1 then 1 else (if x1 = 1 then (if x0 < 4 then 1 else (if x1 = 4 then (if x0 = 5 then 1 else 0) else 0)) else (if x1 = 4 then (if x0 = 5 then 1 else 0) else 0)))) : Int32) → V D RX8 mdX8_isOf 34 [.null, .null] [.int z1] H post := by
    intro z1 ez1
    subst ez1
    obtain rfl := Option.some.inj h
    exact st_zret dX8_isOf_34 rfl (by first | rfl | (split <;> rfl) | (repeat (first | rfl | split))) hp
  refine st_if_eq dX8_isOf_1 29 (by decide) (fun c3 => ?_) (fun c3 => ?_)
  · refine st_iconst dX8_isOf_29 (v := 1) rfl ?_
    refine st_goto dX8_isOf_30 34 (by decide) ?_
    exact st_sub [.null, .null] ⟨Or.inl rfl, Or.inl rfl, trivial⟩ (kj2 _ (Eq.symm (if_pos c3)))
  · refine st_iload_n dX8_isOf_4 rfl rfl ?_
    refine st_iload_n dX8_isOf_5 rfl rfl ?_
    refine st_ic_eq dX8_isOf_6 29 (by decide) (fun c4 => ?_) (fun c4 => ?_)
    · refine st_iconst dX8_isOf_29 (v := 1) rfl ?_
      refine st_goto dX8_isOf_30 34 (by decide) ?_
      exact st_sub [.null, .null] ⟨Or.inl rfl, Or.inl rfl, trivial⟩ (kj2 _ (Eq.symm ((if_neg c3).trans (if_pos c4))))
    · refine st_iload_n dX8_isOf_9 rfl rfl ?_
      refine st_iconst dX8_isOf_10 (v := 1) rfl ?_
      refine st_ic_ne dX8_isOf_11 19 (by decide) (fun c5 => ?_) (fun c5 => ?_)
      · refine st_iload_n dX8_isOf_19 rfl rfl ?_
        refine st_iconst dX8_isOf_20 (v := 4) rfl ?_
        refine st_ic_ne dX8_isOf_21 33 (by decide) (fun c9 => ?_) (fun c9 => ?_)
        · refine st_iconst dX8_isOf_33 (v := 0) rfl ?_
          exact st_sub [.null, .null] ⟨Or.inl rfl, Or.inl rfl, trivial⟩ (kj2 _ (Eq.symm ((if_neg c3).trans ((if_neg c4).trans ((if_neg c5).trans (if_neg c9))))))
        · refine st_iload_n dX8_isOf_24 rfl rfl ?_
          refine st_iconst dX8_isOf_25 (v := 5) rfl ?_
          refine st_ic_ne dX8_isOf_26 33 (by decide) (fun c10 => ?_) (fun c10 => ?_)
          · refine st_iconst dX8_isOf_33 (v := 0) rfl ?_
            exact st_sub [.null, .null] ⟨Or.inl rfl, Or.inl rfl, trivial⟩ (kj2 _ (Eq.symm ((if_neg c3).trans ((if_neg c4).trans ((if_neg c5).trans ((if_pos c9).trans (if_neg c10)))))))
          · refine st_iconst dX8_isOf_29 (v := 1) rfl ?_
            refine st_goto dX8_isOf_30 34 (by decide) ?_
            exact st_sub [.null, .null] ⟨Or.inl rfl, Or.inl rfl, trivial⟩ (kj2 _ (Eq.symm ((if_neg c3).trans ((if_neg c4).trans ((if_neg c5).trans ((if_pos c9).trans (if_pos c10)))))))
      · refine st_iload_n dX8_isOf_14 rfl rfl ?_
        refine st_iconst dX8_isOf_15 (v := 4) rfl ?_
        refine st_ic_lt dX8_isOf_16 29 (by decide) (fun c6 => ?_) (fun c6 => ?_)
        · refine st_iconst dX8_isOf_29 (v := 1) rfl ?_
          refine st_goto dX8_isOf_30 34 (by decide) ?_
          exact st_sub [.null, .null] ⟨Or.inl rfl, Or.inl rfl, trivial⟩ (kj2 _ (Eq.symm ((if_neg c3).trans ((if_neg c4).trans ((if_pos c5).trans (if_pos c6))))))
        · refine st_iload_n dX8_isOf_19 rfl rfl ?_
          refine st_iconst dX8_isOf_20 (v := 4) rfl ?_
          refine st_ic_ne dX8_isOf_21 33 (by decide) (fun c7 => ?_) (fun c7 => ?_)
          · refine st_iconst dX8_isOf_33 (v := 0) rfl ?_
            exact st_sub [.null, .null] ⟨Or.inl rfl, Or.inl rfl, trivial⟩ (kj2 _ (Eq.symm ((if_neg c3).trans ((if_neg c4).trans ((if_pos c5).trans ((if_neg c6).trans (if_neg c7)))))))
          · refine st_iload_n dX8_isOf_24 rfl rfl ?_
            refine st_iconst dX8_isOf_25 (v := 5) rfl ?_
            refine st_ic_ne dX8_isOf_26 33 (by decide) (fun c8 => ?_) (fun c8 => ?_)
            · refine st_iconst dX8_isOf_33 (v := 0) rfl ?_
              exact st_sub [.null, .null] ⟨Or.inl rfl, Or.inl rfl, trivial⟩ (kj2 _ (Eq.symm ((if_neg c3).trans ((if_neg c4).trans ((if_pos c5).trans ((if_neg c6).trans ((if_pos c7).trans (if_neg c8))))))))
            · refine st_iconst dX8_isOf_29 (v := 1) rfl ?_
              refine st_goto dX8_isOf_30 34 (by decide) ?_
              exact st_sub [.null, .null] ⟨Or.inl rfl, Or.inl rfl, trivial⟩ (kj2 _ (Eq.symm ((if_neg c3).trans ((if_neg c4).trans ((if_pos c5).trans ((if_neg c6).trans ((if_pos c7).trans (if_pos c8))))))))
def f_X8_as (x1 : Int32) (x2 : Int32) (H : Hp) : Option (Int32 × Hp) :=
  (pf H 60 0 0).bind fun H1 =>
  (f_X8_isProject x1 H1).bind fun v2 =>
  if v2 = 0 then
    some ((-1000001), H1)
  else
    (f_X8_in x2.toInt64 0 5).bind fun v3 =>
    if v3 = 0 then
      some ((-1000001), H1)
    else
      (pf H1 60 1 0).bind fun H4 =>
      (ag H4 64 80 (4 + x1)).bind fun v5 =>
      (f_X8_isOf v5 x2).bind fun v6 =>
      Option.bind (
        if v6 = 0 then
          (f_X8_finding 3 H4).bind fun q7 =>
          some (q7.1, q7.2)
        else
          some (x1, H4)) fun j8 =>
      some (j8.1, j8.2)
set_option maxHeartbeats 4000000 in
set_option maxRecDepth 100000 in
theorem k_X8_as {D : Nat} (hD : 2 ≤ D) (x1 : Int32) (x2 : Int32) (H : Hp) (q : Int32 × Hp) (h : f_X8_as x1 x2 H = some q) {post : Option Value → Hp → Prop} (hp : post (some (.int q.1)) q.2) : Sem D mdX8_as [.ref 60, .int x1, .int x2] H post := by
  obtain ⟨D, rfl⟩ : ∃ E, D = E + 1 := ⟨D - 1, by omega⟩
  refine sem_of (own := RX8) rfl pn_RX8 (Nat.le_of_ble_eq_true rfl) [.ref 60, .int x1, .int x2] ⟨Or.inr rfl, Or.inr rfl, Or.inr rfl, trivial⟩ ?_
  unfold f_X8_as at h
  refine st_aload_n dX8_as_0 rfl rfl ?_
  refine st_iconst dX8_as_1 (v := 0) rfl ?_
  obtain ⟨H1, e_H1, h⟩ := bnd h
  refine pI8 dX8_as_2 (by decide) rfl 0 (by decide) fl_RX8_62 rfl rfl rfl rfl e_H1 ?_
  refine st_aload_n dX8_as_5 rfl rfl ?_
  refine st_iload_n dX8_as_6 rfl rfl ?_
  obtain ⟨v2, e_v2, h⟩ := bnd h
  refine st_callV [.int x1] dX8_as_7 co_X8_isProject im_X8_isProject se_X8_isProject ml_RX8_238 rfl (by decide) rfl (rfl : classes[8]? = some (RX8, TX8, 30)) rfl (S := []) rfl (Nat.le_of_ble_eq_true rfl) (k_X8_isProject (by omega) x1 H1 _ e_v2 ?_)
  show V (D + 1) RX8 mdX8_as 10 [.ref 60, .int x1, .int x2] [.int v2] H1 post
  refine st_if_eq dX8_as_10 25 (by decide) (fun c9 => ?_) (fun c9 => ?_)
  · replace h := (if_pos c9).symm.trans h
    refine st_ldc dX8_as_25 cn_RX8_82 ?_
    obtain rfl := Option.some.inj h
    exact st_iret dX8_as_27 rfl hp
  · replace h := (if_neg c9).symm.trans h
    refine st_iload_n dX8_as_13 rfl rfl ?_
    refine st_i2l dX8_as_14 ?_
    refine st_lconst dX8_as_15 (v := 0) rfl ?_
    refine st_ldc2 dX8_as_16 cl_RX8_256 ?_
    obtain ⟨v3, e_v3, h⟩ := bnd h
    refine st_callS [.long x2.toInt64, .long 0, .long 5] dX8_as_19 co_X8_in sm_X8_in ml_RX8_72 rfl (S := []) rfl (Nat.le_of_ble_eq_true rfl) (k_X8_in (by omega) x2.toInt64 0 5 H1 _ e_v3 ?_)
    show V (D + 1) RX8 mdX8_as 22 [.ref 60, .int x1, .int x2] [.int v3] H1 post
    refine st_if_ne dX8_as_22 28 (by decide) (fun c10 => ?_) (fun c10 => ?_)
    · replace h := (if_neg c10).symm.trans h
      refine st_aload_n dX8_as_28 rfl rfl ?_
      refine st_iconst dX8_as_29 (v := 0) rfl ?_
      obtain ⟨H4, e_H4, h⟩ := bnd h
      refine pI8 dX8_as_30 (by decide) rfl 1 (by decide) fl_RX8_66 rfl rfl rfl rfl e_H4 ?_
      refine st_aload_n dX8_as_33 rfl rfl ?_
      refine gR8 dX8_as_34 (by decide) rfl 5 (by decide) fl_RX8_19 rfl 64 rfl ?_
      refine st_iconst dX8_as_37 (v := 4) rfl ?_
      refine st_iload_n dX8_as_38 rfl rfl ?_
      refine st_iadd dX8_as_39 ?_
      obtain ⟨v5, e_v5, h⟩ := bnd h
      refine st_iald dX8_as_40 (by decide) rfl v5 e_v5 ?_
      refine st_iload_n dX8_as_41 rfl rfl ?_
      obtain ⟨v6, e_v6, h⟩ := bnd h
      refine st_callS [.int v5, .int x2] dX8_as_42 co_X8_isOf sm_X8_isOf ml_RX8_319 rfl (S := []) rfl (Nat.le_of_ble_eq_true rfl) (k_X8_isOf (by omega) v5 x2 H4 _ e_v6 ?_)
      show V (D + 1) RX8 mdX8_as 45 [.ref 60, .int x1, .int x2] [.int v6] H4 post
      obtain ⟨j8, e_j8, h⟩ := bnd h
      have kj11 : V (D + 1) RX8 mdX8_as 57 [.null, .null, .null] [.int j8.1] j8.2 post := by
        obtain rfl := Option.some.inj h
        exact st_iret dX8_as_57 rfl hp
      refine st_if_eq dX8_as_45 52 (by decide) (fun c12 => ?_) (fun c12 => ?_)
      · replace e_j8 := (if_pos c12).symm.trans e_j8
        refine st_aload_n dX8_as_52 rfl rfl ?_
        refine st_iconst dX8_as_53 (v := 3) rfl ?_
        obtain ⟨q7, e_q7, e_j8⟩ := bnd e_j8
        refine st_callV [.int 3] dX8_as_54 co_X8_finding im_X8_finding se_X8_finding ml_RX8_83 rfl (by decide) rfl (rfl : classes[8]? = some (RX8, TX8, 30)) rfl (S := []) rfl (Nat.le_of_ble_eq_true rfl) (k_X8_finding (by omega) 3 H4 _ e_q7 ?_)
        show V (D + 1) RX8 mdX8_as 57 [.ref 60, .int x1, .int x2] [.int q7.1] q7.2 post
        obtain rfl := Option.some.inj e_j8
        exact st_sub [.null, .null, .null] ⟨Or.inl rfl, Or.inl rfl, Or.inl rfl, trivial⟩ kj11
      · replace e_j8 := (if_neg c12).symm.trans e_j8
        refine st_iload_n dX8_as_48 rfl rfl ?_
        refine st_goto dX8_as_49 57 (by decide) ?_
        obtain rfl := Option.some.inj e_j8
        exact st_sub [.null, .null, .null] ⟨Or.inl rfl, Or.inl rfl, Or.inl rfl, trivial⟩ kj11
    · replace h := (if_pos c10).symm.trans h
      refine st_ldc dX8_as_25 cn_RX8_82 ?_
      obtain rfl := Option.some.inj h
      exact st_iret dX8_as_27 rfl hp
def f_X8_began (x1 : Int32) (H : Hp) : Option (Hp) :=
  Option.bind (
    if 16 ≤ (H 60 29) then
      some H
    else
      (as H 77 16 (H 60 29) x1).bind fun H1 =>
      (pf H1 60 29 ((H1 60 29) + 1)).bind fun H2 =>
      some H2) fun j3 =>
  some j3
set_option maxHeartbeats 4000000 in
set_option maxRecDepth 100000 in
theorem k_X8_began {D : Nat} (hD : 0 ≤ D) (x1 : Int32) (H : Hp) (q : Hp) (h : f_X8_began x1 H = some q) {post : Option Value → Hp → Prop} (hp : post none q) : Sem D mdX8_began [.ref 60, .int x1] H post := by
  refine sem_of (own := RX8) rfl pn_RX8 (Nat.le_of_ble_eq_true rfl) [.ref 60, .int x1] ⟨Or.inr rfl, Or.inr rfl, trivial⟩ ?_
  unfold f_X8_began at h
  refine st_aload_n dX8_began_0 rfl rfl ?_
  refine gI8 dX8_began_1 (by decide) rfl 29 (by decide) fl_RX8_322 rfl rfl ?_
  refine st_bipush dX8_began_4 (v := 16) (by decide) ?_
  obtain ⟨j3, e_j3, h⟩ := bnd h
  have kj4 : V D RX8 mdX8_began 29 [.null, .null] [] j3 post := by
    obtain rfl := Option.some.inj h
    exact st_vret dX8_began_29 rfl hp
  refine st_ic_ge dX8_began_6 29 (by decide) (fun c5 => ?_) (fun c5 => ?_)
  · replace e_j3 := (if_pos c5).symm.trans e_j3
    obtain rfl := Option.some.inj e_j3
    exact st_sub [.null, .null] ⟨Or.inl rfl, Or.inl rfl, trivial⟩ kj4
  · replace e_j3 := (if_neg c5).symm.trans e_j3
    refine st_aload_n dX8_began_9 rfl rfl ?_
    refine gR8 dX8_began_10 (by decide) rfl 28 (by decide) fl_RX8_59 rfl 77 rfl ?_
    refine st_aload_n dX8_began_13 rfl rfl ?_
    refine gI8 dX8_began_14 (by decide) rfl 29 (by decide) fl_RX8_322 rfl rfl ?_
    refine st_iload_n dX8_began_17 rfl rfl ?_
    obtain ⟨H1, e_H1, e_j3⟩ := bnd e_j3
    refine st_iast dX8_began_18 (by decide) rfl H1 e_H1 ?_
    refine st_aload_n dX8_began_19 rfl rfl ?_
    refine st_dup dX8_began_20 rfl ?_
    refine gI8 dX8_began_21 (by decide) rfl 29 (by decide) fl_RX8_322 rfl rfl ?_
    refine st_iconst dX8_began_24 (v := 1) rfl ?_
    refine st_iadd dX8_began_25 ?_
    obtain ⟨H2, e_H2, e_j3⟩ := bnd e_j3
    refine pI8 dX8_began_26 (by decide) rfl 29 (by decide) fl_RX8_322 rfl rfl rfl rfl e_H2 ?_
    obtain rfl := Option.some.inj e_j3
    exact st_sub [.null, .null] ⟨Or.inl rfl, Or.inl rfl, trivial⟩ kj4
def f_X8_plainSize (x1 : Int32) (H : Hp) : Option (Int32 × Hp) :=
  (f_X8_began 10 H).bind fun H1 =>
  (f_X8_sumsOf x1 H1).bind fun v2 =>
  some (v2, H1)
set_option maxHeartbeats 4000000 in
set_option maxRecDepth 100000 in
theorem k_X8_plainSize {D : Nat} (hD : 1 ≤ D) (x1 : Int32) (H : Hp) (q : Int32 × Hp) (h : f_X8_plainSize x1 H = some q) {post : Option Value → Hp → Prop} (hp : post (some (.int q.1)) q.2) : Sem D mdX8_plainSize [.ref 60, .int x1] H post := by
  obtain ⟨D, rfl⟩ : ∃ E, D = E + 1 := ⟨D - 1, by omega⟩
  refine sem_of (own := RX8) rfl pn_RX8 (Nat.le_of_ble_eq_true rfl) [.ref 60, .int x1] ⟨Or.inr rfl, Or.inr rfl, trivial⟩ ?_
  unfold f_X8_plainSize at h
  refine st_aload_n dX8_plainSize_0 rfl rfl ?_
  refine st_bipush dX8_plainSize_1 (v := 10) (by decide) ?_
  obtain ⟨H1, e_H1, h⟩ := bnd h
  refine st_callV [.int 10] dX8_plainSize_3 co_X8_began im_X8_began se_X8_began ml_RX8_325 rfl (by decide) rfl (rfl : classes[8]? = some (RX8, TX8, 30)) rfl (S := []) rfl (Nat.le_of_ble_eq_true rfl) (k_X8_began (by omega) 10 H _ e_H1 ?_)
  show V (D + 1) RX8 mdX8_plainSize 6 [.ref 60, .int x1] [] H1 post
  refine st_aload_n dX8_plainSize_6 rfl rfl ?_
  refine st_iload_n dX8_plainSize_7 rfl rfl ?_
  obtain ⟨v2, e_v2, h⟩ := bnd h
  refine st_callV [.int x1] dX8_plainSize_8 co_X8_sumsOf im_X8_sumsOf se_X8_sumsOf ml_RX8_196 rfl (by decide) rfl (rfl : classes[8]? = some (RX8, TX8, 30)) rfl (S := []) rfl (Nat.le_of_ble_eq_true rfl) (k_X8_sumsOf (by omega) x1 H1 _ e_v2 ?_)
  show V (D + 1) RX8 mdX8_plainSize 11 [.ref 60, .int x1] [.int v2] H1 post
  obtain rfl := Option.some.inj h
  exact st_iret dX8_plainSize_11 rfl hp
def f_X8_flatSize (x1 : Int32) (H : Hp) : Option (Int32 × Hp) :=
  (ag H 64 80 (4 + x1)).bind fun v1 =>
  Option.bind (
    if ((if v1 = 5 then 1 else 0) : Int32) = 0 then
      some H
    else
      (f_X8_began 14 H).bind fun H2 =>
      some H2) fun j3 =>
  (f_X8_began 13 j3).bind fun H4 =>
  (f_X8_plainSize x1 H4).bind fun q5 =>
  some ((if ((if v1 = 5 then 1 else 0) : Int32) = 0 then (q5.1 - 100) else (2 * (q5.1 - 100))), q5.2)
set_option maxHeartbeats 4000000 in
set_option maxRecDepth 100000 in
theorem k_X8_flatSize {D : Nat} (hD : 2 ≤ D) (x1 : Int32) (H : Hp) (q : Int32 × Hp) (h : f_X8_flatSize x1 H = some q) {post : Option Value → Hp → Prop} (hp : post (some (.int q.1)) q.2) : Sem D mdX8_flatSize [.ref 60, .int x1] H post := by
  obtain ⟨D, rfl⟩ : ∃ E, D = E + 1 := ⟨D - 1, by omega⟩
  refine sem_of (own := RX8) rfl pn_RX8 (Nat.le_of_ble_eq_true rfl) [.ref 60, .int x1, .null, .null] ⟨Or.inr rfl, Or.inr rfl, rfl, rfl, trivial⟩ ?_
  unfold f_X8_flatSize at h
  refine st_aload_n dX8_flatSize_0 rfl rfl ?_
  refine gR8 dX8_flatSize_1 (by decide) rfl 5 (by decide) fl_RX8_19 rfl 64 rfl ?_
  refine st_iconst dX8_flatSize_4 (v := 4) rfl ?_
  refine st_iload_n dX8_flatSize_5 rfl rfl ?_
  refine st_iadd dX8_flatSize_6 ?_
  obtain ⟨v1, e_v1, h⟩ := bnd h
  refine st_iald dX8_flatSize_7 (by decide) rfl v1 e_v1 ?_
  refine st_iconst dX8_flatSize_8 (v := 5) rfl ?_
  have kj7 : ∀ z6 : Int32, z6 = ((if v1 = 5 then 1 else 0) : Int32) → V (D + 1) RX8 mdX8_flatSize 17 [.ref 60, .int x1, .null, .null] [.int z6] H post := by
    intro z6 ez6
    subst ez6
    refine st_istore_n dX8_flatSize_17 rfl (by decide) [.ref 60, .int x1, .int ((if v1 = 5 then 1 else 0) : Int32), .null] rfl ?_
    refine st_iload_n dX8_flatSize_18 rfl rfl ?_
    obtain ⟨j3, e_j3, h⟩ := bnd h
    have kj8 : V (D + 1) RX8 mdX8_flatSize 28 [.ref 60, .int x1, .int ((if v1 = 5 then 1 else 0) : Int32), .null] [] j3 post := by
      refine st_aload_n dX8_flatSize_28 rfl rfl ?_
      refine st_bipush dX8_flatSize_29 (v := 13) (by decide) ?_
      obtain ⟨H4, e_H4, h⟩ := bnd h
      refine st_callV [.int 13] dX8_flatSize_31 co_X8_began im_X8_began se_X8_began ml_RX8_325 rfl (by decide) rfl (rfl : classes[8]? = some (RX8, TX8, 30)) rfl (S := []) rfl (Nat.le_of_ble_eq_true rfl) (k_X8_began (by omega) 13 j3 _ e_H4 ?_)
      show V (D + 1) RX8 mdX8_flatSize 34 [.ref 60, .int x1, .int ((if v1 = 5 then 1 else 0) : Int32), .null] [] H4 post
      refine st_aload_n dX8_flatSize_34 rfl rfl ?_
      refine st_iload_n dX8_flatSize_35 rfl rfl ?_
      obtain ⟨q5, e_q5, h⟩ := bnd h
      refine st_callV [.int x1] dX8_flatSize_36 co_X8_plainSize im_X8_plainSize se_X8_plainSize ml_RX8_328 rfl (by decide) rfl (rfl : classes[8]? = some (RX8, TX8, 30)) rfl (S := []) rfl (Nat.le_of_ble_eq_true rfl) (k_X8_plainSize (by omega) x1 H4 _ e_q5 ?_)
      show V (D + 1) RX8 mdX8_flatSize 39 [.ref 60, .int x1, .int ((if v1 = 5 then 1 else 0) : Int32), .null] [.int q5.1] q5.2 post
      refine st_bipush dX8_flatSize_39 (v := 100) (by decide) ?_
      refine st_isub dX8_flatSize_41 ?_
      refine st_istore_n dX8_flatSize_42 rfl (by decide) [.ref 60, .int x1, .int ((if v1 = 5 then 1 else 0) : Int32), .int (q5.1 - 100)] rfl ?_
      refine st_iload_n dX8_flatSize_43 rfl rfl ?_
      have kj10 : ∀ z9 : Int32, z9 = (if ((if v1 = 5 then 1 else 0) : Int32) = 0 then (q5.1 - 100) else (2 * (q5.1 - 100))) → V (D + 1) RX8 mdX8_flatSize 54 [.null, .null, .null, .null] [.int z9] q5.2 post := by
        intro z9 ez9
        subst ez9
        obtain rfl := Option.some.inj h
        exact st_iret dX8_flatSize_54 rfl hp
      refine st_if_eq dX8_flatSize_44 53 (by decide) (fun c11 => ?_) (fun c11 => ?_)
      · refine st_iload_n dX8_flatSize_53 rfl rfl ?_
        exact st_sub [.null, .null, .null, .null] ⟨Or.inl rfl, Or.inl rfl, Or.inl rfl, Or.inl rfl, trivial⟩ (kj10 _ (Eq.symm (if_pos c11)))
      · refine st_iconst dX8_flatSize_47 (v := 2) rfl ?_
        refine st_iload_n dX8_flatSize_48 rfl rfl ?_
        refine st_imul dX8_flatSize_49 ?_
        refine st_goto dX8_flatSize_50 54 (by decide) ?_
        exact st_sub [.null, .null, .null, .null] ⟨Or.inl rfl, Or.inl rfl, Or.inl rfl, Or.inl rfl, trivial⟩ (kj10 _ (Eq.symm (if_neg c11)))
    refine st_if_eq dX8_flatSize_19 28 (by decide) (fun c12 => ?_) (fun c12 => ?_)
    · replace e_j3 := (if_pos c12).symm.trans e_j3
      obtain rfl := Option.some.inj e_j3
      exact kj8
    · replace e_j3 := (if_neg c12).symm.trans e_j3
      refine st_aload_n dX8_flatSize_22 rfl rfl ?_
      refine st_bipush dX8_flatSize_23 (v := 14) (by decide) ?_
      obtain ⟨H2, e_H2, e_j3⟩ := bnd e_j3
      refine st_callV [.int 14] dX8_flatSize_25 co_X8_began im_X8_began se_X8_began ml_RX8_325 rfl (by decide) rfl (rfl : classes[8]? = some (RX8, TX8, 30)) rfl (S := []) rfl (Nat.le_of_ble_eq_true rfl) (k_X8_began (by omega) 14 H _ e_H2 ?_)
      show V (D + 1) RX8 mdX8_flatSize 28 [.ref 60, .int x1, .int ((if v1 = 5 then 1 else 0) : Int32), .null] [] H2 post
      obtain rfl := Option.some.inj e_j3
      exact kj8
  refine st_ic_ne dX8_flatSize_9 16 (by decide) (fun c13 => ?_) (fun c13 => ?_)
  · refine st_iconst dX8_flatSize_16 (v := 0) rfl ?_
    exact (kj7 _ (Eq.symm (if_neg c13)))
  · refine st_iconst dX8_flatSize_12 (v := 1) rfl ?_
    refine st_goto dX8_flatSize_13 17 (by decide) ?_
    exact (kj7 _ (Eq.symm (if_pos c13)))
def f_X8_markOf (x1 : Int32) (H : Hp) : Option (Int32 × Hp) :=
  (ag H 64 80 (4 + x1)).bind fun v1 =>
  if v1 < 4 then
    Option.bind (
      if v1 = 1 then
        some H
      else
        (f_X8_began ((if v1 = 3 then 22 else 24) : Int32) H).bind fun H2 =>
        some H2) fun j3 =>
    (f_X8_began 21 j3).bind fun H4 =>
    (f_X8_began 20 H4).bind fun H5 =>
    (f_X8_giversOf x1 H5).bind fun v6 =>
    (f_X8_bits v6).bind fun v7 =>
    some ((if v1 = 1 then (x1 + v7) else (if v1 = 3 then ((x1 + v7) - 1000) else (2 * (x1 + v7)))), H5)
  else
    (f_X8_began 23 H).bind fun H8 =>
    (f_X8_began 20 H8).bind fun H9 =>
    (f_X8_flatSize x1 H9).bind fun q10 =>
    some ((x1 - q10.1), q10.2)
set_option maxHeartbeats 4000000 in
set_option maxRecDepth 100000 in
theorem k_X8_markOf {D : Nat} (hD : 3 ≤ D) (x1 : Int32) (H : Hp) (q : Int32 × Hp) (h : f_X8_markOf x1 H = some q) {post : Option Value → Hp → Prop} (hp : post (some (.int q.1)) q.2) : Sem D mdX8_markOf [.ref 60, .int x1] H post := by
  obtain ⟨D, rfl⟩ : ∃ E, D = E + 1 := ⟨D - 1, by omega⟩
  refine sem_of (own := RX8) rfl pn_RX8 (Nat.le_of_ble_eq_true rfl) [.ref 60, .int x1, .null, .null] ⟨Or.inr rfl, Or.inr rfl, rfl, rfl, trivial⟩ ?_
  unfold f_X8_markOf at h
  refine st_aload_n dX8_markOf_0 rfl rfl ?_
  refine gR8 dX8_markOf_1 (by decide) rfl 5 (by decide) fl_RX8_19 rfl 64 rfl ?_
  refine st_iconst dX8_markOf_4 (v := 4) rfl ?_
  refine st_iload_n dX8_markOf_5 rfl rfl ?_
  refine st_iadd dX8_markOf_6 ?_
  obtain ⟨v1, e_v1, h⟩ := bnd h
  refine st_iald dX8_markOf_7 (by decide) rfl v1 e_v1 ?_
  refine st_istore_n dX8_markOf_8 rfl (by decide) [.ref 60, .int x1, .int v1, .null] rfl ?_
  refine st_iload_n dX8_markOf_9 rfl rfl ?_
  refine st_iconst dX8_markOf_10 (v := 4) rfl ?_
  refine st_ic_lt dX8_markOf_11 34 (by decide) (fun c11 => ?_) (fun c11 => ?_)
  · replace h := (if_pos c11).symm.trans h
    refine st_iload_n dX8_markOf_34 rfl rfl ?_
    refine st_iconst dX8_markOf_35 (v := 1) rfl ?_
    obtain ⟨j3, e_j3, h⟩ := bnd h
    have kj12 : V (D + 1) RX8 mdX8_markOf 55 [.ref 60, .int x1, .int v1, .null] [] j3 post := by
      refine st_aload_n dX8_markOf_55 rfl rfl ?_
      refine st_bipush dX8_markOf_56 (v := 21) (by decide) ?_
      obtain ⟨H4, e_H4, h⟩ := bnd h
      refine st_callV [.int 21] dX8_markOf_58 co_X8_began im_X8_began se_X8_began ml_RX8_325 rfl (by decide) rfl (rfl : classes[8]? = some (RX8, TX8, 30)) rfl (S := []) rfl (Nat.le_of_ble_eq_true rfl) (k_X8_began (by omega) 21 j3 _ e_H4 ?_)
      show V (D + 1) RX8 mdX8_markOf 61 [.ref 60, .int x1, .int v1, .null] [] H4 post
      refine st_aload_n dX8_markOf_61 rfl rfl ?_
      refine st_bipush dX8_markOf_62 (v := 20) (by decide) ?_
      obtain ⟨H5, e_H5, h⟩ := bnd h
      refine st_callV [.int 20] dX8_markOf_64 co_X8_began im_X8_began se_X8_began ml_RX8_325 rfl (by decide) rfl (rfl : classes[8]? = some (RX8, TX8, 30)) rfl (S := []) rfl (Nat.le_of_ble_eq_true rfl) (k_X8_began (by omega) 20 H4 _ e_H5 ?_)
      show V (D + 1) RX8 mdX8_markOf 67 [.ref 60, .int x1, .int v1, .null] [] H5 post
      refine st_iload_n dX8_markOf_67 rfl rfl ?_
      refine st_aload_n dX8_markOf_68 rfl rfl ?_
      refine st_iload_n dX8_markOf_69 rfl rfl ?_
      obtain ⟨v6, e_v6, h⟩ := bnd h
      refine st_callV [.int x1] dX8_markOf_70 co_X8_giversOf im_X8_giversOf se_X8_giversOf ml_RX8_199 rfl (by decide) rfl (rfl : classes[8]? = some (RX8, TX8, 30)) rfl (S := [.int x1]) rfl (Nat.le_of_ble_eq_true rfl) (k_X8_giversOf (by omega) x1 H5 _ e_v6 ?_)
      show V (D + 1) RX8 mdX8_markOf 73 [.ref 60, .int x1, .int v1, .null] [.int v6, .int x1] H5 post
      obtain ⟨v7, e_v7, h⟩ := bnd h
      refine st_callS [.int v6] dX8_markOf_73 co_X8_bits sm_X8_bits ml_RX8_202 rfl (S := [.int x1]) rfl (Nat.le_of_ble_eq_true rfl) (k_X8_bits (by omega) v6 H5 _ e_v7 ?_)
      show V (D + 1) RX8 mdX8_markOf 76 [.ref 60, .int x1, .int v1, .null] [.int v7, .int x1] H5 post
      refine st_iadd dX8_markOf_76 ?_
      refine st_istore_n dX8_markOf_77 rfl (by decide) [.ref 60, .int x1, .int v1, .int (x1 + v7)] rfl ?_
      refine st_iload_n dX8_markOf_78 rfl rfl ?_
      refine st_iconst dX8_markOf_79 (v := 1) rfl ?_
      have kj14 : ∀ z13 : Int32, z13 = (if v1 = 1 then (x1 + v7) else (if v1 = 3 then ((x1 + v7) - 1000) else (2 * (x1 + v7)))) → V (D + 1) RX8 mdX8_markOf 103 [.null, .null, .null, .null] [.int z13] H5 post := by
        intro z13 ez13
        subst ez13
        obtain rfl := Option.some.inj h
        exact st_iret dX8_markOf_103 rfl hp
      refine st_ic_ne dX8_markOf_80 87 (by decide) (fun c15 => ?_) (fun c15 => ?_)
      · refine st_iload_n dX8_markOf_87 rfl rfl ?_
        refine st_iconst dX8_markOf_88 (v := 3) rfl ?_
        refine st_ic_ne dX8_markOf_89 100 (by decide) (fun c16 => ?_) (fun c16 => ?_)
        · refine st_iconst dX8_markOf_100 (v := 2) rfl ?_
          refine st_iload_n dX8_markOf_101 rfl rfl ?_
          refine st_imul dX8_markOf_102 ?_
          exact st_sub [.null, .null, .null, .null] ⟨Or.inl rfl, Or.inl rfl, Or.inl rfl, Or.inl rfl, trivial⟩ (kj14 _ (Eq.symm ((if_neg c15).trans (if_neg c16))))
        · refine st_iload_n dX8_markOf_92 rfl rfl ?_
          refine st_sipush dX8_markOf_93 (v := 1000) (by decide) ?_
          refine st_isub dX8_markOf_96 ?_
          refine st_goto dX8_markOf_97 103 (by decide) ?_
          exact st_sub [.null, .null, .null, .null] ⟨Or.inl rfl, Or.inl rfl, Or.inl rfl, Or.inl rfl, trivial⟩ (kj14 _ (Eq.symm ((if_neg c15).trans (if_pos c16))))
      · refine st_iload_n dX8_markOf_83 rfl rfl ?_
        refine st_goto dX8_markOf_84 103 (by decide) ?_
        exact st_sub [.null, .null, .null, .null] ⟨Or.inl rfl, Or.inl rfl, Or.inl rfl, Or.inl rfl, trivial⟩ (kj14 _ (Eq.symm (if_pos c15)))
    refine st_ic_eq dX8_markOf_36 55 (by decide) (fun c17 => ?_) (fun c17 => ?_)
    · replace e_j3 := (if_pos c17).symm.trans e_j3
      obtain rfl := Option.some.inj e_j3
      exact kj12
    · replace e_j3 := (if_neg c17).symm.trans e_j3
      refine st_aload_n dX8_markOf_39 rfl rfl ?_
      refine st_iload_n dX8_markOf_40 rfl rfl ?_
      refine st_iconst dX8_markOf_41 (v := 3) rfl ?_
      have kj19 : ∀ z18 : Int32, z18 = ((if v1 = 3 then 22 else 24) : Int32) → V (D + 1) RX8 mdX8_markOf 52 [.ref 60, .int x1, .int v1, .null] [.int z18, .ref 60] H post := by
        intro z18 ez18
        subst ez18
        obtain ⟨H2, e_H2, e_j3⟩ := bnd e_j3
        refine st_callV [.int ((if v1 = 3 then 22 else 24) : Int32)] dX8_markOf_52 co_X8_began im_X8_began se_X8_began ml_RX8_325 rfl (by decide) rfl (rfl : classes[8]? = some (RX8, TX8, 30)) rfl (S := []) rfl (Nat.le_of_ble_eq_true rfl) (k_X8_began (by omega) ((if v1 = 3 then 22 else 24) : Int32) H _ e_H2 ?_)
        show V (D + 1) RX8 mdX8_markOf 55 [.ref 60, .int x1, .int v1, .null] [] H2 post
        obtain rfl := Option.some.inj e_j3
        exact kj12
      refine st_ic_ne dX8_markOf_42 50 (by decide) (fun c20 => ?_) (fun c20 => ?_)
      · refine st_bipush dX8_markOf_50 (v := 24) (by decide) ?_
        exact (kj19 _ (Eq.symm (if_neg c20)))
      · refine st_bipush dX8_markOf_45 (v := 22) (by decide) ?_
        refine st_goto dX8_markOf_47 52 (by decide) ?_
        exact (kj19 _ (Eq.symm (if_pos c20)))
  · replace h := (if_neg c11).symm.trans h
    refine st_aload_n dX8_markOf_14 rfl rfl ?_
    refine st_bipush dX8_markOf_15 (v := 23) (by decide) ?_
    obtain ⟨H8, e_H8, h⟩ := bnd h
    refine st_callV [.int 23] dX8_markOf_17 co_X8_began im_X8_began se_X8_began ml_RX8_325 rfl (by decide) rfl (rfl : classes[8]? = some (RX8, TX8, 30)) rfl (S := []) rfl (Nat.le_of_ble_eq_true rfl) (k_X8_began (by omega) 23 H _ e_H8 ?_)
    show V (D + 1) RX8 mdX8_markOf 20 [.ref 60, .int x1, .int v1, .null] [] H8 post
    refine st_aload_n dX8_markOf_20 rfl rfl ?_
    refine st_bipush dX8_markOf_21 (v := 20) (by decide) ?_
    obtain ⟨H9, e_H9, h⟩ := bnd h
    refine st_callV [.int 20] dX8_markOf_23 co_X8_began im_X8_began se_X8_began ml_RX8_325 rfl (by decide) rfl (rfl : classes[8]? = some (RX8, TX8, 30)) rfl (S := []) rfl (Nat.le_of_ble_eq_true rfl) (k_X8_began (by omega) 20 H8 _ e_H9 ?_)
    show V (D + 1) RX8 mdX8_markOf 26 [.ref 60, .int x1, .int v1, .null] [] H9 post
    refine st_iload_n dX8_markOf_26 rfl rfl ?_
    refine st_aload_n dX8_markOf_27 rfl rfl ?_
    refine st_iload_n dX8_markOf_28 rfl rfl ?_
    obtain ⟨q10, e_q10, h⟩ := bnd h
    refine st_callV [.int x1] dX8_markOf_29 co_X8_flatSize im_X8_flatSize se_X8_flatSize ml_RX8_331 rfl (by decide) rfl (rfl : classes[8]? = some (RX8, TX8, 30)) rfl (S := [.int x1]) rfl (Nat.le_of_ble_eq_true rfl) (k_X8_flatSize (by omega) x1 H9 _ e_q10 ?_)
    show V (D + 1) RX8 mdX8_markOf 32 [.ref 60, .int x1, .int v1, .null] [.int q10.1, .int x1] q10.2 post
    refine st_isub dX8_markOf_32 ?_
    obtain rfl := Option.some.inj h
    exact st_iret dX8_markOf_33 rfl hp
def f_X8_sizeOf (x1 : Int32) (H : Hp) : Option (Int32 × Hp) :=
  (ag H 64 80 (4 + x1)).bind fun v1 =>
  if v1 < 4 then
    Option.bind (
      if v1 = 2 then
        (f_X8_began 12 H).bind fun H2 =>
        some H2
      else
        some H) fun j3 =>
    (f_X8_began 11 j3).bind fun H4 =>
    (f_X8_plainSize x1 H4).bind fun q5 =>
    (f_X8_markOf x1 q5.2).bind fun q6 =>
    some ((if v1 = 2 then (-(q5.1 + q6.1)) else (q5.1 + q6.1)), q6.2)
  else
    (f_X8_flatSize x1 H).bind fun q7 =>
    some (q7.1, q7.2)
set_option maxHeartbeats 4000000 in
set_option maxRecDepth 100000 in
theorem k_X8_sizeOf {D : Nat} (hD : 4 ≤ D) (x1 : Int32) (H : Hp) (q : Int32 × Hp) (h : f_X8_sizeOf x1 H = some q) {post : Option Value → Hp → Prop} (hp : post (some (.int q.1)) q.2) : Sem D mdX8_sizeOf [.ref 60, .int x1] H post := by
  obtain ⟨D, rfl⟩ : ∃ E, D = E + 1 := ⟨D - 1, by omega⟩
  refine sem_of (own := RX8) rfl pn_RX8 (Nat.le_of_ble_eq_true rfl) [.ref 60, .int x1, .null, .null] ⟨Or.inr rfl, Or.inr rfl, rfl, rfl, trivial⟩ ?_
  unfold f_X8_sizeOf at h
  refine st_aload_n dX8_sizeOf_0 rfl rfl ?_
  refine gR8 dX8_sizeOf_1 (by decide) rfl 5 (by decide) fl_RX8_19 rfl 64 rfl ?_
  refine st_iconst dX8_sizeOf_4 (v := 4) rfl ?_
  refine st_iload_n dX8_sizeOf_5 rfl rfl ?_
  refine st_iadd dX8_sizeOf_6 ?_
  obtain ⟨v1, e_v1, h⟩ := bnd h
  refine st_iald dX8_sizeOf_7 (by decide) rfl v1 e_v1 ?_
  refine st_istore_n dX8_sizeOf_8 rfl (by decide) [.ref 60, .int x1, .int v1, .null] rfl ?_
  refine st_iload_n dX8_sizeOf_9 rfl rfl ?_
  refine st_iconst dX8_sizeOf_10 (v := 4) rfl ?_
  refine st_ic_lt dX8_sizeOf_11 20 (by decide) (fun c8 => ?_) (fun c8 => ?_)
  · replace h := (if_pos c8).symm.trans h
    refine st_iload_n dX8_sizeOf_20 rfl rfl ?_
    refine st_iconst dX8_sizeOf_21 (v := 2) rfl ?_
    obtain ⟨j3, e_j3, h⟩ := bnd h
    have kj9 : V (D + 1) RX8 mdX8_sizeOf 31 [.ref 60, .int x1, .int v1, .null] [] j3 post := by
      refine st_aload_n dX8_sizeOf_31 rfl rfl ?_
      refine st_bipush dX8_sizeOf_32 (v := 11) (by decide) ?_
      obtain ⟨H4, e_H4, h⟩ := bnd h
      refine st_callV [.int 11] dX8_sizeOf_34 co_X8_began im_X8_began se_X8_began ml_RX8_325 rfl (by decide) rfl (rfl : classes[8]? = some (RX8, TX8, 30)) rfl (S := []) rfl (Nat.le_of_ble_eq_true rfl) (k_X8_began (by omega) 11 j3 _ e_H4 ?_)
      show V (D + 1) RX8 mdX8_sizeOf 37 [.ref 60, .int x1, .int v1, .null] [] H4 post
      refine st_aload_n dX8_sizeOf_37 rfl rfl ?_
      refine st_iload_n dX8_sizeOf_38 rfl rfl ?_
      obtain ⟨q5, e_q5, h⟩ := bnd h
      refine st_callV [.int x1] dX8_sizeOf_39 co_X8_plainSize im_X8_plainSize se_X8_plainSize ml_RX8_328 rfl (by decide) rfl (rfl : classes[8]? = some (RX8, TX8, 30)) rfl (S := []) rfl (Nat.le_of_ble_eq_true rfl) (k_X8_plainSize (by omega) x1 H4 _ e_q5 ?_)
      show V (D + 1) RX8 mdX8_sizeOf 42 [.ref 60, .int x1, .int v1, .null] [.int q5.1] q5.2 post
      refine st_istore_n dX8_sizeOf_42 rfl (by decide) [.ref 60, .int x1, .int v1, .int q5.1] rfl ?_
      refine st_iload_n dX8_sizeOf_43 rfl rfl ?_
      refine st_aload_n dX8_sizeOf_44 rfl rfl ?_
      refine st_iload_n dX8_sizeOf_45 rfl rfl ?_
      obtain ⟨q6, e_q6, h⟩ := bnd h
      refine st_callV [.int x1] dX8_sizeOf_46 co_X8_markOf im_X8_markOf se_X8_markOf ml_RX8_334 rfl (by decide) rfl (rfl : classes[8]? = some (RX8, TX8, 30)) rfl (S := [.int q5.1]) rfl (Nat.le_of_ble_eq_true rfl) (k_X8_markOf (by omega) x1 q5.2 _ e_q6 ?_)
      show V (D + 1) RX8 mdX8_sizeOf 49 [.ref 60, .int x1, .int v1, .int q5.1] [.int q6.1, .int q5.1] q6.2 post
      refine st_iadd dX8_sizeOf_49 ?_
      refine st_istore_n dX8_sizeOf_50 rfl (by decide) [.ref 60, .int x1, .int v1, .int (q5.1 + q6.1)] rfl ?_
      refine st_iload_n dX8_sizeOf_51 rfl rfl ?_
      refine st_iconst dX8_sizeOf_52 (v := 2) rfl ?_
      have kj11 : ∀ z10 : Int32, z10 = (if v1 = 2 then (-(q5.1 + q6.1)) else (q5.1 + q6.1)) → V (D + 1) RX8 mdX8_sizeOf 62 [.null, .null, .null, .null] [.int z10] q6.2 post := by
        intro z10 ez10
        subst ez10
        obtain rfl := Option.some.inj h
        exact st_iret dX8_sizeOf_62 rfl hp
      refine st_ic_ne dX8_sizeOf_53 61 (by decide) (fun c12 => ?_) (fun c12 => ?_)
      · refine st_iload_n dX8_sizeOf_61 rfl rfl ?_
        exact st_sub [.null, .null, .null, .null] ⟨Or.inl rfl, Or.inl rfl, Or.inl rfl, Or.inl rfl, trivial⟩ (kj11 _ (Eq.symm (if_neg c12)))
      · refine st_iload_n dX8_sizeOf_56 rfl rfl ?_
        refine st_ineg dX8_sizeOf_57 ?_
        refine st_goto dX8_sizeOf_58 62 (by decide) ?_
        exact st_sub [.null, .null, .null, .null] ⟨Or.inl rfl, Or.inl rfl, Or.inl rfl, Or.inl rfl, trivial⟩ (kj11 _ (Eq.symm (if_pos c12)))
    refine st_ic_ne dX8_sizeOf_22 31 (by decide) (fun c13 => ?_) (fun c13 => ?_)
    · replace e_j3 := (if_neg c13).symm.trans e_j3
      obtain rfl := Option.some.inj e_j3
      exact kj9
    · replace e_j3 := (if_pos c13).symm.trans e_j3
      refine st_aload_n dX8_sizeOf_25 rfl rfl ?_
      refine st_bipush dX8_sizeOf_26 (v := 12) (by decide) ?_
      obtain ⟨H2, e_H2, e_j3⟩ := bnd e_j3
      refine st_callV [.int 12] dX8_sizeOf_28 co_X8_began im_X8_began se_X8_began ml_RX8_325 rfl (by decide) rfl (rfl : classes[8]? = some (RX8, TX8, 30)) rfl (S := []) rfl (Nat.le_of_ble_eq_true rfl) (k_X8_began (by omega) 12 H _ e_H2 ?_)
      show V (D + 1) RX8 mdX8_sizeOf 31 [.ref 60, .int x1, .int v1, .null] [] H2 post
      obtain rfl := Option.some.inj e_j3
      exact kj9
  · replace h := (if_neg c8).symm.trans h
    refine st_aload_n dX8_sizeOf_14 rfl rfl ?_
    refine st_iload_n dX8_sizeOf_15 rfl rfl ?_
    obtain ⟨q7, e_q7, h⟩ := bnd h
    refine st_callV [.int x1] dX8_sizeOf_16 co_X8_flatSize im_X8_flatSize se_X8_flatSize ml_RX8_331 rfl (by decide) rfl (rfl : classes[8]? = some (RX8, TX8, 30)) rfl (S := []) rfl (Nat.le_of_ble_eq_true rfl) (k_X8_flatSize (by omega) x1 H _ e_q7 ?_)
    show V (D + 1) RX8 mdX8_sizeOf 19 [.ref 60, .int x1, .int v1, .null] [.int q7.1] q7.2 post
    obtain rfl := Option.some.inj h
    exact st_iret dX8_sizeOf_19 rfl hp
def f_X8_ask (x1 : Int32) (x2 : Int32) (H : Hp) : Option (Int32 × Hp) :=
  (pf H 60 0 0).bind fun H1 =>
  (f_X8_isProject x1 H1).bind fun v2 =>
  if v2 = 0 then
    some ((-1000001), H1)
  else
    (f_X8_in x2.toInt64 0 1).bind fun v3 =>
    if v3 = 0 then
      some ((-1000001), H1)
    else
      (pf H1 60 29 0).bind fun H4 =>
      (f_X8_lookAt 64 H4).bind fun H5 =>
      Option.bind (
        if x2 = 0 then
          (f_X8_sizeOf x1 H5).bind fun q6 =>
          some (q6.1, q6.2)
        else
          (f_X8_markOf x1 H5).bind fun q7 =>
          some (q7.1, q7.2)) fun j8 =>
      some (j8.1, j8.2)
set_option maxHeartbeats 4000000 in
set_option maxRecDepth 100000 in
theorem k_X8_ask {D : Nat} (hD : 5 ≤ D) (x1 : Int32) (x2 : Int32) (H : Hp) (q : Int32 × Hp) (h : f_X8_ask x1 x2 H = some q) {post : Option Value → Hp → Prop} (hp : post (some (.int q.1)) q.2) : Sem D mdX8_ask [.ref 60, .int x1, .int x2] H post := by
  obtain ⟨D, rfl⟩ : ∃ E, D = E + 1 := ⟨D - 1, by omega⟩
  refine sem_of (own := RX8) rfl pn_RX8 (Nat.le_of_ble_eq_true rfl) [.ref 60, .int x1, .int x2] ⟨Or.inr rfl, Or.inr rfl, Or.inr rfl, trivial⟩ ?_
  unfold f_X8_ask at h
  refine st_aload_n dX8_ask_0 rfl rfl ?_
  refine st_iconst dX8_ask_1 (v := 0) rfl ?_
  obtain ⟨H1, e_H1, h⟩ := bnd h
  refine pI8 dX8_ask_2 (by decide) rfl 0 (by decide) fl_RX8_62 rfl rfl rfl rfl e_H1 ?_
  refine st_aload_n dX8_ask_5 rfl rfl ?_
  refine st_iload_n dX8_ask_6 rfl rfl ?_
  obtain ⟨v2, e_v2, h⟩ := bnd h
  refine st_callV [.int x1] dX8_ask_7 co_X8_isProject im_X8_isProject se_X8_isProject ml_RX8_238 rfl (by decide) rfl (rfl : classes[8]? = some (RX8, TX8, 30)) rfl (S := []) rfl (Nat.le_of_ble_eq_true rfl) (k_X8_isProject (by omega) x1 H1 _ e_v2 ?_)
  show V (D + 1) RX8 mdX8_ask 10 [.ref 60, .int x1, .int x2] [.int v2] H1 post
  refine st_if_eq dX8_ask_10 23 (by decide) (fun c9 => ?_) (fun c9 => ?_)
  · replace h := (if_pos c9).symm.trans h
    refine st_ldc dX8_ask_23 cn_RX8_82 ?_
    obtain rfl := Option.some.inj h
    exact st_iret dX8_ask_25 rfl hp
  · replace h := (if_neg c9).symm.trans h
    refine st_iload_n dX8_ask_13 rfl rfl ?_
    refine st_i2l dX8_ask_14 ?_
    refine st_lconst dX8_ask_15 (v := 0) rfl ?_
    refine st_lconst dX8_ask_16 (v := 1) rfl ?_
    obtain ⟨v3, e_v3, h⟩ := bnd h
    refine st_callS [.long x2.toInt64, .long 0, .long 1] dX8_ask_17 co_X8_in sm_X8_in ml_RX8_72 rfl (S := []) rfl (Nat.le_of_ble_eq_true rfl) (k_X8_in (by omega) x2.toInt64 0 1 H1 _ e_v3 ?_)
    show V (D + 1) RX8 mdX8_ask 20 [.ref 60, .int x1, .int x2] [.int v3] H1 post
    refine st_if_ne dX8_ask_20 26 (by decide) (fun c10 => ?_) (fun c10 => ?_)
    · replace h := (if_neg c10).symm.trans h
      refine st_aload_n dX8_ask_26 rfl rfl ?_
      refine st_iconst dX8_ask_27 (v := 0) rfl ?_
      obtain ⟨H4, e_H4, h⟩ := bnd h
      refine pI8 dX8_ask_28 (by decide) rfl 29 (by decide) fl_RX8_322 rfl rfl rfl rfl e_H4 ?_
      refine st_aload_n dX8_ask_31 rfl rfl ?_
      refine st_aload_n dX8_ask_32 rfl rfl ?_
      refine gR8 dX8_ask_33 (by decide) rfl 5 (by decide) fl_RX8_19 rfl 64 rfl ?_
      obtain ⟨H5, e_H5, h⟩ := bnd h
      refine st_callV [.ref 64] dX8_ask_36 co_X8_lookAt im_X8_lookAt se_X8_lookAt ml_RX8_219 rfl (by decide) rfl (rfl : classes[8]? = some (RX8, TX8, 30)) rfl (S := []) rfl (Nat.le_of_ble_eq_true rfl) (k_X8_lookAt (by omega) RC64 H4 _ e_H5 ?_)
      show V (D + 1) RX8 mdX8_ask 39 [.ref 60, .int x1, .int x2] [] H5 post
      refine st_iload_n dX8_ask_39 rfl rfl ?_
      obtain ⟨j8, e_j8, h⟩ := bnd h
      have kj11 : V (D + 1) RX8 mdX8_ask 56 [.null, .null, .null] [.int j8.1] j8.2 post := by
        obtain rfl := Option.some.inj h
        exact st_iret dX8_ask_56 rfl hp
      refine st_if_ne dX8_ask_40 51 (by decide) (fun c12 => ?_) (fun c12 => ?_)
      · replace e_j8 := (if_neg c12).symm.trans e_j8
        refine st_aload_n dX8_ask_51 rfl rfl ?_
        refine st_iload_n dX8_ask_52 rfl rfl ?_
        obtain ⟨q7, e_q7, e_j8⟩ := bnd e_j8
        refine st_callV [.int x1] dX8_ask_53 co_X8_markOf im_X8_markOf se_X8_markOf ml_RX8_334 rfl (by decide) rfl (rfl : classes[8]? = some (RX8, TX8, 30)) rfl (S := []) rfl (Nat.le_of_ble_eq_true rfl) (k_X8_markOf (by omega) x1 H5 _ e_q7 ?_)
        show V (D + 1) RX8 mdX8_ask 56 [.ref 60, .int x1, .int x2] [.int q7.1] q7.2 post
        obtain rfl := Option.some.inj e_j8
        exact st_sub [.null, .null, .null] ⟨Or.inl rfl, Or.inl rfl, Or.inl rfl, trivial⟩ kj11
      · replace e_j8 := (if_pos c12).symm.trans e_j8
        refine st_aload_n dX8_ask_43 rfl rfl ?_
        refine st_iload_n dX8_ask_44 rfl rfl ?_
        obtain ⟨q6, e_q6, e_j8⟩ := bnd e_j8
        refine st_callV [.int x1] dX8_ask_45 co_X8_sizeOf im_X8_sizeOf se_X8_sizeOf ml_RX8_337 rfl (by decide) rfl (rfl : classes[8]? = some (RX8, TX8, 30)) rfl (S := []) rfl (Nat.le_of_ble_eq_true rfl) (k_X8_sizeOf (by omega) x1 H5 _ e_q6 ?_)
        show V (D + 1) RX8 mdX8_ask 48 [.ref 60, .int x1, .int x2] [.int q6.1] q6.2 post
        refine st_goto dX8_ask_48 56 (by decide) ?_
        obtain rfl := Option.some.inj e_j8
        exact st_sub [.null, .null, .null] ⟨Or.inl rfl, Or.inl rfl, Or.inl rfl, trivial⟩ kj11
    · replace h := (if_pos c10).symm.trans h
      refine st_ldc dX8_ask_23 cn_RX8_82 ?_
      obtain rfl := Option.some.inj h
      exact st_iret dX8_ask_25 rfl hp
def f_X8_trace (x1 : Int32) (H : Hp) : Option (Int32 × Hp) :=
  (pf H 60 0 0).bind fun H1 =>
  (f_X8_in x1.toInt64 0 ((H1 60 29) - 1).toInt64).bind fun v2 =>
  Option.bind (
    if v2 = 0 then
      some (-1000000)
    else
      (ag H1 77 16 x1).bind fun v3 =>
      some v3) fun j4 =>
  some (j4, H1)
set_option maxHeartbeats 4000000 in
set_option maxRecDepth 100000 in
theorem k_X8_trace {D : Nat} (hD : 1 ≤ D) (x1 : Int32) (H : Hp) (q : Int32 × Hp) (h : f_X8_trace x1 H = some q) {post : Option Value → Hp → Prop} (hp : post (some (.int q.1)) q.2) : Sem D mdX8_trace [.ref 60, .int x1] H post := by
  obtain ⟨D, rfl⟩ : ∃ E, D = E + 1 := ⟨D - 1, by omega⟩
  refine sem_of (own := RX8) rfl pn_RX8 (Nat.le_of_ble_eq_true rfl) [.ref 60, .int x1] ⟨Or.inr rfl, Or.inr rfl, trivial⟩ ?_
  unfold f_X8_trace at h
  refine st_aload_n dX8_trace_0 rfl rfl ?_
  refine st_iconst dX8_trace_1 (v := 0) rfl ?_
  obtain ⟨H1, e_H1, h⟩ := bnd h
  refine pI8 dX8_trace_2 (by decide) rfl 0 (by decide) fl_RX8_62 rfl rfl rfl rfl e_H1 ?_
  refine st_iload_n dX8_trace_5 rfl rfl ?_
  refine st_i2l dX8_trace_6 ?_
  refine st_lconst dX8_trace_7 (v := 0) rfl ?_
  refine st_aload_n dX8_trace_8 rfl rfl ?_
  refine gI8 dX8_trace_9 (by decide) rfl 29 (by decide) fl_RX8_322 rfl rfl ?_
  refine st_iconst dX8_trace_12 (v := 1) rfl ?_
  refine st_isub dX8_trace_13 ?_
  refine st_i2l dX8_trace_14 ?_
  obtain ⟨v2, e_v2, h⟩ := bnd h
  refine st_callS [.long x1.toInt64, .long 0, .long ((H1 60 29) - 1).toInt64] dX8_trace_15 co_X8_in sm_X8_in ml_RX8_72 rfl (S := []) rfl (Nat.le_of_ble_eq_true rfl) (k_X8_in (by omega) x1.toInt64 0 ((H1 60 29) - 1).toInt64 H1 _ e_v2 ?_)
  show V (D + 1) RX8 mdX8_trace 18 [.ref 60, .int x1] [.int v2] H1 post
  obtain ⟨j4, e_j4, h⟩ := bnd h
  have kj5 : V (D + 1) RX8 mdX8_trace 32 [.null, .null] [.int j4] H1 post := by
    obtain rfl := Option.some.inj h
    exact st_iret dX8_trace_32 rfl hp
  refine st_if_eq dX8_trace_18 30 (by decide) (fun c6 => ?_) (fun c6 => ?_)
  · replace e_j4 := (if_pos c6).symm.trans e_j4
    refine st_ldc dX8_trace_30 cn_RX8_105 ?_
    obtain rfl := Option.some.inj e_j4
    exact st_sub [.null, .null] ⟨Or.inl rfl, Or.inl rfl, trivial⟩ kj5
  · replace e_j4 := (if_neg c6).symm.trans e_j4
    refine st_aload_n dX8_trace_21 rfl rfl ?_
    refine gR8 dX8_trace_22 (by decide) rfl 28 (by decide) fl_RX8_59 rfl 77 rfl ?_
    refine st_iload_n dX8_trace_25 rfl rfl ?_
    obtain ⟨v3, e_v3, e_j4⟩ := bnd e_j4
    refine st_iald dX8_trace_26 (by decide) rfl v3 e_v3 ?_
    refine st_goto dX8_trace_27 32 (by decide) ?_
    obtain rfl := Option.some.inj e_j4
    exact st_sub [.null, .null] ⟨Or.inl rfl, Or.inl rfl, trivial⟩ kj5
def f_X8_count_l54 (H : Hp) : Nat → Int32 → Int32 → Option (Int32)
  | 0, _, _ => none
  | n + 1, x2, x3 =>
    if 8 ≤ x3 then
      some x2
    else
      (ag H 61 8 x3).bind fun v2 =>
      f_X8_count_l54 H n (x2 + ((if v2 < 0 then 0 else 1) : Int32)) (x3 + 1)
def f_X8_count_l108 (H : Hp) : Nat → Int32 → Int32 → Option (Int32)
  | 0, _, _ => none
  | n + 1, x2, x3 =>
    (ag H 64 80 3).bind fun v11 =>
    if v11 ≤ x3 then
      some x2
    else
      (f_X8_of 64 x3 2 H).bind fun v12 =>
      f_X8_count_l108 H n (x2 + v12) (x3 + 1)
def f_X8_count (x1 : Int32) (H : Hp) : Option (Int32 × Hp) :=
  (pf H 60 0 0).bind fun H1 =>
  if x1 = 0 then
    (f_X8_count_l54 H1 fuel 0 0).bind fun l7 =>
    some (l7, H1)
  else
  if x1 = 1 then
    (ag H1 64 80 0).bind fun v8 =>
    some (v8, H1)
  else
  if x1 = 2 then
    (ag H1 64 80 3).bind fun v9 =>
    some (v9, H1)
  else
  if x1 = 3 then
    (ag H1 64 80 1).bind fun v10 =>
    some (v10, H1)
  else
  if x1 = 4 then
    (f_X8_count_l108 H1 fuel 0 0).bind fun l14 =>
    some (l14, H1)
  else
  if x1 = 5 then
    some ((H1 60 9), H1)
  else
  if x1 = 6 then
    some ((H1 60 11), H1)
  else
    some ((-1000001), H1)
set_option maxHeartbeats 4000000 in
set_option maxRecDepth 100000 in
theorem k_X8_count_l54 {D : Nat} (hD : 1 ≤ (D + 1)) (H : Hp) {post : Option Value → Hp → Prop} : ∀ (n : Nat) (x2 : Int32) (x3 : Int32) (q : Int32), f_X8_count_l54 H n x2 x3 = some q → V (D + 1) RX8 mdX8_count 83 [.null, .null, .int q, .null] [] H post → V (D + 1) RX8 mdX8_count 54 [.ref 60, .null, .int x2, .int x3] [] H post := by
  intro n
  induction n with
  | zero => intro x2 x3 q h; simp [f_X8_count_l54] at h
  | succ n ih =>
    intro x2 x3 q h k1
    rw [f_X8_count_l54] at h
    refine st_iload_n dX8_count_54 rfl rfl ?_
    refine st_bipush dX8_count_55 (v := 8) (by decide) ?_
    refine st_ic_ge dX8_count_57 83 (by decide) (fun c3 => ?_) (fun c3 => ?_)
    · replace h := (if_pos c3).symm.trans h
      obtain rfl := Option.some.inj h
      exact st_sub [.null, .null, .int x2, .null] ⟨Or.inl rfl, Or.inl rfl, Or.inr rfl, Or.inl rfl, trivial⟩ k1
    · replace h := (if_neg c3).symm.trans h
      refine st_iload_n dX8_count_60 rfl rfl ?_
      refine st_aload_n dX8_count_61 rfl rfl ?_
      refine gR8 dX8_count_62 (by decide) rfl 2 (by decide) fl_RX8_7 rfl 61 rfl ?_
      refine st_iload_n dX8_count_65 rfl rfl ?_
      obtain ⟨v2, e_v2, h⟩ := bnd h
      refine st_iald dX8_count_66 (by decide) rfl v2 e_v2 ?_
      have kj5 : ∀ z4 : Int32, z4 = ((if v2 < 0 then 0 else 1) : Int32) → V (D + 1) RX8 mdX8_count 75 [.ref 60, .null, .null, .int x3] [.int z4, .int x2] H post := by
        intro z4 ez4
        subst ez4
        refine st_iadd dX8_count_75 ?_
        refine st_istore_n dX8_count_76 rfl (by decide) [.ref 60, .null, .int (x2 + ((if v2 < 0 then 0 else 1) : Int32)), .int x3] rfl ?_
        refine st_iinc dX8_count_77 rfl (v := (x3 + 1)) rfl (by decide) [.ref 60, .null, .int (x2 + ((if v2 < 0 then 0 else 1) : Int32)), .int (x3 + 1)] rfl ?_
        refine st_goto dX8_count_80 54 (by decide) ?_
        exact ih (x2 + ((if v2 < 0 then 0 else 1) : Int32)) (x3 + 1) q h k1
      refine st_if_lt dX8_count_67 74 (by decide) (fun c6 => ?_) (fun c6 => ?_)
      · refine st_iconst dX8_count_74 (v := 0) rfl ?_
        exact st_sub [.ref 60, .null, .null, .int x3] ⟨Or.inr rfl, Or.inl rfl, Or.inl rfl, Or.inr rfl, trivial⟩ (kj5 _ (Eq.symm (if_pos c6)))
      · refine st_iconst dX8_count_70 (v := 1) rfl ?_
        refine st_goto dX8_count_71 75 (by decide) ?_
        exact st_sub [.ref 60, .null, .null, .int x3] ⟨Or.inr rfl, Or.inl rfl, Or.inl rfl, Or.inr rfl, trivial⟩ (kj5 _ (Eq.symm (if_neg c6)))
set_option maxHeartbeats 4000000 in
set_option maxRecDepth 100000 in
theorem k_X8_count_l108 {D : Nat} (hD : 1 ≤ (D + 1)) (H : Hp) {post : Option Value → Hp → Prop} : ∀ (n : Nat) (x2 : Int32) (x3 : Int32) (q : Int32), f_X8_count_l108 H n x2 x3 = some q → V (D + 1) RX8 mdX8_count 136 [.null, .null, .int q, .null] [] H post → V (D + 1) RX8 mdX8_count 108 [.ref 60, .null, .int x2, .int x3] [] H post := by
  intro n
  induction n with
  | zero => intro x2 x3 q h; simp [f_X8_count_l108] at h
  | succ n ih =>
    intro x2 x3 q h k1
    rw [f_X8_count_l108] at h
    refine st_iload_n dX8_count_108 rfl rfl ?_
    refine st_aload_n dX8_count_109 rfl rfl ?_
    refine gR8 dX8_count_110 (by decide) rfl 5 (by decide) fl_RX8_19 rfl 64 rfl ?_
    refine st_iconst dX8_count_113 (v := 3) rfl ?_
    obtain ⟨v11, e_v11, h⟩ := bnd h
    refine st_iald dX8_count_114 (by decide) rfl v11 e_v11 ?_
    refine st_ic_ge dX8_count_115 136 (by decide) (fun c13 => ?_) (fun c13 => ?_)
    · replace h := (if_pos c13).symm.trans h
      obtain rfl := Option.some.inj h
      exact st_sub [.null, .null, .int x2, .null] ⟨Or.inl rfl, Or.inl rfl, Or.inr rfl, Or.inl rfl, trivial⟩ k1
    · replace h := (if_neg c13).symm.trans h
      refine st_iload_n dX8_count_118 rfl rfl ?_
      refine st_aload_n dX8_count_119 rfl rfl ?_
      refine gR8 dX8_count_120 (by decide) rfl 5 (by decide) fl_RX8_19 rfl 64 rfl ?_
      refine st_iload_n dX8_count_123 rfl rfl ?_
      refine st_iconst dX8_count_124 (v := 2) rfl ?_
      obtain ⟨v12, e_v12, h⟩ := bnd h
      refine st_callS [.ref 64, .int x3, .int 2] dX8_count_125 co_X8_of sm_X8_of ml_RX8_183 rfl (S := [.int x2]) rfl (Nat.le_of_ble_eq_true rfl) (k_X8_of (by omega) RC64 x3 2 H _ e_v12 ?_)
      show V (D + 1) RX8 mdX8_count 128 [.ref 60, .null, .int x2, .int x3] [.int v12, .int x2] H post
      refine st_iadd dX8_count_128 ?_
      refine st_istore_n dX8_count_129 rfl (by decide) [.ref 60, .null, .int (x2 + v12), .int x3] rfl ?_
      refine st_iinc dX8_count_130 rfl (v := (x3 + 1)) rfl (by decide) [.ref 60, .null, .int (x2 + v12), .int (x3 + 1)] rfl ?_
      refine st_goto dX8_count_133 108 (by decide) ?_
      exact ih (x2 + v12) (x3 + 1) q h k1
set_option maxHeartbeats 4000000 in
set_option maxRecDepth 100000 in
theorem k_X8_count {D : Nat} (hD : 1 ≤ D) (x1 : Int32) (H : Hp) (q : Int32 × Hp) (h : f_X8_count x1 H = some q) {post : Option Value → Hp → Prop} (hp : post (some (.int q.1)) q.2) : Sem D mdX8_count [.ref 60, .int x1] H post := by
  obtain ⟨D, rfl⟩ : ∃ E, D = E + 1 := ⟨D - 1, by omega⟩
  refine sem_of (own := RX8) rfl pn_RX8 (Nat.le_of_ble_eq_true rfl) [.ref 60, .int x1, .null, .null] ⟨Or.inr rfl, Or.inr rfl, rfl, rfl, trivial⟩ ?_
  unfold f_X8_count at h
  refine st_aload_n dX8_count_0 rfl rfl ?_
  refine st_iconst dX8_count_1 (v := 0) rfl ?_
  obtain ⟨H1, e_H1, h⟩ := bnd h
  refine pI8 dX8_count_2 (by decide) rfl 0 (by decide) fl_RX8_62 rfl rfl rfl rfl e_H1 ?_
  refine st_iconst dX8_count_5 (v := 0) rfl ?_
  refine st_istore_n dX8_count_6 rfl (by decide) [.ref 60, .int x1, .int 0, .null] rfl ?_
  refine st_iload_n dX8_count_7 rfl rfl ?_
  by_cases s15 : x1 = 0
  · replace h := (if_pos s15).symm.trans h
    refine st_tabIn dX8_count_8 (by rw [s15]; decide) (by rw [s15]; decide) (by rw [s15] <;> rfl) 52 (by decide) ?_
    refine st_iconst dX8_count_52 (v := 0) rfl ?_
    refine st_istore_n dX8_count_53 rfl (by decide) [.ref 60, .int x1, .int 0, .int 0] rfl ?_
    refine st_sub [.ref 60, .null, .int 0, .int 0] ⟨Or.inr rfl, Or.inl rfl, Or.inr rfl, Or.inr rfl, trivial⟩ ?_
    obtain ⟨l7, e_l7, h⟩ := bnd h
    refine k_X8_count_l54 (by omega) H1 fuel 0 0 _ e_l7 ?_
    refine st_iload_n dX8_count_83 rfl rfl ?_
    obtain rfl := Option.some.inj h
    exact st_iret dX8_count_84 rfl hp
  · replace h := (if_neg s15).symm.trans h
    by_cases s16 : x1 = 1
    · replace h := (if_pos s16).symm.trans h
      refine st_tabIn dX8_count_8 (by rw [s16]; decide) (by rw [s16]; decide) (by rw [s16] <;> rfl) 85 (by decide) ?_
      refine st_aload_n dX8_count_85 rfl rfl ?_
      refine gR8 dX8_count_86 (by decide) rfl 5 (by decide) fl_RX8_19 rfl 64 rfl ?_
      refine st_iconst dX8_count_89 (v := 0) rfl ?_
      obtain ⟨v8, e_v8, h⟩ := bnd h
      refine st_iald dX8_count_90 (by decide) rfl v8 e_v8 ?_
      obtain rfl := Option.some.inj h
      exact st_iret dX8_count_91 rfl hp
    · replace h := (if_neg s16).symm.trans h
      by_cases s17 : x1 = 2
      · replace h := (if_pos s17).symm.trans h
        refine st_tabIn dX8_count_8 (by rw [s17]; decide) (by rw [s17]; decide) (by rw [s17] <;> rfl) 92 (by decide) ?_
        refine st_aload_n dX8_count_92 rfl rfl ?_
        refine gR8 dX8_count_93 (by decide) rfl 5 (by decide) fl_RX8_19 rfl 64 rfl ?_
        refine st_iconst dX8_count_96 (v := 3) rfl ?_
        obtain ⟨v9, e_v9, h⟩ := bnd h
        refine st_iald dX8_count_97 (by decide) rfl v9 e_v9 ?_
        obtain rfl := Option.some.inj h
        exact st_iret dX8_count_98 rfl hp
      · replace h := (if_neg s17).symm.trans h
        by_cases s18 : x1 = 3
        · replace h := (if_pos s18).symm.trans h
          refine st_tabIn dX8_count_8 (by rw [s18]; decide) (by rw [s18]; decide) (by rw [s18] <;> rfl) 99 (by decide) ?_
          refine st_aload_n dX8_count_99 rfl rfl ?_
          refine gR8 dX8_count_100 (by decide) rfl 5 (by decide) fl_RX8_19 rfl 64 rfl ?_
          refine st_iconst dX8_count_103 (v := 1) rfl ?_
          obtain ⟨v10, e_v10, h⟩ := bnd h
          refine st_iald dX8_count_104 (by decide) rfl v10 e_v10 ?_
          obtain rfl := Option.some.inj h
          exact st_iret dX8_count_105 rfl hp
        · replace h := (if_neg s18).symm.trans h
          by_cases s19 : x1 = 4
          · replace h := (if_pos s19).symm.trans h
            refine st_tabIn dX8_count_8 (by rw [s19]; decide) (by rw [s19]; decide) (by rw [s19] <;> rfl) 106 (by decide) ?_
            refine st_iconst dX8_count_106 (v := 0) rfl ?_
            refine st_istore_n dX8_count_107 rfl (by decide) [.ref 60, .int x1, .int 0, .int 0] rfl ?_
            refine st_sub [.ref 60, .null, .int 0, .int 0] ⟨Or.inr rfl, Or.inl rfl, Or.inr rfl, Or.inr rfl, trivial⟩ ?_
            obtain ⟨l14, e_l14, h⟩ := bnd h
            refine k_X8_count_l108 (by omega) H1 fuel 0 0 _ e_l14 ?_
            refine st_iload_n dX8_count_136 rfl rfl ?_
            obtain rfl := Option.some.inj h
            exact st_iret dX8_count_137 rfl hp
          · replace h := (if_neg s19).symm.trans h
            by_cases s20 : x1 = 5
            · replace h := (if_pos s20).symm.trans h
              refine st_tabIn dX8_count_8 (by rw [s20]; decide) (by rw [s20]; decide) (by rw [s20] <;> rfl) 138 (by decide) ?_
              refine st_aload_n dX8_count_138 rfl rfl ?_
              refine gI8 dX8_count_139 (by decide) rfl 9 (by decide) fl_RX8_171 rfl rfl ?_
              obtain rfl := Option.some.inj h
              exact st_iret dX8_count_142 rfl hp
            · replace h := (if_neg s20).symm.trans h
              by_cases s21 : x1 = 6
              · replace h := (if_pos s21).symm.trans h
                refine st_tabIn dX8_count_8 (by rw [s21]; decide) (by rw [s21]; decide) (by rw [s21] <;> rfl) 143 (by decide) ?_
                refine st_aload_n dX8_count_143 rfl rfl ?_
                refine gI8 dX8_count_144 (by decide) rfl 11 (by decide) fl_RX8_89 rfl rfl ?_
                obtain rfl := Option.some.inj h
                exact st_iret dX8_count_147 rfl hp
              · replace h := (if_neg s21).symm.trans h
                have ts15 := lv_neT s15 (a := 0) (by decide)
                have ts16 := lv_neT s16 (a := 1) (by decide)
                have ts17 := lv_neT s17 (a := 2) (by decide)
                have ts18 := lv_neT s18 (a := 3) (by decide)
                have ts19 := lv_neT s19 (a := 4) (by decide)
                have ts20 := lv_neT s20 (a := 5) (by decide)
                have ts21 := lv_neT s21 (a := 6) (by decide)
                refine st_tabOut dX8_count_8 (by omega) 148 (by decide) ?_
                refine st_ldc dX8_count_148 cn_RX8_82 ?_
                obtain rfl := Option.some.inj h
                exact st_iret dX8_count_150 rfl hp
def f_X8_status (H : Hp) : Option (Int32 × Hp) :=
  (pf H 60 0 0).bind fun H1 =>
  some ((H1 60 1), H1)
set_option maxHeartbeats 4000000 in
set_option maxRecDepth 100000 in
theorem k_X8_status {D : Nat} (hD : 0 ≤ D) (H : Hp) (q : Int32 × Hp) (h : f_X8_status H = some q) {post : Option Value → Hp → Prop} (hp : post (some (.int q.1)) q.2) : Sem D mdX8_status [.ref 60] H post := by
  refine sem_of (own := RX8) rfl pn_RX8 (Nat.le_of_ble_eq_true rfl) [.ref 60] ⟨Or.inr rfl, trivial⟩ ?_
  unfold f_X8_status at h
  refine st_aload_n dX8_status_0 rfl rfl ?_
  refine st_iconst dX8_status_1 (v := 0) rfl ?_
  obtain ⟨H1, e_H1, h⟩ := bnd h
  refine pI8 dX8_status_2 (by decide) rfl 0 (by decide) fl_RX8_62 rfl rfl rfl rfl e_H1 ?_
  refine st_aload_n dX8_status_5 rfl rfl ?_
  refine gI8 dX8_status_6 (by decide) rfl 1 (by decide) fl_RX8_66 rfl rfl ?_
  obtain rfl := Option.some.inj h
  exact st_iret dX8_status_9 rfl hp
