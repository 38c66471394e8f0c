def f_X8_rowFound (x1 : Int32) (x2 : Int32) (x3 : Int32) (H : Hp) : Option (Int32 × Hp) :=
  (ag H 61 8 x1).bind fun v1 =>
  if 0 ≤ v1 then
    if x2 < 0 then
      (f_X8_finding 2 H).bind fun q2 =>
      some (q2.1, q2.2)
    else
      (ag H 62 8 x1).bind fun v3 =>
      if (x2.toInt64 + x3.toInt64) ≤ v3.toInt64 then
        (pf H 60 1 0).bind fun H4 =>
        some (0, H4)
      else
        (f_X8_finding 2 H).bind fun q5 =>
        some (q5.1, q5.2)
  else
    (f_X8_finding 1 H).bind fun q6 =>
    some (q6.1, q6.2)
set_option maxHeartbeats 4000000 in
set_option maxRecDepth 100000 in
theorem k_X8_rowFound {D : Nat} (hD : 1 ≤ D) (x1 : Int32) (x2 : Int32) (x3 : Int32) (H : Hp) (q : Int32 × Hp) (h : f_X8_rowFound x1 x2 x3 H = some q) {post : Option Value → Hp → Prop} (hp : post (some (.int q.1)) q.2) : Sem D mdX8_rowFound [.ref 60, .int x1, .int x2, .int x3] H post := by
  obtain ⟨D, rfl⟩ : ∃ E, D = E + 1 := ⟨D - 1, by omega⟩
  refine sem_of (own := RX8) rfl pn_RX8 (Nat.le_of_ble_eq_true rfl) [.ref 60, .int x1, .int x2, .int x3] ⟨Or.inr rfl, Or.inr rfl, Or.inr rfl, Or.inr rfl, trivial⟩ ?_
  unfold f_X8_rowFound at h
  refine st_aload_n dX8_rowFound_0 rfl rfl ?_
  refine gR8 dX8_rowFound_1 (by decide) rfl 2 (by decide) fl_RX8_7 rfl 61 rfl ?_
  refine st_iload_n dX8_rowFound_4 rfl rfl ?_
  obtain ⟨v1, e_v1, h⟩ := bnd h
  refine st_iald dX8_rowFound_5 (by decide) rfl v1 e_v1 ?_
  refine st_if_ge dX8_rowFound_6 15 (by decide) (fun c7 => ?_) (fun c7 => ?_)
  · replace h := (if_pos c7).symm.trans h
    refine st_iload_n dX8_rowFound_15 rfl rfl ?_
    refine st_if_lt dX8_rowFound_16 35 (by decide) (fun c8 => ?_) (fun c8 => ?_)
    · replace h := (if_pos c8).symm.trans h
      refine st_aload_n dX8_rowFound_35 rfl rfl ?_
      refine st_iconst dX8_rowFound_36 (v := 2) rfl ?_
      obtain ⟨q2, e_q2, h⟩ := bnd h
      refine st_callV [.int 2] dX8_rowFound_37 co_X8_finding im_X8_finding se_X8_finding ml_RX8_83 rfl (by decide) rfl (rfl : classes[8]? = some (RX8, TX8, 30)) rfl (S := []) rfl (Nat.le_of_ble_eq_true rfl) (k_X8_finding (by omega) 2 H _ e_q2 ?_)
      show V (D + 1) RX8 mdX8_rowFound 40 [.ref 60, .int x1, .int x2, .int x3] [.int q2.1] q2.2 post
      obtain rfl := Option.some.inj h
      exact st_iret dX8_rowFound_40 rfl hp
    · replace h := (if_neg c8).symm.trans h
      refine st_iload_n dX8_rowFound_19 rfl rfl ?_
      refine st_i2l dX8_rowFound_20 ?_
      refine st_iload_n dX8_rowFound_21 rfl rfl ?_
      refine st_i2l dX8_rowFound_22 ?_
      refine st_ladd dX8_rowFound_23 ?_
      refine st_aload_n dX8_rowFound_24 rfl rfl ?_
      refine gR8 dX8_rowFound_25 (by decide) rfl 3 (by decide) fl_RX8_13 rfl 62 rfl ?_
      refine st_iload_n dX8_rowFound_28 rfl rfl ?_
      obtain ⟨v3, e_v3, h⟩ := bnd h
      refine st_iald dX8_rowFound_29 (by decide) rfl v3 e_v3 ?_
      refine st_i2l dX8_rowFound_30 ?_
      refine st_lcmp dX8_rowFound_31 ?_
      refine st_if_le dX8_rowFound_32 41 (by decide) (fun c9 => ?_) (fun c9 => ?_)
      · replace c9 := (lg_cmp_le (x2.toInt64 + x3.toInt64) v3.toInt64).mp c9
        replace h := (if_pos c9).symm.trans h
        refine st_aload_n dX8_rowFound_41 rfl rfl ?_
        refine st_iconst dX8_rowFound_42 (v := 0) rfl ?_
        obtain ⟨H4, e_H4, h⟩ := bnd h
        refine pI8 dX8_rowFound_43 (by decide) rfl 1 (by decide) fl_RX8_66 rfl rfl rfl rfl e_H4 ?_
        refine st_iconst dX8_rowFound_46 (v := 0) rfl ?_
        obtain rfl := Option.some.inj h
        exact st_iret dX8_rowFound_47 rfl hp
      · replace c9 := (not_congr (lg_cmp_le (x2.toInt64 + x3.toInt64) v3.toInt64)).mp c9
        replace h := (if_neg c9).symm.trans h
        refine st_aload_n dX8_rowFound_35 rfl rfl ?_
        refine st_iconst dX8_rowFound_36 (v := 2) rfl ?_
        obtain ⟨q5, e_q5, h⟩ := bnd h
        refine st_callV [.int 2] dX8_rowFound_37 co_X8_finding im_X8_finding se_X8_finding ml_RX8_83 rfl (by decide) rfl (rfl : classes[8]? = some (RX8, TX8, 30)) rfl (S := []) rfl (Nat.le_of_ble_eq_true rfl) (k_X8_finding (by omega) 2 H _ e_q5 ?_)
        show V (D + 1) RX8 mdX8_rowFound 40 [.ref 60, .int x1, .int x2, .int x3] [.int q5.1] q5.2 post
        obtain rfl := Option.some.inj h
        exact st_iret dX8_rowFound_40 rfl hp
  · replace h := (if_neg c7).symm.trans h
    refine st_aload_n dX8_rowFound_9 rfl rfl ?_
    refine st_iconst dX8_rowFound_10 (v := 1) rfl ?_
    obtain ⟨q6, e_q6, h⟩ := bnd h
    refine st_callV [.int 1] dX8_rowFound_11 co_X8_finding im_X8_finding se_X8_finding ml_RX8_83 rfl (by decide) rfl (rfl : classes[8]? = some (RX8, TX8, 30)) rfl (S := []) rfl (Nat.le_of_ble_eq_true rfl) (k_X8_finding (by omega) 1 H _ e_q6 ?_)
    show V (D + 1) RX8 mdX8_rowFound 14 [.ref 60, .int x1, .int x2, .int x3] [.int q6.1] q6.2 post
    obtain rfl := Option.some.inj h
    exact st_iret dX8_rowFound_14 rfl hp
def f_X8_isPaidSo_l4 (H : Hp) (x1 : Int32) : Nat → Int32 → Int32 → Option (Int32)
  | 0, _, _ => none
  | n + 1, x2, x3 =>
    (ag H 64 80 0).bind fun v1 =>
    if v1 ≤ x3 then
      some x2
    else
      Option.bind (
        if x2 = 0 then
          some 0
        else
          (ag H 73 6 x3).bind fun v2 =>
          (ag H 63 320 (x1 + x3)).bind fun v3 =>
          if v2 = v3 then
            some 1
          else
            some 0) fun j4 =>
      f_X8_isPaidSo_l4 H x1 n j4 (x3 + 1)
def f_X8_isPaidSo (x1 : Int32) (H : Hp) : Option (Int32) :=
  (f_X8_isPaidSo_l4 H x1 fuel 1 0).bind fun l9 =>
  zr l9
set_option maxHeartbeats 4000000 in
set_option maxRecDepth 100000 in
theorem k_X8_isPaidSo_l4 {D : Nat} (hD : 0 ≤ D) (H : Hp) (x1 : Int32) {post : Option Value → Hp → Prop} : ∀ (n : Nat) (x2 : Int32) (x3 : Int32) (q : Int32), f_X8_isPaidSo_l4 H x1 n x2 x3 = some q → V D RX8 mdX8_isPaidSo 47 [.null, .null, .int q, .null] [] H post → V D RX8 mdX8_isPaidSo 4 [.ref 60, .int x1, .int x2, .int x3] [] H post := by
  intro n
  induction n with
  | zero => intro x2 x3 q h; simp [f_X8_isPaidSo_l4] at h
  | succ n ih =>
    intro x2 x3 q h k1
    rw [f_X8_isPaidSo_l4] at h
    refine st_iload_n dX8_isPaidSo_4 rfl rfl ?_
    refine st_aload_n dX8_isPaidSo_5 rfl rfl ?_
    refine gR8 dX8_isPaidSo_6 (by decide) rfl 5 (by decide) fl_RX8_19 rfl 64 rfl ?_
    refine st_iconst dX8_isPaidSo_9 (v := 0) rfl ?_
    obtain ⟨v1, e_v1, h⟩ := bnd h
    refine st_iald dX8_isPaidSo_10 (by decide) rfl v1 e_v1 ?_
    refine st_ic_ge dX8_isPaidSo_11 47 (by decide) (fun c5 => ?_) (fun c5 => ?_)
    · replace h := (if_pos c5).symm.trans h
      obtain rfl := Option.some.inj h
      exact st_sub [.null, .null, .int x2, .null] ⟨Or.inl rfl, Or.inl rfl, Or.inr rfl, Or.inl rfl, trivial⟩ k1
    · replace h := (if_neg c5).symm.trans h
      refine st_iload_n dX8_isPaidSo_14 rfl rfl ?_
      obtain ⟨j4, e_j4, h⟩ := bnd h
      have kj6 : V D RX8 mdX8_isPaidSo 40 [.ref 60, .int x1, .null, .int x3] [.int j4] H post := by
        refine st_istore_n dX8_isPaidSo_40 rfl (by decide) [.ref 60, .int x1, .int j4, .int x3] rfl ?_
        refine st_iinc dX8_isPaidSo_41 rfl (v := (x3 + 1)) rfl (by decide) [.ref 60, .int x1, .int j4, .int (x3 + 1)] rfl ?_
        refine st_goto dX8_isPaidSo_44 4 (by decide) ?_
        exact ih j4 (x3 + 1) q h k1
      refine st_if_eq dX8_isPaidSo_15 39 (by decide) (fun c7 => ?_) (fun c7 => ?_)
      · replace e_j4 := (if_pos c7).symm.trans e_j4
        refine st_iconst dX8_isPaidSo_39 (v := 0) rfl ?_
        obtain rfl := Option.some.inj e_j4
        exact st_sub [.ref 60, .int x1, .null, .int x3] ⟨Or.inr rfl, Or.inr rfl, Or.inl rfl, Or.inr rfl, trivial⟩ kj6
      · replace e_j4 := (if_neg c7).symm.trans e_j4
        refine st_aload_n dX8_isPaidSo_18 rfl rfl ?_
        refine gR8 dX8_isPaidSo_19 (by decide) rfl 23 (by decide) fl_RX8_46 rfl 73 rfl ?_
        refine st_iload_n dX8_isPaidSo_22 rfl rfl ?_
        obtain ⟨v2, e_v2, e_j4⟩ := bnd e_j4
        refine st_iald dX8_isPaidSo_23 (by decide) rfl v2 e_v2 ?_
        refine st_aload_n dX8_isPaidSo_24 rfl rfl ?_
        refine gR8 dX8_isPaidSo_25 (by decide) rfl 4 (by decide) fl_RX8_16 rfl 63 rfl ?_
        refine st_iload_n dX8_isPaidSo_28 rfl rfl ?_
        refine st_iload_n dX8_isPaidSo_29 rfl rfl ?_
        refine st_iadd dX8_isPaidSo_30 ?_
        obtain ⟨v3, e_v3, e_j4⟩ := bnd e_j4
        refine st_iald dX8_isPaidSo_31 (by decide) rfl v3 e_v3 ?_
        refine st_ic_ne dX8_isPaidSo_32 39 (by decide) (fun c8 => ?_) (fun c8 => ?_)
        · replace e_j4 := (if_neg c8).symm.trans e_j4
          refine st_iconst dX8_isPaidSo_39 (v := 0) rfl ?_
          obtain rfl := Option.some.inj e_j4
          exact st_sub [.ref 60, .int x1, .null, .int x3] ⟨Or.inr rfl, Or.inr rfl, Or.inl rfl, Or.inr rfl, trivial⟩ kj6
        · replace e_j4 := (if_pos c8).symm.trans e_j4
          refine st_iconst dX8_isPaidSo_35 (v := 1) rfl ?_
          refine st_goto dX8_isPaidSo_36 40 (by decide) ?_
          obtain rfl := Option.some.inj e_j4
          exact st_sub [.ref 60, .int x1, .null, .int x3] ⟨Or.inr rfl, Or.inr rfl, Or.inl rfl, Or.inr rfl, trivial⟩ kj6
set_option maxHeartbeats 4000000 in
set_option maxRecDepth 100000 in
theorem k_X8_isPaidSo {D : Nat} (hD : 0 ≤ D) (x1 : Int32) (H : Hp) (q : Int32) (h : f_X8_isPaidSo x1 H = some q) {post : Option Value → Hp → Prop} (hp : post (some (.int q)) H) : Sem D mdX8_isPaidSo [.ref 60, .int x1] H post := by
  refine sem_of (own := RX8) rfl pn_RX8 (Nat.le_of_ble_eq_true rfl) [.ref 60, .int x1, .null, .null] ⟨Or.inr rfl, Or.inr rfl, rfl, rfl, trivial⟩ ?_
  unfold f_X8_isPaidSo at h
  refine st_iconst dX8_isPaidSo_0 (v := 1) rfl ?_
  refine st_istore_n dX8_isPaidSo_1 rfl (by decide) [.ref 60, .int x1, .int 1, .null] rfl ?_
  refine st_iconst dX8_isPaidSo_2 (v := 0) rfl ?_
  refine st_istore_n dX8_isPaidSo_3 rfl (by decide) [.ref 60, .int x1, .int 1, .int 0] rfl ?_
  obtain ⟨l9, e_l9, h⟩ := bnd h
  refine k_X8_isPaidSo_l4 (by omega) H x1 fuel 1 0 _ e_l9 ?_
  refine st_iload_n dX8_isPaidSo_47 rfl rfl ?_
  obtain ⟨rfl, hz⟩ := zr_some h
  exact st_zret dX8_isPaidSo_48 rfl hz hp
def f_X8_kindsOf_l5 (x1 : Int32) (x2 : Int32) : Nat → Int32 → Int32 → Hp → Option (Int32 × Hp)
  | 0, _, _, _ => none
  | n + 1, x3, x4, H =>
    if 5 < x4 then
      some (x3, H)
    else
      (f_X8_layThen H).bind fun H1 =>
      (as H1 66 80 (4 + x1) x4).bind fun H2 =>
      (f_X8_reckon 66 H2).bind fun H3 =>
      (f_X8_isPaidSo x2 H3).bind fun v4 =>
      f_X8_kindsOf_l5 x1 x2 n (x3 ||| (if v4 = 0 then 0 else ((1 : Int32) <<< (x4 &&& 31)))) (x4 + 1) H3
def f_X8_kindsOf (x1 : Int32) (x2 : Int32) (H : Hp) : Option (Int32 × Hp) :=
  (f_X8_kindsOf_l5 x1 x2 fuel 0 1 H).bind fun l9 =>
  some (l9.1, l9.2)
set_option maxHeartbeats 4000000 in
set_option maxRecDepth 100000 in
theorem k_X8_kindsOf_l5 {D : Nat} (hD : 4 ≤ (D + 1)) (x1 : Int32) (x2 : Int32) {post : Option Value → Hp → Prop} : ∀ (n : Nat) (x3 : Int32) (x4 : Int32) (H : Hp) (q : Int32 × Hp), f_X8_kindsOf_l5 x1 x2 n x3 x4 H = some q → V (D + 1) RX8 mdX8_kindsOf 58 [.null, .null, .null, .int q.1, .null] [] q.2 post → V (D + 1) RX8 mdX8_kindsOf 5 [.ref 60, .int x1, .int x2, .int x3, .int x4] [] H post := by
  intro n
  induction n with
  | zero => intro x3 x4 H q h; simp [f_X8_kindsOf_l5] at h
  | succ n ih =>
    intro x3 x4 H q h k1
    rw [f_X8_kindsOf_l5] at h
    refine st_iload dX8_kindsOf_5 rfl ?_
    refine st_iconst dX8_kindsOf_7 (v := 5) rfl ?_
    refine st_ic_gt dX8_kindsOf_8 58 (by decide) (fun c5 => ?_) (fun c5 => ?_)
    · replace h := (if_pos c5).symm.trans h
      obtain rfl := Option.some.inj h
      exact st_sub [.null, .null, .null, .int x3, .null] ⟨Or.inl rfl, Or.inl rfl, Or.inl rfl, Or.inr rfl, Or.inl rfl, trivial⟩ k1
    · replace h := (if_neg c5).symm.trans h
      refine st_aload_n dX8_kindsOf_11 rfl rfl ?_
      obtain ⟨H1, e_H1, h⟩ := bnd h
      refine st_callV [] dX8_kindsOf_12 co_X8_layThen im_X8_layThen se_X8_layThen ml_RX8_229 rfl (by decide) rfl (rfl : classes[8]? = some (RX8, TX8, 30)) rfl (S := []) rfl (Nat.le_of_ble_eq_true rfl) (k_X8_layThen (by omega) H _ e_H1 ?_)
      show V (D + 1) RX8 mdX8_kindsOf 15 [.ref 60, .int x1, .int x2, .int x3, .int x4] [] H1 post
      refine st_aload_n dX8_kindsOf_15 rfl rfl ?_
      refine gR8 dX8_kindsOf_16 (by decide) rfl 7 (by decide) fl_RX8_25 rfl 66 rfl ?_
      refine st_iconst dX8_kindsOf_19 (v := 4) rfl ?_
      refine st_iload_n dX8_kindsOf_20 rfl rfl ?_
      refine st_iadd dX8_kindsOf_21 ?_
      refine st_iload dX8_kindsOf_22 rfl ?_
      obtain ⟨H2, e_H2, h⟩ := bnd h
      refine st_iast dX8_kindsOf_24 (by decide) rfl H2 e_H2 ?_
      refine st_aload_n dX8_kindsOf_25 rfl rfl ?_
      refine st_aload_n dX8_kindsOf_26 rfl rfl ?_
      refine gR8 dX8_kindsOf_27 (by decide) rfl 7 (by decide) fl_RX8_25 rfl 66 rfl ?_
      obtain ⟨H3, e_H3, h⟩ := bnd h
      refine st_callV [.ref 66] dX8_kindsOf_30 co_X8_reckon im_X8_reckon se_X8_reckon ml_RX8_232 rfl (by decide) rfl (rfl : classes[8]? = some (RX8, TX8, 30)) rfl (S := []) rfl (Nat.le_of_ble_eq_true rfl) (k_X8_reckon (by omega) RC66 H2 _ e_H3 ?_)
      show V (D + 1) RX8 mdX8_kindsOf 33 [.ref 60, .int x1, .int x2, .int x3, .int x4] [] H3 post
      refine st_iload_n dX8_kindsOf_33 rfl rfl ?_
      refine st_aload_n dX8_kindsOf_34 rfl rfl ?_
      refine st_iload_n dX8_kindsOf_35 rfl rfl ?_
      obtain ⟨v4, e_v4, h⟩ := bnd h
      refine st_callV [.int x2] dX8_kindsOf_36 co_X8_isPaidSo im_X8_isPaidSo se_X8_isPaidSo ml_RX8_285 rfl (by decide) rfl (rfl : classes[8]? = some (RX8, TX8, 30)) rfl (S := [.int x3]) rfl (Nat.le_of_ble_eq_true rfl) (k_X8_isPaidSo (by omega) x2 H3 _ e_v4 ?_)
      show V (D + 1) RX8 mdX8_kindsOf 39 [.ref 60, .int x1, .int x2, .int x3, .int x4] [.int v4, .int x3] H3 post
      have kj7 : ∀ z6 : Int32, z6 = (if v4 = 0 then 0 else ((1 : Int32) <<< (x4 &&& 31))) → V (D + 1) RX8 mdX8_kindsOf 50 [.ref 60, .int x1, .int x2, .null, .int x4] [.int z6, .int x3] H3 post := by
        intro z6 ez6
        subst ez6
        refine st_ior dX8_kindsOf_50 ?_
        refine st_istore_n dX8_kindsOf_51 rfl (by decide) [.ref 60, .int x1, .int x2, .int (x3 ||| (if v4 = 0 then 0 else ((1 : Int32) <<< (x4 &&& 31)))), .int x4] rfl ?_
        refine st_iinc dX8_kindsOf_52 rfl (v := (x4 + 1)) rfl (by decide) [.ref 60, .int x1, .int x2, .int (x3 ||| (if v4 = 0 then 0 else ((1 : Int32) <<< (x4 &&& 31)))), .int (x4 + 1)] rfl ?_
        refine st_goto dX8_kindsOf_55 5 (by decide) ?_
        exact ih (x3 ||| (if v4 = 0 then 0 else ((1 : Int32) <<< (x4 &&& 31)))) (x4 + 1) H3 q h k1
      refine st_if_eq dX8_kindsOf_39 49 (by decide) (fun c8 => ?_) (fun c8 => ?_)
      · refine st_iconst dX8_kindsOf_49 (v := 0) rfl ?_
        exact st_sub [.ref 60, .int x1, .int x2, .null, .int x4] ⟨Or.inr rfl, Or.inr rfl, Or.inr rfl, Or.inl rfl, Or.inr rfl, trivial⟩ (kj7 _ (Eq.symm (if_pos c8)))
      · refine st_iconst dX8_kindsOf_42 (v := 1) rfl ?_
        refine st_iload dX8_kindsOf_43 rfl ?_
        refine st_ishl dX8_kindsOf_45 ?_
        refine st_goto dX8_kindsOf_46 50 (by decide) ?_
        exact st_sub [.ref 60, .int x1, .int x2, .null, .int x4] ⟨Or.inr rfl, Or.inr rfl, Or.inr rfl, Or.inl rfl, Or.inr rfl, trivial⟩ (kj7 _ (Eq.symm (if_neg c8)))
set_option maxHeartbeats 4000000 in
set_option maxRecDepth 100000 in
theorem k_X8_kindsOf {D : Nat} (hD : 4 ≤ D) (x1 : Int32) (x2 : Int32) (H : Hp) (q : Int32 × Hp) (h : f_X8_kindsOf x1 x2 H = some q) {post : Option Value → Hp → Prop} (hp : post (some (.int q.1)) q.2) : Sem D mdX8_kindsOf [.ref 60, .int x1, .int x2] H post := by
  obtain ⟨D, rfl⟩ : ∃ E, D = E + 1 := ⟨D - 1, by omega⟩
  refine sem_of (own := RX8) rfl pn_RX8 (Nat.le_of_ble_eq_true rfl) [.ref 60, .int x1, .int x2, .null, .null] ⟨Or.inr rfl, Or.inr rfl, Or.inr rfl, rfl, rfl, trivial⟩ ?_
  unfold f_X8_kindsOf at h
  refine st_iconst dX8_kindsOf_0 (v := 0) rfl ?_
  refine st_istore_n dX8_kindsOf_1 rfl (by decide) [.ref 60, .int x1, .int x2, .int 0, .null] rfl ?_
  refine st_iconst dX8_kindsOf_2 (v := 1) rfl ?_
  refine st_istore dX8_kindsOf_3 (by decide) [.ref 60, .int x1, .int x2, .int 0, .int 1] rfl ?_
  obtain ⟨l9, e_l9, h⟩ := bnd h
  refine k_X8_kindsOf_l5 (by omega) x1 x2 fuel 0 1 H _ e_l9 ?_
  refine st_iload_n dX8_kindsOf_58 rfl rfl ?_
  obtain rfl := Option.some.inj h
  exact st_iret dX8_kindsOf_59 rfl hp
def f_X8_coinsOf_l10 (x1 : Int32) (x2 : Int32) : Nat → Int32 → Int32 → Int32 → Hp → Option (Int32 × Int32 × Hp)
  | 0, _, _, _, _ => none
  | n + 1, x4, x5, x6, H =>
    if 100 ≤ x6 then
      some (x4, x5, H)
    else
      (f_X8_layThen H).bind fun H1 =>
      (as H1 66 80 ((10 + (3 * x1)) + 2) x6).bind fun H2 =>
      (f_X8_reckon 66 H2).bind fun H3 =>
      (f_X8_isPaidSo x2 H3).bind fun v4 =>
      f_X8_coinsOf_l10 x1 x2 n (if v4 = 0 then x4 else (x4 + 1)) (if v4 = 0 then x5 else (if x4 = 0 then x6 else x5)) (x6 + 1) H3
def f_X8_coinsOf (x1 : Int32) (x2 : Int32) (x3 : Int32) (H : Hp) : Option (Int32 × Hp) :=
  (f_X8_coinsOf_l10 x1 x2 fuel 0 (-1000000) 1 H).bind fun l11 =>
  some ((if x3 = 3 then l11.1 else l11.2.1), l11.2.2)
set_option maxHeartbeats 4000000 in
set_option maxRecDepth 100000 in
theorem k_X8_coinsOf_l10 {D : Nat} (hD : 4 ≤ (D + 1)) (x1 : Int32) (x2 : Int32) (x3 : Int32) {post : Option Value → Hp → Prop} : ∀ (n : Nat) (x4 : Int32) (x5 : Int32) (x6 : Int32) (H : Hp) (q : Int32 × Int32 × Hp), f_X8_coinsOf_l10 x1 x2 n x4 x5 x6 H = some q → V (D + 1) RX8 mdX8_coinsOf 75 [.null, .null, .null, .int x3, .int q.1, .int q.2.1, .null] [] q.2.2 post → V (D + 1) RX8 mdX8_coinsOf 10 [.ref 60, .int x1, .int x2, .int x3, .int x4, .int x5, .int x6] [] H post := by
  intro n
  induction n with
  | zero => intro x4 x5 x6 H q h; simp [f_X8_coinsOf_l10] at h
  | succ n ih =>
    intro x4 x5 x6 H q h k1
    rw [f_X8_coinsOf_l10] at h
    refine st_iload dX8_coinsOf_10 rfl ?_
    refine st_bipush dX8_coinsOf_12 (v := 100) (by decide) ?_
    refine st_ic_ge dX8_coinsOf_14 75 (by decide) (fun c5 => ?_) (fun c5 => ?_)
    · replace h := (if_pos c5).symm.trans h
      obtain rfl := Option.some.inj h
      exact st_sub [.null, .null, .null, .int x3, .int x4, .int x5, .null] ⟨Or.inl rfl, Or.inl rfl, Or.inl rfl, Or.inr rfl, Or.inr rfl, Or.inr rfl, Or.inl rfl, trivial⟩ k1
    · replace h := (if_neg c5).symm.trans h
      refine st_aload_n dX8_coinsOf_17 rfl rfl ?_
      obtain ⟨H1, e_H1, h⟩ := bnd h
      refine st_callV [] dX8_coinsOf_18 co_X8_layThen im_X8_layThen se_X8_layThen ml_RX8_229 rfl (by decide) rfl (rfl : classes[8]? = some (RX8, TX8, 30)) rfl (S := []) rfl (Nat.le_of_ble_eq_true rfl) (k_X8_layThen (by omega) H _ e_H1 ?_)
      show V (D + 1) RX8 mdX8_coinsOf 21 [.ref 60, .int x1, .int x2, .int x3, .int x4, .int x5, .int x6] [] H1 post
      refine st_aload_n dX8_coinsOf_21 rfl rfl ?_
      refine gR8 dX8_coinsOf_22 (by decide) rfl 7 (by decide) fl_RX8_25 rfl 66 rfl ?_
      refine st_bipush dX8_coinsOf_25 (v := 10) (by decide) ?_
      refine st_iconst dX8_coinsOf_27 (v := 3) rfl ?_
      refine st_iload_n dX8_coinsOf_28 rfl rfl ?_
      refine st_imul dX8_coinsOf_29 ?_
      refine st_iadd dX8_coinsOf_30 ?_
      refine st_iconst dX8_coinsOf_31 (v := 2) rfl ?_
      refine st_iadd dX8_coinsOf_32 ?_
      refine st_iload dX8_coinsOf_33 rfl ?_
      obtain ⟨H2, e_H2, h⟩ := bnd h
      refine st_iast dX8_coinsOf_35 (by decide) rfl H2 e_H2 ?_
      refine st_aload_n dX8_coinsOf_36 rfl rfl ?_
      refine st_aload_n dX8_coinsOf_37 rfl rfl ?_
      refine gR8 dX8_coinsOf_38 (by decide) rfl 7 (by decide) fl_RX8_25 rfl 66 rfl ?_
      obtain ⟨H3, e_H3, h⟩ := bnd h
      refine st_callV [.ref 66] dX8_coinsOf_41 co_X8_reckon im_X8_reckon se_X8_reckon ml_RX8_232 rfl (by decide) rfl (rfl : classes[8]? = some (RX8, TX8, 30)) rfl (S := []) rfl (Nat.le_of_ble_eq_true rfl) (k_X8_reckon (by omega) RC66 H2 _ e_H3 ?_)
      show V (D + 1) RX8 mdX8_coinsOf 44 [.ref 60, .int x1, .int x2, .int x3, .int x4, .int x5, .int x6] [] H3 post
      refine st_aload_n dX8_coinsOf_44 rfl rfl ?_
      refine st_iload_n dX8_coinsOf_45 rfl rfl ?_
      obtain ⟨v4, e_v4, h⟩ := bnd h
      refine st_callV [.int x2] dX8_coinsOf_46 co_X8_isPaidSo im_X8_isPaidSo se_X8_isPaidSo ml_RX8_285 rfl (by decide) rfl (rfl : classes[8]? = some (RX8, TX8, 30)) rfl (S := []) rfl (Nat.le_of_ble_eq_true rfl) (k_X8_isPaidSo (by omega) x2 H3 _ e_v4 ?_)
      show V (D + 1) RX8 mdX8_coinsOf 49 [.ref 60, .int x1, .int x2, .int x3, .int x4, .int x5, .int x6] [.int v4] H3 post
      have kj8 : ∀ z6 : Int32, z6 = (if v4 = 0 then x4 else (x4 + 1)) → ∀ z7 : Int32, z7 = (if v4 = 0 then x5 else (if x4 = 0 then x6 else x5)) → V (D + 1) RX8 mdX8_coinsOf 69 [.ref 60, .int x1, .int x2, .int x3, .int z6, .int z7, .int x6] [] H3 post := by
        intro z6 ez6 z7 ez7
        subst ez6
        subst ez7
        refine st_iinc dX8_coinsOf_69 rfl (v := (x6 + 1)) rfl (by decide) [.ref 60, .int x1, .int x2, .int x3, .int (if v4 = 0 then x4 else (x4 + 1)), .int (if v4 = 0 then x5 else (if x4 = 0 then x6 else x5)), .int (x6 + 1)] rfl ?_
        refine st_goto dX8_coinsOf_72 10 (by decide) ?_
        exact ih (if v4 = 0 then x4 else (x4 + 1)) (if v4 = 0 then x5 else (if x4 = 0 then x6 else x5)) (x6 + 1) H3 q h k1
      refine st_if_eq dX8_coinsOf_49 69 (by decide) (fun c9 => ?_) (fun c9 => ?_)
      · exact (kj8 _ (Eq.symm (if_pos c9)) _ (Eq.symm (if_pos c9)))
      · refine st_iload dX8_coinsOf_52 rfl ?_
        refine st_if_ne dX8_coinsOf_54 62 (by decide) (fun c10 => ?_) (fun c10 => ?_)
        · refine st_iload dX8_coinsOf_62 rfl ?_
          refine st_istore dX8_coinsOf_64 (by decide) [.ref 60, .int x1, .int x2, .int x3, .int x4, .int x5, .int x6] rfl ?_
          refine st_iinc dX8_coinsOf_66 rfl (v := (x4 + 1)) rfl (by decide) [.ref 60, .int x1, .int x2, .int x3, .int (x4 + 1), .int x5, .int x6] rfl ?_
          exact (kj8 _ (Eq.symm (if_neg c9)) _ (Eq.symm ((if_neg c9).trans (if_neg c10))))
        · refine st_iload dX8_coinsOf_57 rfl ?_
          refine st_goto dX8_coinsOf_59 64 (by decide) ?_
          refine st_istore dX8_coinsOf_64 (by decide) [.ref 60, .int x1, .int x2, .int x3, .int x4, .int x6, .int x6] rfl ?_
          refine st_iinc dX8_coinsOf_66 rfl (v := (x4 + 1)) rfl (by decide) [.ref 60, .int x1, .int x2, .int x3, .int (x4 + 1), .int x6, .int x6] rfl ?_
          exact (kj8 _ (Eq.symm (if_neg c9)) _ (Eq.symm ((if_neg c9).trans (if_pos c10))))
set_option maxHeartbeats 4000000 in
set_option maxRecDepth 100000 in
theorem k_X8_coinsOf {D : Nat} (hD : 4 ≤ D) (x1 : Int32) (x2 : Int32) (x3 : Int32) (H : Hp) (q : Int32 × Hp) (h : f_X8_coinsOf x1 x2 x3 H = some q) {post : Option Value → Hp → Prop} (hp : post (some (.int q.1)) q.2) : Sem D mdX8_coinsOf [.ref 60, .int x1, .int x2, .int x3] H post := by
  obtain ⟨D, rfl⟩ : ∃ E, D = E + 1 := ⟨D - 1, by omega⟩
  refine sem_of (own := RX8) rfl pn_RX8 (Nat.le_of_ble_eq_true rfl) [.ref 60, .int x1, .int x2, .int x3, .null, .null, .null] ⟨Or.inr rfl, Or.inr rfl, Or.inr rfl, Or.inr rfl, rfl, rfl, rfl, trivial⟩ ?_
  unfold f_X8_coinsOf at h
  refine st_iconst dX8_coinsOf_0 (v := 0) rfl ?_
  refine st_istore dX8_coinsOf_1 (by decide) [.ref 60, .int x1, .int x2, .int x3, .int 0, .null, .null] rfl ?_
  refine st_ldc dX8_coinsOf_3 cn_RX8_105 ?_
  refine st_istore dX8_coinsOf_5 (by decide) [.ref 60, .int x1, .int x2, .int x3, .int 0, .int (-1000000), .null] rfl ?_
  refine st_iconst dX8_coinsOf_7 (v := 1) rfl ?_
  refine st_istore dX8_coinsOf_8 (by decide) [.ref 60, .int x1, .int x2, .int x3, .int 0, .int (-1000000), .int 1] rfl ?_
  obtain ⟨l11, e_l11, h⟩ := bnd h
  refine k_X8_coinsOf_l10 (by omega) x1 x2 x3 fuel 0 (-1000000) 1 H _ e_l11 ?_
  refine st_iload_n dX8_coinsOf_75 rfl rfl ?_
  refine st_iconst dX8_coinsOf_76 (v := 3) rfl ?_
  have kj13 : ∀ z12 : Int32, z12 = (if x3 = 3 then l11.1 else l11.2.1) → V (D + 1) RX8 mdX8_coinsOf 87 [.null, .null, .null, .null, .null, .null, .null] [.int z12] l11.2.2 post := by
    intro z12 ez12
    subst ez12
    obtain rfl := Option.some.inj h
    exact st_iret dX8_coinsOf_87 rfl hp
  refine st_ic_ne dX8_coinsOf_77 85 (by decide) (fun c14 => ?_) (fun c14 => ?_)
  · refine st_iload dX8_coinsOf_85 rfl ?_
    exact st_sub [.null, .null, .null, .null, .null, .null, .null] ⟨Or.inl rfl, Or.inl rfl, Or.inl rfl, Or.inl rfl, Or.inl rfl, Or.inl rfl, Or.inl rfl, trivial⟩ (kj13 _ (Eq.symm (if_neg c14)))
  · refine st_iload dX8_coinsOf_80 rfl ?_
    refine st_goto dX8_coinsOf_82 87 (by decide) ?_
    exact st_sub [.null, .null, .null, .null, .null, .null, .null] ⟨Or.inl rfl, Or.inl rfl, Or.inl rfl, Or.inl rfl, Or.inl rfl, Or.inl rfl, Or.inl rfl, trivial⟩ (kj13 _ (Eq.symm (if_pos c14)))
def f_X8_potsOf_l21 (x1 : Int32) : Nat → Int32 → Int32 → Int32 → Hp → Option (Int32 × Int32 × Hp)
  | 0, _, _, _, _ => none
  | n + 1, x3, x4, x5, H =>
    if 1000 ≤ x5 then
      some (x3, x4, H)
    else
      (as H 66 80 1 x5).bind fun H3 =>
      (f_X8_pay 66 H3).bind fun H4 =>
      (f_X8_isPaidSo x1 H4).bind fun v5 =>
      f_X8_potsOf_l21 x1 n (if v5 = 0 then x3 else (x3 + 1)) (if v5 = 0 then x4 else (if x3 = 0 then x5 else x4)) (x5 + 1) H4
def f_X8_potsOf (x1 : Int32) (x2 : Int32) (H : Hp) : Option (Int32 × Hp) :=
  (f_X8_layThen H).bind fun H1 =>
  (f_X8_reckon 66 H1).bind fun H2 =>
  (f_X8_potsOf_l21 x1 fuel 0 (-1000000) 0 H2).bind fun l12 =>
  some ((if x2 = 0 then l12.1 else l12.2.1), l12.2.2)
set_option maxHeartbeats 4000000 in
set_option maxRecDepth 100000 in
theorem k_X8_potsOf_l21 {D : Nat} (hD : 4 ≤ (D + 1)) (x1 : Int32) (x2 : Int32) {post : Option Value → Hp → Prop} : ∀ (n : Nat) (x3 : Int32) (x4 : Int32) (x5 : Int32) (H : Hp) (q : Int32 × Int32 × Hp), f_X8_potsOf_l21 x1 n x3 x4 x5 H = some q → V (D + 1) RX8 mdX8_potsOf 75 [.null, .null, .int x2, .int q.1, .int q.2.1, .null] [] q.2.2 post → V (D + 1) RX8 mdX8_potsOf 21 [.ref 60, .int x1, .int x2, .int x3, .int x4, .int x5] [] H post := by
  intro n
  induction n with
  | zero => intro x3 x4 x5 H q h; simp [f_X8_potsOf_l21] at h
  | succ n ih =>
    intro x3 x4 x5 H q h k1
    rw [f_X8_potsOf_l21] at h
    refine st_iload dX8_potsOf_21 rfl ?_
    refine st_sipush dX8_potsOf_23 (v := 1000) (by decide) ?_
    refine st_ic_ge dX8_potsOf_26 75 (by decide) (fun c6 => ?_) (fun c6 => ?_)
    · replace h := (if_pos c6).symm.trans h
      obtain rfl := Option.some.inj h
      exact st_sub [.null, .null, .int x2, .int x3, .int x4, .null] ⟨Or.inl rfl, Or.inl rfl, Or.inr rfl, Or.inr rfl, Or.inr rfl, Or.inl rfl, trivial⟩ k1
    · replace h := (if_neg c6).symm.trans h
      refine st_aload_n dX8_potsOf_29 rfl rfl ?_
      refine gR8 dX8_potsOf_30 (by decide) rfl 7 (by decide) fl_RX8_25 rfl 66 rfl ?_
      refine st_iconst dX8_potsOf_33 (v := 1) rfl ?_
      refine st_iload dX8_potsOf_34 rfl ?_
      obtain ⟨H3, e_H3, h⟩ := bnd h
      refine st_iast dX8_potsOf_36 (by decide) rfl H3 e_H3 ?_
      refine st_aload_n dX8_potsOf_37 rfl rfl ?_
      refine st_aload_n dX8_potsOf_38 rfl rfl ?_
      refine gR8 dX8_potsOf_39 (by decide) rfl 7 (by decide) fl_RX8_25 rfl 66 rfl ?_
      obtain ⟨H4, e_H4, h⟩ := bnd h
      refine st_callV [.ref 66] dX8_potsOf_42 co_X8_pay im_X8_pay se_X8_pay ml_RX8_226 rfl (by decide) rfl (rfl : classes[8]? = some (RX8, TX8, 30)) rfl (S := []) rfl (Nat.le_of_ble_eq_true rfl) (k_X8_pay (by omega) RC66 H3 _ e_H4 ?_)
      show V (D + 1) RX8 mdX8_potsOf 45 [.ref 60, .int x1, .int x2, .int x3, .int x4, .int x5] [] H4 post
      refine st_aload_n dX8_potsOf_45 rfl rfl ?_
      refine st_iload_n dX8_potsOf_46 rfl rfl ?_
      obtain ⟨v5, e_v5, h⟩ := bnd h
      refine st_callV [.int x1] dX8_potsOf_47 co_X8_isPaidSo im_X8_isPaidSo se_X8_isPaidSo ml_RX8_285 rfl (by decide) rfl (rfl : classes[8]? = some (RX8, TX8, 30)) rfl (S := []) rfl (Nat.le_of_ble_eq_true rfl) (k_X8_isPaidSo (by omega) x1 H4 _ e_v5 ?_)
      show V (D + 1) RX8 mdX8_potsOf 50 [.ref 60, .int x1, .int x2, .int x3, .int x4, .int x5] [.int v5] H4 post
      have kj9 : ∀ z7 : Int32, z7 = (if v5 = 0 then x3 else (x3 + 1)) → ∀ z8 : Int32, z8 = (if v5 = 0 then x4 else (if x3 = 0 then x5 else x4)) → V (D + 1) RX8 mdX8_potsOf 69 [.ref 60, .int x1, .int x2, .int z7, .int z8, .int x5] [] H4 post := by
        intro z7 ez7 z8 ez8
        subst ez7
        subst ez8
        refine st_iinc dX8_potsOf_69 rfl (v := (x5 + 1)) rfl (by decide) [.ref 60, .int x1, .int x2, .int (if v5 = 0 then x3 else (x3 + 1)), .int (if v5 = 0 then x4 else (if x3 = 0 then x5 else x4)), .int (x5 + 1)] rfl ?_
        refine st_goto dX8_potsOf_72 21 (by decide) ?_
        exact ih (if v5 = 0 then x3 else (x3 + 1)) (if v5 = 0 then x4 else (if x3 = 0 then x5 else x4)) (x5 + 1) H4 q h k1
      refine st_if_eq dX8_potsOf_50 69 (by decide) (fun c10 => ?_) (fun c10 => ?_)
      · exact (kj9 _ (Eq.symm (if_pos c10)) _ (Eq.symm (if_pos c10)))
      · refine st_iload_n dX8_potsOf_53 rfl rfl ?_
        refine st_if_ne dX8_potsOf_54 62 (by decide) (fun c11 => ?_) (fun c11 => ?_)
        · refine st_iload dX8_potsOf_62 rfl ?_
          refine st_istore dX8_potsOf_64 (by decide) [.ref 60, .int x1, .int x2, .int x3, .int x4, .int x5] rfl ?_
          refine st_iinc dX8_potsOf_66 rfl (v := (x3 + 1)) rfl (by decide) [.ref 60, .int x1, .int x2, .int (x3 + 1), .int x4, .int x5] rfl ?_
          exact (kj9 _ (Eq.symm (if_neg c10)) _ (Eq.symm ((if_neg c10).trans (if_neg c11))))
        · refine st_iload dX8_potsOf_57 rfl ?_
          refine st_goto dX8_potsOf_59 64 (by decide) ?_
          refine st_istore dX8_potsOf_64 (by decide) [.ref 60, .int x1, .int x2, .int x3, .int x5, .int x5] rfl ?_
          refine st_iinc dX8_potsOf_66 rfl (v := (x3 + 1)) rfl (by decide) [.ref 60, .int x1, .int x2, .int (x3 + 1), .int x5, .int x5] rfl ?_
          exact (kj9 _ (Eq.symm (if_neg c10)) _ (Eq.symm ((if_neg c10).trans (if_pos c11))))
set_option maxHeartbeats 4000000 in
set_option maxRecDepth 100000 in
theorem k_X8_potsOf {D : Nat} (hD : 4 ≤ D) (x1 : Int32) (x2 : Int32) (H : Hp) (q : Int32 × Hp) (h : f_X8_potsOf x1 x2 H = some q) {post : Option Value → Hp → Prop} (hp : post (some (.int q.1)) q.2) : Sem D mdX8_potsOf [.ref 60, .int x1, .int x2] H post := by
  obtain ⟨D, rfl⟩ : ∃ E, D = E + 1 := ⟨D - 1, by omega⟩
  refine sem_of (own := RX8) rfl pn_RX8 (Nat.le_of_ble_eq_true rfl) [.ref 60, .int x1, .int x2, .null, .null, .null] ⟨Or.inr rfl, Or.inr rfl, Or.inr rfl, rfl, rfl, rfl, trivial⟩ ?_
  unfold f_X8_potsOf at h
  refine st_iconst dX8_potsOf_0 (v := 0) rfl ?_
  refine st_istore_n dX8_potsOf_1 rfl (by decide) [.ref 60, .int x1, .int x2, .int 0, .null, .null] rfl ?_
  refine st_ldc dX8_potsOf_2 cn_RX8_105 ?_
  refine st_istore dX8_potsOf_4 (by decide) [.ref 60, .int x1, .int x2, .int 0, .int (-1000000), .null] rfl ?_
  refine st_aload_n dX8_potsOf_6 rfl rfl ?_
  obtain ⟨H1, e_H1, h⟩ := bnd h
  refine st_callV [] dX8_potsOf_7 co_X8_layThen im_X8_layThen se_X8_layThen ml_RX8_229 rfl (by decide) rfl (rfl : classes[8]? = some (RX8, TX8, 30)) rfl (S := []) rfl (Nat.le_of_ble_eq_true rfl) (k_X8_layThen (by omega) H _ e_H1 ?_)
  show V (D + 1) RX8 mdX8_potsOf 10 [.ref 60, .int x1, .int x2, .int 0, .int (-1000000), .null] [] H1 post
  refine st_aload_n dX8_potsOf_10 rfl rfl ?_
  refine st_aload_n dX8_potsOf_11 rfl rfl ?_
  refine gR8 dX8_potsOf_12 (by decide) rfl 7 (by decide) fl_RX8_25 rfl 66 rfl ?_
  obtain ⟨H2, e_H2, h⟩ := bnd h
  refine st_callV [.ref 66] dX8_potsOf_15 co_X8_reckon im_X8_reckon se_X8_reckon ml_RX8_232 rfl (by decide) rfl (rfl : classes[8]? = some (RX8, TX8, 30)) rfl (S := []) rfl (Nat.le_of_ble_eq_true rfl) (k_X8_reckon (by omega) RC66 H1 _ e_H2 ?_)
  show V (D + 1) RX8 mdX8_potsOf 18 [.ref 60, .int x1, .int x2, .int 0, .int (-1000000), .null] [] H2 post
  refine st_iconst dX8_potsOf_18 (v := 0) rfl ?_
  refine st_istore dX8_potsOf_19 (by decide) [.ref 60, .int x1, .int x2, .int 0, .int (-1000000), .int 0] rfl ?_
  obtain ⟨l12, e_l12, h⟩ := bnd h
  refine k_X8_potsOf_l21 (by omega) x1 x2 fuel 0 (-1000000) 0 H2 _ e_l12 ?_
  refine st_iload_n dX8_potsOf_75 rfl rfl ?_
  have kj14 : ∀ z13 : Int32, z13 = (if x2 = 0 then l12.1 else l12.2.1) → V (D + 1) RX8 mdX8_potsOf 85 [.null, .null, .null, .null, .null, .null] [.int z13] l12.2.2 post := by
    intro z13 ez13
    subst ez13
    obtain rfl := Option.some.inj h
    exact st_iret dX8_potsOf_85 rfl hp
  refine st_if_ne dX8_potsOf_76 83 (by decide) (fun c15 => ?_) (fun c15 => ?_)
  · refine st_iload dX8_potsOf_83 rfl ?_
    exact st_sub [.null, .null, .null, .null, .null, .null] ⟨Or.inl rfl, Or.inl rfl, Or.inl rfl, Or.inl rfl, Or.inl rfl, Or.inl rfl, trivial⟩ (kj14 _ (Eq.symm (if_neg c15)))
  · refine st_iload_n dX8_potsOf_79 rfl rfl ?_
    refine st_goto dX8_potsOf_80 85 (by decide) ?_
    exact st_sub [.null, .null, .null, .null, .null, .null] ⟨Or.inl rfl, Or.inl rfl, Or.inl rfl, Or.inl rfl, Or.inl rfl, Or.inl rfl, trivial⟩ (kj14 _ (Eq.symm (if_pos c15)))
def f_X8_who (x1 : Int32) (x2 : Int32) (x3 : Int32) (x4 : Int32) (H : Hp) : Option (Int32 × Hp) :=
  (pf H 60 0 0).bind fun H1 =>
  (f_X8_isThere H1).bind fun v2 =>
  if v2 = 0 then
    some ((-1000002), H1)
  else
    (f_X8_in x2.toInt64 0 4).bind fun v3 =>
    if v3 = 0 then
      some ((-1000001), H1)
    else
      if x2 = 2 then
        (f_X8_isProject x1 H1).bind fun v4 =>
        if v4 = 0 then
          some ((-1000001), H1)
        else
          if x2 ≤ 2 then
            (f_X8_isRow x3).bind fun v5 =>
            if v5 = 0 then
              some ((-1000001), H1)
            else
              (ag H1 64 80 0).bind fun v6 =>
              (f_X8_rowFound x3 x4 v6 H1).bind fun q7 =>
              if q7.1 = 0 then
                Option.bind (
                  if 2 ≤ x2 then
                    if x2 = 2 then
                      (f_X8_kindsOf x1 ((40 * x3) + x4) q7.2).bind fun q8 =>
                      some (q8.1, q8.2)
                    else
                      (f_X8_coinsOf x1 ((40 * x3) + x4) x2 q7.2).bind fun q9 =>
                      some (q9.1, q9.2)
                  else
                    (f_X8_potsOf ((40 * x3) + x4) x2 q7.2).bind fun q10 =>
                    some (q10.1, q10.2)) fun j11 =>
                some (j11.1, j11.2)
              else
                some (q7.1, q7.2)
          else
            (f_X8_isGiftAt x1 H1).bind fun v12 =>
            if v12 = 0 then
              some ((-1000001), H1)
            else
              (f_X8_isRow x3).bind fun v13 =>
              if v13 = 0 then
                some ((-1000001), H1)
              else
                (ag H1 64 80 0).bind fun v14 =>
                (f_X8_rowFound x3 x4 v14 H1).bind fun q15 =>
                if q15.1 = 0 then
                  Option.bind (
                    if 2 ≤ x2 then
                      if x2 = 2 then
                        (f_X8_kindsOf x1 ((40 * x3) + x4) q15.2).bind fun q16 =>
                        some (q16.1, q16.2)
                      else
                        (f_X8_coinsOf x1 ((40 * x3) + x4) x2 q15.2).bind fun q17 =>
                        some (q17.1, q17.2)
                    else
                      (f_X8_potsOf ((40 * x3) + x4) x2 q15.2).bind fun q18 =>
                      some (q18.1, q18.2)) fun j19 =>
                  some (j19.1, j19.2)
                else
                  some (q15.1, q15.2)
      else
        if x2 ≤ 2 then
          (f_X8_isRow x3).bind fun v20 =>
          if v20 = 0 then
            some ((-1000001), H1)
          else
            (ag H1 64 80 0).bind fun v21 =>
            (f_X8_rowFound x3 x4 v21 H1).bind fun q22 =>
            if q22.1 = 0 then
              Option.bind (
                if 2 ≤ x2 then
                  if x2 = 2 then
                    (f_X8_kindsOf x1 ((40 * x3) + x4) q22.2).bind fun q23 =>
                    some (q23.1, q23.2)
                  else
                    (f_X8_coinsOf x1 ((40 * x3) + x4) x2 q22.2).bind fun q24 =>
                    some (q24.1, q24.2)
                else
                  (f_X8_potsOf ((40 * x3) + x4) x2 q22.2).bind fun q25 =>
                  some (q25.1, q25.2)) fun j26 =>
              some (j26.1, j26.2)
            else
              some (q22.1, q22.2)
        else
          (f_X8_isGiftAt x1 H1).bind fun v27 =>
          if v27 = 0 then
            some ((-1000001), H1)
          else
            (f_X8_isRow x3).bind fun v28 =>
            if v28 = 0 then
              some ((-1000001), H1)
            else
              (ag H1 64 80 0).bind fun v29 =>
              (f_X8_rowFound x3 x4 v29 H1).bind fun q30 =>
              if q30.1 = 0 then
                Option.bind (
                  if 2 ≤ x2 then
                    if x2 = 2 then
                      (f_X8_kindsOf x1 ((40 * x3) + x4) q30.2).bind fun q31 =>
                      some (q31.1, q31.2)
                    else
                      (f_X8_coinsOf x1 ((40 * x3) + x4) x2 q30.2).bind fun q32 =>
                      some (q32.1, q32.2)
                  else
                    (f_X8_potsOf ((40 * x3) + x4) x2 q30.2).bind fun q33 =>
                    some (q33.1, q33.2)) fun j34 =>
                some (j34.1, j34.2)
              else
                some (q30.1, q30.2)
set_option maxHeartbeats 4000000 in
set_option maxRecDepth 100000 in
theorem k_X8_who {D : Nat} (hD : 5 ≤ D) (x1 : Int32) (x2 : Int32) (x3 : Int32) (x4 : Int32) (H : Hp) (q : Int32 × Hp) (h : f_X8_who x1 x2 x3 x4 H = some q) {post : Option Value → Hp → Prop} (hp : post (some (.int q.1)) q.2) : Sem D mdX8_who [.ref 60, .int x1, .int x2, .int x3, .int x4] H post := by
  obtain ⟨D, rfl⟩ : ∃ E, D = E + 1 := ⟨D - 1, by omega⟩
  refine sem_of (own := RX8) rfl pn_RX8 (Nat.le_of_ble_eq_true rfl) [.ref 60, .int x1, .int x2, .int x3, .int x4, .null, .null] ⟨Or.inr rfl, Or.inr rfl, Or.inr rfl, Or.inr rfl, Or.inr rfl, rfl, rfl, trivial⟩ ?_
  unfold f_X8_who at h
  refine st_aload_n dX8_who_0 rfl rfl ?_
  refine st_iconst dX8_who_1 (v := 0) rfl ?_
  obtain ⟨H1, e_H1, h⟩ := bnd h
  refine pI8 dX8_who_2 (by decide) rfl 0 (by decide) fl_RX8_62 rfl rfl rfl rfl e_H1 ?_
  refine st_aload_n dX8_who_5 rfl rfl ?_
  obtain ⟨v2, e_v2, h⟩ := bnd h
  refine st_callV [] dX8_who_6 co_X8_isThere im_X8_isThere se_X8_isThere ml_RX8_174 rfl (by decide) rfl (rfl : classes[8]? = some (RX8, TX8, 30)) rfl (S := []) rfl (Nat.le_of_ble_eq_true rfl) (k_X8_isThere (by omega) H1 _ e_v2 ?_)
  show V (D + 1) RX8 mdX8_who 9 [.ref 60, .int x1, .int x2, .int x3, .int x4, .null, .null] [.int v2] H1 post
  refine st_if_ne dX8_who_9 15 (by decide) (fun c35 => ?_) (fun c35 => ?_)
  · replace h := (if_neg c35).symm.trans h
    refine st_iload_n dX8_who_15 rfl rfl ?_
    refine st_i2l dX8_who_16 ?_
    refine st_lconst dX8_who_17 (v := 0) rfl ?_
    refine st_ldc2 dX8_who_18 cl_RX8_277 ?_
    obtain ⟨v3, e_v3, h⟩ := bnd h
    refine st_callS [.long x2.toInt64, .long 0, .long 4] dX8_who_21 co_X8_in sm_X8_in ml_RX8_72 rfl (S := []) rfl (Nat.le_of_ble_eq_true rfl) (k_X8_in (by omega) x2.toInt64 0 4 H1 _ e_v3 ?_)
    show V (D + 1) RX8 mdX8_who 24 [.ref 60, .int x1, .int x2, .int x3, .int x4, .null, .null] [.int v3] H1 post
    refine st_if_eq dX8_who_24 60 (by decide) (fun c36 => ?_) (fun c36 => ?_)
    · replace h := (if_pos c36).symm.trans h
      refine st_ldc dX8_who_60 cn_RX8_82 ?_
      obtain rfl := Option.some.inj h
      exact st_iret dX8_who_62 rfl hp
    · replace h := (if_neg c36).symm.trans h
      refine st_iload_n dX8_who_27 rfl rfl ?_
      refine st_iconst dX8_who_28 (v := 2) rfl ?_
      refine st_ic_ne dX8_who_29 40 (by decide) (fun c37 => ?_) (fun c37 => ?_)
      · replace h := (if_neg c37).symm.trans h
        refine st_iload_n dX8_who_40 rfl rfl ?_
        refine st_iconst dX8_who_41 (v := 2) rfl ?_
        refine st_ic_le dX8_who_42 53 (by decide) (fun c51 => ?_) (fun c51 => ?_)
        · replace h := (if_pos c51).symm.trans h
          refine st_iload_n dX8_who_53 rfl rfl ?_
          obtain ⟨v20, e_v20, h⟩ := bnd h
          refine st_callS [.int x3] dX8_who_54 co_X8_isRow sm_X8_isRow ml_RX8_76 rfl (S := []) rfl (Nat.le_of_ble_eq_true rfl) (k_X8_isRow (by omega) x3 H1 _ e_v20 ?_)
          show V (D + 1) RX8 mdX8_who 57 [.ref 60, .int x1, .int x2, .int x3, .int x4, .null, .null] [.int v20] H1 post
          refine st_if_ne dX8_who_57 63 (by decide) (fun c52 => ?_) (fun c52 => ?_)
          · replace h := (if_neg c52).symm.trans h
            refine st_aload_n dX8_who_63 rfl rfl ?_
            refine st_iload_n dX8_who_64 rfl rfl ?_
            refine st_iload dX8_who_65 rfl ?_
            refine st_aload_n dX8_who_67 rfl rfl ?_
            refine gR8 dX8_who_68 (by decide) rfl 5 (by decide) fl_RX8_19 rfl 64 rfl ?_
            refine st_iconst dX8_who_71 (v := 0) rfl ?_
            obtain ⟨v21, e_v21, h⟩ := bnd h
            refine st_iald dX8_who_72 (by decide) rfl v21 e_v21 ?_
            obtain ⟨q22, e_q22, h⟩ := bnd h
            refine st_callV [.int x3, .int x4, .int v21] dX8_who_73 co_X8_rowFound im_X8_rowFound se_X8_rowFound ml_RX8_288 rfl (by decide) rfl (rfl : classes[8]? = some (RX8, TX8, 30)) rfl (S := []) rfl (Nat.le_of_ble_eq_true rfl) (k_X8_rowFound (by omega) x3 x4 v21 H1 _ e_q22 ?_)
            show V (D + 1) RX8 mdX8_who 76 [.ref 60, .int x1, .int x2, .int x3, .int x4, .null, .null] [.int q22.1] q22.2 post
            refine st_istore dX8_who_76 (by decide) [.ref 60, .int x1, .int x2, .int x3, .int x4, .int q22.1, .null] rfl ?_
            refine st_iload dX8_who_78 rfl ?_
            refine st_if_eq dX8_who_80 86 (by decide) (fun c53 => ?_) (fun c53 => ?_)
            · replace h := (if_pos c53).symm.trans h
              refine st_bipush dX8_who_86 (v := 40) (by decide) ?_
              refine st_iload_n dX8_who_88 rfl rfl ?_
              refine st_imul dX8_who_89 ?_
              refine st_iload dX8_who_90 rfl ?_
              refine st_iadd dX8_who_92 ?_
              refine st_istore dX8_who_93 (by decide) [.ref 60, .int x1, .int x2, .int x3, .int x4, .int q22.1, .int ((40 * x3) + x4)] rfl ?_
              refine st_iload_n dX8_who_95 rfl rfl ?_
              refine st_iconst dX8_who_96 (v := 2) rfl ?_
              obtain ⟨j26, e_j26, h⟩ := bnd h
              have kj54 : V (D + 1) RX8 mdX8_who 133 [.null, .null, .null, .null, .null, .null, .null] [.int j26.1] j26.2 post := by
                obtain rfl := Option.some.inj h
                exact st_iret dX8_who_133 rfl hp
              refine st_ic_ge dX8_who_97 110 (by decide) (fun c55 => ?_) (fun c55 => ?_)
              · replace e_j26 := (if_pos c55).symm.trans e_j26
                refine st_iload_n dX8_who_110 rfl rfl ?_
                refine st_iconst dX8_who_111 (v := 2) rfl ?_
                refine st_ic_ne dX8_who_112 125 (by decide) (fun c56 => ?_) (fun c56 => ?_)
                · replace e_j26 := (if_neg c56).symm.trans e_j26
                  refine st_aload_n dX8_who_125 rfl rfl ?_
                  refine st_iload_n dX8_who_126 rfl rfl ?_
                  refine st_iload dX8_who_127 rfl ?_
                  refine st_iload_n dX8_who_129 rfl rfl ?_
                  obtain ⟨q24, e_q24, e_j26⟩ := bnd e_j26
                  refine st_callV [.int x1, .int ((40 * x3) + x4), .int x2] dX8_who_130 co_X8_coinsOf im_X8_coinsOf se_X8_coinsOf ml_RX8_298 rfl (by decide) rfl (rfl : classes[8]? = some (RX8, TX8, 30)) rfl (S := []) rfl (Nat.le_of_ble_eq_true rfl) (k_X8_coinsOf (by omega) x1 ((40 * x3) + x4) x2 q22.2 _ e_q24 ?_)
                  show V (D + 1) RX8 mdX8_who 133 [.ref 60, .int x1, .int x2, .int x3, .int x4, .int q22.1, .int ((40 * x3) + x4)] [.int q24.1] q24.2 post
                  obtain rfl := Option.some.inj e_j26
                  exact st_sub [.null, .null, .null, .null, .null, .null, .null] ⟨Or.inl rfl, Or.inl rfl, Or.inl rfl, Or.inl rfl, Or.inl rfl, Or.inl rfl, Or.inl rfl, trivial⟩ kj54
                · replace e_j26 := (if_pos c56).symm.trans e_j26
                  refine st_aload_n dX8_who_115 rfl rfl ?_
                  refine st_iload_n dX8_who_116 rfl rfl ?_
                  refine st_iload dX8_who_117 rfl ?_
                  obtain ⟨q23, e_q23, e_j26⟩ := bnd e_j26
                  refine st_callV [.int x1, .int ((40 * x3) + x4)] dX8_who_119 co_X8_kindsOf im_X8_kindsOf se_X8_kindsOf ml_RX8_295 rfl (by decide) rfl (rfl : classes[8]? = some (RX8, TX8, 30)) rfl (S := []) rfl (Nat.le_of_ble_eq_true rfl) (k_X8_kindsOf (by omega) x1 ((40 * x3) + x4) q22.2 _ e_q23 ?_)
                  show V (D + 1) RX8 mdX8_who 122 [.ref 60, .int x1, .int x2, .int x3, .int x4, .int q22.1, .int ((40 * x3) + x4)] [.int q23.1] q23.2 post
                  refine st_goto dX8_who_122 133 (by decide) ?_
                  obtain rfl := Option.some.inj e_j26
                  exact st_sub [.null, .null, .null, .null, .null, .null, .null] ⟨Or.inl rfl, Or.inl rfl, Or.inl rfl, Or.inl rfl, Or.inl rfl, Or.inl rfl, Or.inl rfl, trivial⟩ kj54
              · replace e_j26 := (if_neg c55).symm.trans e_j26
                refine st_aload_n dX8_who_100 rfl rfl ?_
                refine st_iload dX8_who_101 rfl ?_
                refine st_iload_n dX8_who_103 rfl rfl ?_
                obtain ⟨q25, e_q25, e_j26⟩ := bnd e_j26
                refine st_callV [.int ((40 * x3) + x4), .int x2] dX8_who_104 co_X8_potsOf im_X8_potsOf se_X8_potsOf ml_RX8_292 rfl (by decide) rfl (rfl : classes[8]? = some (RX8, TX8, 30)) rfl (S := []) rfl (Nat.le_of_ble_eq_true rfl) (k_X8_potsOf (by omega) ((40 * x3) + x4) x2 q22.2 _ e_q25 ?_)
                show V (D + 1) RX8 mdX8_who 107 [.ref 60, .int x1, .int x2, .int x3, .int x4, .int q22.1, .int ((40 * x3) + x4)] [.int q25.1] q25.2 post
                refine st_goto dX8_who_107 133 (by decide) ?_
                obtain rfl := Option.some.inj e_j26
                exact st_sub [.null, .null, .null, .null, .null, .null, .null] ⟨Or.inl rfl, Or.inl rfl, Or.inl rfl, Or.inl rfl, Or.inl rfl, Or.inl rfl, Or.inl rfl, trivial⟩ kj54
            · replace h := (if_neg c53).symm.trans h
              refine st_iload dX8_who_83 rfl ?_
              obtain rfl := Option.some.inj h
              exact st_iret dX8_who_85 rfl hp
          · replace h := (if_pos c52).symm.trans h
            refine st_ldc dX8_who_60 cn_RX8_82 ?_
            obtain rfl := Option.some.inj h
            exact st_iret dX8_who_62 rfl hp
        · replace h := (if_neg c51).symm.trans h
          refine st_aload_n dX8_who_45 rfl rfl ?_
          refine st_iload_n dX8_who_46 rfl rfl ?_
          obtain ⟨v27, e_v27, h⟩ := bnd h
          refine st_callV [.int x1] dX8_who_47 co_X8_isGiftAt im_X8_isGiftAt se_X8_isGiftAt ml_RX8_250 rfl (by decide) rfl (rfl : classes[8]? = some (RX8, TX8, 30)) rfl (S := []) rfl (Nat.le_of_ble_eq_true rfl) (k_X8_isGiftAt (by omega) x1 H1 _ e_v27 ?_)
          show V (D + 1) RX8 mdX8_who 50 [.ref 60, .int x1, .int x2, .int x3, .int x4, .null, .null] [.int v27] H1 post
          refine st_if_eq dX8_who_50 60 (by decide) (fun c57 => ?_) (fun c57 => ?_)
          · replace h := (if_pos c57).symm.trans h
            refine st_ldc dX8_who_60 cn_RX8_82 ?_
            obtain rfl := Option.some.inj h
            exact st_iret dX8_who_62 rfl hp
          · replace h := (if_neg c57).symm.trans h
            refine st_iload_n dX8_who_53 rfl rfl ?_
            obtain ⟨v28, e_v28, h⟩ := bnd h
            refine st_callS [.int x3] dX8_who_54 co_X8_isRow sm_X8_isRow ml_RX8_76 rfl (S := []) rfl (Nat.le_of_ble_eq_true rfl) (k_X8_isRow (by omega) x3 H1 _ e_v28 ?_)
            show V (D + 1) RX8 mdX8_who 57 [.ref 60, .int x1, .int x2, .int x3, .int x4, .null, .null] [.int v28] H1 post
            refine st_if_ne dX8_who_57 63 (by decide) (fun c58 => ?_) (fun c58 => ?_)
            · replace h := (if_neg c58).symm.trans h
              refine st_aload_n dX8_who_63 rfl rfl ?_
              refine st_iload_n dX8_who_64 rfl rfl ?_
              refine st_iload dX8_who_65 rfl ?_
              refine st_aload_n dX8_who_67 rfl rfl ?_
              refine gR8 dX8_who_68 (by decide) rfl 5 (by decide) fl_RX8_19 rfl 64 rfl ?_
              refine st_iconst dX8_who_71 (v := 0) rfl ?_
              obtain ⟨v29, e_v29, h⟩ := bnd h
              refine st_iald dX8_who_72 (by decide) rfl v29 e_v29 ?_
              obtain ⟨q30, e_q30, h⟩ := bnd h
              refine st_callV [.int x3, .int x4, .int v29] dX8_who_73 co_X8_rowFound im_X8_rowFound se_X8_rowFound ml_RX8_288 rfl (by decide) rfl (rfl : classes[8]? = some (RX8, TX8, 30)) rfl (S := []) rfl (Nat.le_of_ble_eq_true rfl) (k_X8_rowFound (by omega) x3 x4 v29 H1 _ e_q30 ?_)
              show V (D + 1) RX8 mdX8_who 76 [.ref 60, .int x1, .int x2, .int x3, .int x4, .null, .null] [.int q30.1] q30.2 post
              refine st_istore dX8_who_76 (by decide) [.ref 60, .int x1, .int x2, .int x3, .int x4, .int q30.1, .null] rfl ?_
              refine st_iload dX8_who_78 rfl ?_
              refine st_if_eq dX8_who_80 86 (by decide) (fun c59 => ?_) (fun c59 => ?_)
              · replace h := (if_pos c59).symm.trans h
                refine st_bipush dX8_who_86 (v := 40) (by decide) ?_
                refine st_iload_n dX8_who_88 rfl rfl ?_
                refine st_imul dX8_who_89 ?_
                refine st_iload dX8_who_90 rfl ?_
                refine st_iadd dX8_who_92 ?_
                refine st_istore dX8_who_93 (by decide) [.ref 60, .int x1, .int x2, .int x3, .int x4, .int q30.1, .int ((40 * x3) + x4)] rfl ?_
                refine st_iload_n dX8_who_95 rfl rfl ?_
                refine st_iconst dX8_who_96 (v := 2) rfl ?_
                obtain ⟨j34, e_j34, h⟩ := bnd h
                have kj60 : V (D + 1) RX8 mdX8_who 133 [.null, .null, .null, .null, .null, .null, .null] [.int j34.1] j34.2 post := by
                  obtain rfl := Option.some.inj h
                  exact st_iret dX8_who_133 rfl hp
                refine st_ic_ge dX8_who_97 110 (by decide) (fun c61 => ?_) (fun c61 => ?_)
                · replace e_j34 := (if_pos c61).symm.trans e_j34
                  refine st_iload_n dX8_who_110 rfl rfl ?_
                  refine st_iconst dX8_who_111 (v := 2) rfl ?_
                  refine st_ic_ne dX8_who_112 125 (by decide) (fun c62 => ?_) (fun c62 => ?_)
                  · replace e_j34 := (if_neg c62).symm.trans e_j34
                    refine st_aload_n dX8_who_125 rfl rfl ?_
                    refine st_iload_n dX8_who_126 rfl rfl ?_
                    refine st_iload dX8_who_127 rfl ?_
                    refine st_iload_n dX8_who_129 rfl rfl ?_
                    obtain ⟨q32, e_q32, e_j34⟩ := bnd e_j34
                    refine st_callV [.int x1, .int ((40 * x3) + x4), .int x2] dX8_who_130 co_X8_coinsOf im_X8_coinsOf se_X8_coinsOf ml_RX8_298 rfl (by decide) rfl (rfl : classes[8]? = some (RX8, TX8, 30)) rfl (S := []) rfl (Nat.le_of_ble_eq_true rfl) (k_X8_coinsOf (by omega) x1 ((40 * x3) + x4) x2 q30.2 _ e_q32 ?_)
                    show V (D + 1) RX8 mdX8_who 133 [.ref 60, .int x1, .int x2, .int x3, .int x4, .int q30.1, .int ((40 * x3) + x4)] [.int q32.1] q32.2 post
                    obtain rfl := Option.some.inj e_j34
                    exact st_sub [.null, .null, .null, .null, .null, .null, .null] ⟨Or.inl rfl, Or.inl rfl, Or.inl rfl, Or.inl rfl, Or.inl rfl, Or.inl rfl, Or.inl rfl, trivial⟩ kj60
                  · replace e_j34 := (if_pos c62).symm.trans e_j34
                    refine st_aload_n dX8_who_115 rfl rfl ?_
                    refine st_iload_n dX8_who_116 rfl rfl ?_
                    refine st_iload dX8_who_117 rfl ?_
                    obtain ⟨q31, e_q31, e_j34⟩ := bnd e_j34
                    refine st_callV [.int x1, .int ((40 * x3) + x4)] dX8_who_119 co_X8_kindsOf im_X8_kindsOf se_X8_kindsOf ml_RX8_295 rfl (by decide) rfl (rfl : classes[8]? = some (RX8, TX8, 30)) rfl (S := []) rfl (Nat.le_of_ble_eq_true rfl) (k_X8_kindsOf (by omega) x1 ((40 * x3) + x4) q30.2 _ e_q31 ?_)
                    show V (D + 1) RX8 mdX8_who 122 [.ref 60, .int x1, .int x2, .int x3, .int x4, .int q30.1, .int ((40 * x3) + x4)] [.int q31.1] q31.2 post
                    refine st_goto dX8_who_122 133 (by decide) ?_
                    obtain rfl := Option.some.inj e_j34
                    exact st_sub [.null, .null, .null, .null, .null, .null, .null] ⟨Or.inl rfl, Or.inl rfl, Or.inl rfl, Or.inl rfl, Or.inl rfl, Or.inl rfl, Or.inl rfl, trivial⟩ kj60
                · replace e_j34 := (if_neg c61).symm.trans e_j34
                  refine st_aload_n dX8_who_100 rfl rfl ?_
                  refine st_iload dX8_who_101 rfl ?_
                  refine st_iload_n dX8_who_103 rfl rfl ?_
                  obtain ⟨q33, e_q33, e_j34⟩ := bnd e_j34
                  refine st_callV [.int ((40 * x3) + x4), .int x2] dX8_who_104 co_X8_potsOf im_X8_potsOf se_X8_potsOf ml_RX8_292 rfl (by decide) rfl (rfl : classes[8]? = some (RX8, TX8, 30)) rfl (S := []) rfl (Nat.le_of_ble_eq_true rfl) (k_X8_potsOf (by omega) ((40 * x3) + x4) x2 q30.2 _ e_q33 ?_)
                  show V (D + 1) RX8 mdX8_who 107 [.ref 60, .int x1, .int x2, .int x3, .int x4, .int q30.1, .int ((40 * x3) + x4)] [.int q33.1] q33.2 post
                  refine st_goto dX8_who_107 133 (by decide) ?_
                  obtain rfl := Option.some.inj e_j34
                  exact st_sub [.null, .null, .null, .null, .null, .null, .null] ⟨Or.inl rfl, Or.inl rfl, Or.inl rfl, Or.inl rfl, Or.inl rfl, Or.inl rfl, Or.inl rfl, trivial⟩ kj60
              · replace h := (if_neg c59).symm.trans h
                refine st_iload dX8_who_83 rfl ?_
                obtain rfl := Option.some.inj h
                exact st_iret dX8_who_85 rfl hp
            · replace h := (if_pos c58).symm.trans h
              refine st_ldc dX8_who_60 cn_RX8_82 ?_
              obtain rfl := Option.some.inj h
              exact st_iret dX8_who_62 rfl hp
      · replace h := (if_pos c37).symm.trans h
        refine st_aload_n dX8_who_32 rfl rfl ?_
        refine st_iload_n dX8_who_33 rfl rfl ?_
        obtain ⟨v4, e_v4, h⟩ := bnd h
        refine st_callV [.int x1] dX8_who_34 co_X8_isProject im_X8_isProject se_X8_isProject ml_RX8_238 rfl (by decide) rfl (rfl : classes[8]? = some (RX8, TX8, 30)) rfl (S := []) rfl (Nat.le_of_ble_eq_true rfl) (k_X8_isProject (by omega) x1 H1 _ e_v4 ?_)
        show V (D + 1) RX8 mdX8_who 37 [.ref 60, .int x1, .int x2, .int x3, .int x4, .null, .null] [.int v4] H1 post
        refine st_if_eq dX8_who_37 60 (by decide) (fun c38 => ?_) (fun c38 => ?_)
        · replace h := (if_pos c38).symm.trans h
          refine st_ldc dX8_who_60 cn_RX8_82 ?_
          obtain rfl := Option.some.inj h
          exact st_iret dX8_who_62 rfl hp
        · replace h := (if_neg c38).symm.trans h
          refine st_iload_n dX8_who_40 rfl rfl ?_
          refine st_iconst dX8_who_41 (v := 2) rfl ?_
          refine st_ic_le dX8_who_42 53 (by decide) (fun c39 => ?_) (fun c39 => ?_)
          · replace h := (if_pos c39).symm.trans h
            refine st_iload_n dX8_who_53 rfl rfl ?_
            obtain ⟨v5, e_v5, h⟩ := bnd h
            refine st_callS [.int x3] dX8_who_54 co_X8_isRow sm_X8_isRow ml_RX8_76 rfl (S := []) rfl (Nat.le_of_ble_eq_true rfl) (k_X8_isRow (by omega) x3 H1 _ e_v5 ?_)
            show V (D + 1) RX8 mdX8_who 57 [.ref 60, .int x1, .int x2, .int x3, .int x4, .null, .null] [.int v5] H1 post
            refine st_if_ne dX8_who_57 63 (by decide) (fun c40 => ?_) (fun c40 => ?_)
            · replace h := (if_neg c40).symm.trans h
              refine st_aload_n dX8_who_63 rfl rfl ?_
              refine st_iload_n dX8_who_64 rfl rfl ?_
              refine st_iload dX8_who_65 rfl ?_
              refine st_aload_n dX8_who_67 rfl rfl ?_
              refine gR8 dX8_who_68 (by decide) rfl 5 (by decide) fl_RX8_19 rfl 64 rfl ?_
              refine st_iconst dX8_who_71 (v := 0) rfl ?_
              obtain ⟨v6, e_v6, h⟩ := bnd h
              refine st_iald dX8_who_72 (by decide) rfl v6 e_v6 ?_
              obtain ⟨q7, e_q7, h⟩ := bnd h
              refine st_callV [.int x3, .int x4, .int v6] dX8_who_73 co_X8_rowFound im_X8_rowFound se_X8_rowFound ml_RX8_288 rfl (by decide) rfl (rfl : classes[8]? = some (RX8, TX8, 30)) rfl (S := []) rfl (Nat.le_of_ble_eq_true rfl) (k_X8_rowFound (by omega) x3 x4 v6 H1 _ e_q7 ?_)
              show V (D + 1) RX8 mdX8_who 76 [.ref 60, .int x1, .int x2, .int x3, .int x4, .null, .null] [.int q7.1] q7.2 post
              refine st_istore dX8_who_76 (by decide) [.ref 60, .int x1, .int x2, .int x3, .int x4, .int q7.1, .null] rfl ?_
              refine st_iload dX8_who_78 rfl ?_
              refine st_if_eq dX8_who_80 86 (by decide) (fun c41 => ?_) (fun c41 => ?_)
              · replace h := (if_pos c41).symm.trans h
                refine st_bipush dX8_who_86 (v := 40) (by decide) ?_
                refine st_iload_n dX8_who_88 rfl rfl ?_
                refine st_imul dX8_who_89 ?_
                refine st_iload dX8_who_90 rfl ?_
                refine st_iadd dX8_who_92 ?_
                refine st_istore dX8_who_93 (by decide) [.ref 60, .int x1, .int x2, .int x3, .int x4, .int q7.1, .int ((40 * x3) + x4)] rfl ?_
                refine st_iload_n dX8_who_95 rfl rfl ?_
                refine st_iconst dX8_who_96 (v := 2) rfl ?_
                obtain ⟨j11, e_j11, h⟩ := bnd h
                have kj42 : V (D + 1) RX8 mdX8_who 133 [.null, .null, .null, .null, .null, .null, .null] [.int j11.1] j11.2 post := by
                  obtain rfl := Option.some.inj h
                  exact st_iret dX8_who_133 rfl hp
                refine st_ic_ge dX8_who_97 110 (by decide) (fun c43 => ?_) (fun c43 => ?_)
                · replace e_j11 := (if_pos c43).symm.trans e_j11
                  refine st_iload_n dX8_who_110 rfl rfl ?_
                  refine st_iconst dX8_who_111 (v := 2) rfl ?_
                  refine st_ic_ne dX8_who_112 125 (by decide) (fun c44 => ?_) (fun c44 => ?_)
                  · replace e_j11 := (if_neg c44).symm.trans e_j11
                    refine st_aload_n dX8_who_125 rfl rfl ?_
                    refine st_iload_n dX8_who_126 rfl rfl ?_
                    refine st_iload dX8_who_127 rfl ?_
                    refine st_iload_n dX8_who_129 rfl rfl ?_
                    obtain ⟨q9, e_q9, e_j11⟩ := bnd e_j11
                    refine st_callV [.int x1, .int ((40 * x3) + x4), .int x2] dX8_who_130 co_X8_coinsOf im_X8_coinsOf se_X8_coinsOf ml_RX8_298 rfl (by decide) rfl (rfl : classes[8]? = some (RX8, TX8, 30)) rfl (S := []) rfl (Nat.le_of_ble_eq_true rfl) (k_X8_coinsOf (by omega) x1 ((40 * x3) + x4) x2 q7.2 _ e_q9 ?_)
                    show V (D + 1) RX8 mdX8_who 133 [.ref 60, .int x1, .int x2, .int x3, .int x4, .int q7.1, .int ((40 * x3) + x4)] [.int q9.1] q9.2 post
                    obtain rfl := Option.some.inj e_j11
                    exact st_sub [.null, .null, .null, .null, .null, .null, .null] ⟨Or.inl rfl, Or.inl rfl, Or.inl rfl, Or.inl rfl, Or.inl rfl, Or.inl rfl, Or.inl rfl, trivial⟩ kj42
                  · replace e_j11 := (if_pos c44).symm.trans e_j11
                    refine st_aload_n dX8_who_115 rfl rfl ?_
                    refine st_iload_n dX8_who_116 rfl rfl ?_
                    refine st_iload dX8_who_117 rfl ?_
                    obtain ⟨q8, e_q8, e_j11⟩ := bnd e_j11
                    refine st_callV [.int x1, .int ((40 * x3) + x4)] dX8_who_119 co_X8_kindsOf im_X8_kindsOf se_X8_kindsOf ml_RX8_295 rfl (by decide) rfl (rfl : classes[8]? = some (RX8, TX8, 30)) rfl (S := []) rfl (Nat.le_of_ble_eq_true rfl) (k_X8_kindsOf (by omega) x1 ((40 * x3) + x4) q7.2 _ e_q8 ?_)
                    show V (D + 1) RX8 mdX8_who 122 [.ref 60, .int x1, .int x2, .int x3, .int x4, .int q7.1, .int ((40 * x3) + x4)] [.int q8.1] q8.2 post
                    refine st_goto dX8_who_122 133 (by decide) ?_
                    obtain rfl := Option.some.inj e_j11
                    exact st_sub [.null, .null, .null, .null, .null, .null, .null] ⟨Or.inl rfl, Or.inl rfl, Or.inl rfl, Or.inl rfl, Or.inl rfl, Or.inl rfl, Or.inl rfl, trivial⟩ kj42
                · replace e_j11 := (if_neg c43).symm.trans e_j11
                  refine st_aload_n dX8_who_100 rfl rfl ?_
                  refine st_iload dX8_who_101 rfl ?_
                  refine st_iload_n dX8_who_103 rfl rfl ?_
                  obtain ⟨q10, e_q10, e_j11⟩ := bnd e_j11
                  refine st_callV [.int ((40 * x3) + x4), .int x2] dX8_who_104 co_X8_potsOf im_X8_potsOf se_X8_potsOf ml_RX8_292 rfl (by decide) rfl (rfl : classes[8]? = some (RX8, TX8, 30)) rfl (S := []) rfl (Nat.le_of_ble_eq_true rfl) (k_X8_potsOf (by omega) ((40 * x3) + x4) x2 q7.2 _ e_q10 ?_)
                  show V (D + 1) RX8 mdX8_who 107 [.ref 60, .int x1, .int x2, .int x3, .int x4, .int q7.1, .int ((40 * x3) + x4)] [.int q10.1] q10.2 post
                  refine st_goto dX8_who_107 133 (by decide) ?_
                  obtain rfl := Option.some.inj e_j11
                  exact st_sub [.null, .null, .null, .null, .null, .null, .null] ⟨Or.inl rfl, Or.inl rfl, Or.inl rfl, Or.inl rfl, Or.inl rfl, Or.inl rfl, Or.inl rfl, trivial⟩ kj42
              · replace h := (if_neg c41).symm.trans h
                refine st_iload dX8_who_83 rfl ?_
                obtain rfl := Option.some.inj h
                exact st_iret dX8_who_85 rfl hp
            · replace h := (if_pos c40).symm.trans h
              refine st_ldc dX8_who_60 cn_RX8_82 ?_
              obtain rfl := Option.some.inj h
              exact st_iret dX8_who_62 rfl hp
          · replace h := (if_neg c39).symm.trans h
            refine st_aload_n dX8_who_45 rfl rfl ?_
            refine st_iload_n dX8_who_46 rfl rfl ?_
            obtain ⟨v12, e_v12, h⟩ := bnd h
            refine st_callV [.int x1] dX8_who_47 co_X8_isGiftAt im_X8_isGiftAt se_X8_isGiftAt ml_RX8_250 rfl (by decide) rfl (rfl : classes[8]? = some (RX8, TX8, 30)) rfl (S := []) rfl (Nat.le_of_ble_eq_true rfl) (k_X8_isGiftAt (by omega) x1 H1 _ e_v12 ?_)
            show V (D + 1) RX8 mdX8_who 50 [.ref 60, .int x1, .int x2, .int x3, .int x4, .null, .null] [.int v12] H1 post
            refine st_if_eq dX8_who_50 60 (by decide) (fun c45 => ?_) (fun c45 => ?_)
            · replace h := (if_pos c45).symm.trans h
              refine st_ldc dX8_who_60 cn_RX8_82 ?_
              obtain rfl := Option.some.inj h
              exact st_iret dX8_who_62 rfl hp
            · replace h := (if_neg c45).symm.trans h
              refine st_iload_n dX8_who_53 rfl rfl ?_
              obtain ⟨v13, e_v13, h⟩ := bnd h
              refine st_callS [.int x3] dX8_who_54 co_X8_isRow sm_X8_isRow ml_RX8_76 rfl (S := []) rfl (Nat.le_of_ble_eq_true rfl) (k_X8_isRow (by omega) x3 H1 _ e_v13 ?_)
              show V (D + 1) RX8 mdX8_who 57 [.ref 60, .int x1, .int x2, .int x3, .int x4, .null, .null] [.int v13] H1 post
              refine st_if_ne dX8_who_57 63 (by decide) (fun c46 => ?_) (fun c46 => ?_)
              · replace h := (if_neg c46).symm.trans h
                refine st_aload_n dX8_who_63 rfl rfl ?_
                refine st_iload_n dX8_who_64 rfl rfl ?_
                refine st_iload dX8_who_65 rfl ?_
                refine st_aload_n dX8_who_67 rfl rfl ?_
                refine gR8 dX8_who_68 (by decide) rfl 5 (by decide) fl_RX8_19 rfl 64 rfl ?_
                refine st_iconst dX8_who_71 (v := 0) rfl ?_
                obtain ⟨v14, e_v14, h⟩ := bnd h
                refine st_iald dX8_who_72 (by decide) rfl v14 e_v14 ?_
                obtain ⟨q15, e_q15, h⟩ := bnd h
                refine st_callV [.int x3, .int x4, .int v14] dX8_who_73 co_X8_rowFound im_X8_rowFound se_X8_rowFound ml_RX8_288 rfl (by decide) rfl (rfl : classes[8]? = some (RX8, TX8, 30)) rfl (S := []) rfl (Nat.le_of_ble_eq_true rfl) (k_X8_rowFound (by omega) x3 x4 v14 H1 _ e_q15 ?_)
                show V (D + 1) RX8 mdX8_who 76 [.ref 60, .int x1, .int x2, .int x3, .int x4, .null, .null] [.int q15.1] q15.2 post
                refine st_istore dX8_who_76 (by decide) [.ref 60, .int x1, .int x2, .int x3, .int x4, .int q15.1, .null] rfl ?_
                refine st_iload dX8_who_78 rfl ?_
                refine st_if_eq dX8_who_80 86 (by decide) (fun c47 => ?_) (fun c47 => ?_)
                · replace h := (if_pos c47).symm.trans h
                  refine st_bipush dX8_who_86 (v := 40) (by decide) ?_
                  refine st_iload_n dX8_who_88 rfl rfl ?_
                  refine st_imul dX8_who_89 ?_
                  refine st_iload dX8_who_90 rfl ?_
                  refine st_iadd dX8_who_92 ?_
                  refine st_istore dX8_who_93 (by decide) [.ref 60, .int x1, .int x2, .int x3, .int x4, .int q15.1, .int ((40 * x3) + x4)] rfl ?_
                  refine st_iload_n dX8_who_95 rfl rfl ?_
                  refine st_iconst dX8_who_96 (v := 2) rfl ?_
                  obtain ⟨j19, e_j19, h⟩ := bnd h
                  have kj48 : V (D + 1) RX8 mdX8_who 133 [.null, .null, .null, .null, .null, .null, .null] [.int j19.1] j19.2 post := by
                    obtain rfl := Option.some.inj h
                    exact st_iret dX8_who_133 rfl hp
                  refine st_ic_ge dX8_who_97 110 (by decide) (fun c49 => ?_) (fun c49 => ?_)
                  · replace e_j19 := (if_pos c49).symm.trans e_j19
                    refine st_iload_n dX8_who_110 rfl rfl ?_
                    refine st_iconst dX8_who_111 (v := 2) rfl ?_
                    refine st_ic_ne dX8_who_112 125 (by decide) (fun c50 => ?_) (fun c50 => ?_)
                    · replace e_j19 := (if_neg c50).symm.trans e_j19
                      refine st_aload_n dX8_who_125 rfl rfl ?_
                      refine st_iload_n dX8_who_126 rfl rfl ?_
                      refine st_iload dX8_who_127 rfl ?_
                      refine st_iload_n dX8_who_129 rfl rfl ?_
                      obtain ⟨q17, e_q17, e_j19⟩ := bnd e_j19
                      refine st_callV [.int x1, .int ((40 * x3) + x4), .int x2] dX8_who_130 co_X8_coinsOf im_X8_coinsOf se_X8_coinsOf ml_RX8_298 rfl (by decide) rfl (rfl : classes[8]? = some (RX8, TX8, 30)) rfl (S := []) rfl (Nat.le_of_ble_eq_true rfl) (k_X8_coinsOf (by omega) x1 ((40 * x3) + x4) x2 q15.2 _ e_q17 ?_)
                      show V (D + 1) RX8 mdX8_who 133 [.ref 60, .int x1, .int x2, .int x3, .int x4, .int q15.1, .int ((40 * x3) + x4)] [.int q17.1] q17.2 post
                      obtain rfl := Option.some.inj e_j19
                      exact st_sub [.null, .null, .null, .null, .null, .null, .null] ⟨Or.inl rfl, Or.inl rfl, Or.inl rfl, Or.inl rfl, Or.inl rfl, Or.inl rfl, Or.inl rfl, trivial⟩ kj48
                    · replace e_j19 := (if_pos c50).symm.trans e_j19
                      refine st_aload_n dX8_who_115 rfl rfl ?_
                      refine st_iload_n dX8_who_116 rfl rfl ?_
                      refine st_iload dX8_who_117 rfl ?_
                      obtain ⟨q16, e_q16, e_j19⟩ := bnd e_j19
                      refine st_callV [.int x1, .int ((40 * x3) + x4)] dX8_who_119 co_X8_kindsOf im_X8_kindsOf se_X8_kindsOf ml_RX8_295 rfl (by decide) rfl (rfl : classes[8]? = some (RX8, TX8, 30)) rfl (S := []) rfl (Nat.le_of_ble_eq_true rfl) (k_X8_kindsOf (by omega) x1 ((40 * x3) + x4) q15.2 _ e_q16 ?_)
                      show V (D + 1) RX8 mdX8_who 122 [.ref 60, .int x1, .int x2, .int x3, .int x4, .int q15.1, .int ((40 * x3) + x4)] [.int q16.1] q16.2 post
                      refine st_goto dX8_who_122 133 (by decide) ?_
                      obtain rfl := Option.some.inj e_j19
                      exact st_sub [.null, .null, .null, .null, .null, .null, .null] ⟨Or.inl rfl, Or.inl rfl, Or.inl rfl, Or.inl rfl, Or.inl rfl, Or.inl rfl, Or.inl rfl, trivial⟩ kj48
                  · replace e_j19 := (if_neg c49).symm.trans e_j19
                    refine st_aload_n dX8_who_100 rfl rfl ?_
                    refine st_iload dX8_who_101 rfl ?_
                    refine st_iload_n dX8_who_103 rfl rfl ?_
                    obtain ⟨q18, e_q18, e_j19⟩ := bnd e_j19
                    refine st_callV [.int ((40 * x3) + x4), .int x2] dX8_who_104 co_X8_potsOf im_X8_potsOf se_X8_potsOf ml_RX8_292 rfl (by decide) rfl (rfl : classes[8]? = some (RX8, TX8, 30)) rfl (S := []) rfl (Nat.le_of_ble_eq_true rfl) (k_X8_potsOf (by omega) ((40 * x3) + x4) x2 q15.2 _ e_q18 ?_)
                    show V (D + 1) RX8 mdX8_who 107 [.ref 60, .int x1, .int x2, .int x3, .int x4, .int q15.1, .int ((40 * x3) + x4)] [.int q18.1] q18.2 post
                    refine st_goto dX8_who_107 133 (by decide) ?_
                    obtain rfl := Option.some.inj e_j19
                    exact st_sub [.null, .null, .null, .null, .null, .null, .null] ⟨Or.inl rfl, Or.inl rfl, Or.inl rfl, Or.inl rfl, Or.inl rfl, Or.inl rfl, Or.inl rfl, trivial⟩ kj48
                · replace h := (if_neg c47).symm.trans h
                  refine st_iload dX8_who_83 rfl ?_
                  obtain rfl := Option.some.inj h
                  exact st_iret dX8_who_85 rfl hp
              · replace h := (if_pos c46).symm.trans h
                refine st_ldc dX8_who_60 cn_RX8_82 ?_
                obtain rfl := Option.some.inj h
                exact st_iret dX8_who_62 rfl hp
  · replace h := (if_pos c35).symm.trans h
    refine st_ldc dX8_who_12 cn_RX8_253 ?_
    obtain rfl := Option.some.inj h
    exact st_iret dX8_who_14 rfl hp
def f_X8_likely_l94 (x3 : Int32) (x5 : Int32) (x10 : Int32) : Nat → Int64 → Int32 → Option (Int64)
  | 0, _, _ => none
  | n + 1, x11, x13 =>
    if 10 ≤ x13 then
      some x11
    else
      (f_X8_has x5 x13).bind fun v7 =>
      Option.bind (
        if v7 = 0 then
          some 1
        else
          (f_X8_has x10 x13).bind fun v8 =>
          if v8 = 0 then
            some (10 - x3.toInt64)
          else
            some x3.toInt64) fun j9 =>
      f_X8_likely_l94 x3 x5 x10 n (x11 * j9) (x13 + 1)
def f_X8_likely_l71 (x1 : Int32) (x2 : Int32) (x3 : Int32) (x5 : Int32) : Nat → Int64 → Int64 → Int32 → Hp → Option (Int64 × Int64 × Hp)
  | 0, _, _, _, _ => none
  | n + 1, x6, x8, x10, H =>
    if x5 < x10 then
      some (x6, x8, H)
    else
      Option.bind (
        if (x10 &&& (x5 ^^^ (-1))) = 0 then
          (f_X8_likely_l94 x3 x5 x10 fuel 1 0).bind fun l14 =>
          (f_X8_layWithout x10 H).bind fun H15 =>
          (ag H15 73 6 x1).bind fun v16 =>
          some ((x6 + (if v16 < x2 then 0 else l14)), (x8 + l14), H15)
        else
          some (x6, x8, H)) fun j17 =>
      f_X8_likely_l71 x1 x2 x3 x5 n j17.1 j17.2.1 (x10 + 1) j17.2.2
def f_X8_likely_l195 : Nat → Int64 → Int64 → Option (Int64)
  | 0, _, _ => none
  | n + 1, x10, x12 =>
    if x12 = 0 then
      some x10
    else
      if x12 = 0 then none else
      f_X8_likely_l195 n x12 (x10 - x10 / x12 * x12)
def f_X8_likely (x1 : Int32) (x2 : Int32) (x3 : Int32) (x4 : Int32) (H : Hp) : Option (Int64 × Hp) :=
  (pf H 60 0 0).bind fun H1 =>
  (f_X8_isProject x1 H1).bind fun v2 =>
  if v2 = 0 then
    some ((-1000001), H1)
  else
    (f_X8_in x2.toInt64 0 9999).bind fun v3 =>
    if v3 = 0 then
      some ((-1000001), H1)
    else
      (f_X8_in x3.toInt64 0 10).bind fun v4 =>
      if v4 = 0 then
        some ((-1000001), H1)
      else
        (f_X8_in x4.toInt64 0 1).bind fun v5 =>
        if v5 = 0 then
          some ((-1000001), H1)
        else
          (f_X8_givers 64 H1).bind fun q6 =>
          (f_X8_likely_l71 x1 x2 x3 q6.1 fuel 0 0 0 q6.2).bind fun l24 =>
          (f_X8_likely_l195 fuel l24.1 l24.2.1).bind fun l27 =>
          if l27 = 0 then none else
          some (((if x4 = 0 then l24.1 else l24.2.1) / l27), l24.2.2)
set_option maxHeartbeats 4000000 in
set_option maxRecDepth 100000 in
theorem k_X8_likely_l94 {D : Nat} (hD : 5 ≤ (D + 1)) (H : Hp) (x3 : Int32) (x5 : Int32) (x10 : Int32) (x1 : Int32) (x2 : Int32) (x4 : Int32) (x6 : Int64) (x8 : Int64) {post : Option Value → Hp → Prop} : ∀ (n : Nat) (x11 : Int64) (x13 : Int32) (q : Int64), f_X8_likely_l94 x3 x5 x10 n x11 x13 = some q → V (D + 1) RX8 mdX8_likely 147 [.ref 60, .int x1, .int x2, .int x3, .int x4, .int x5, .long x6, .null, .long x8, .null, .int x10, .long q, .null, .null, .null, .null] [] H post → V (D + 1) RX8 mdX8_likely 94 [.ref 60, .int x1, .int x2, .int x3, .int x4, .int x5, .long x6, .null, .long x8, .null, .int x10, .long x11, .null, .int x13, .null, .null] [] H post := by
  intro n
  induction n with
  | zero => intro x11 x13 q h; simp [f_X8_likely_l94] at h
  | succ n ih =>
    intro x11 x13 q h k1
    rw [f_X8_likely_l94] at h
    refine st_iload dX8_likely_94 rfl ?_
    refine st_bipush dX8_likely_96 (v := 10) (by decide) ?_
    refine st_ic_ge dX8_likely_98 147 (by decide) (fun c10 => ?_) (fun c10 => ?_)
    · replace h := (if_pos c10).symm.trans h
      obtain rfl := Option.some.inj h
      exact st_sub [.ref 60, .int x1, .int x2, .int x3, .int x4, .int x5, .long x6, .null, .long x8, .null, .int x10, .long x11, .null, .null, .null, .null] ⟨Or.inr rfl, Or.inr rfl, Or.inr rfl, Or.inr rfl, Or.inr rfl, Or.inr rfl, Or.inr rfl, Or.inl rfl, Or.inr rfl, Or.inl rfl, Or.inr rfl, Or.inr rfl, Or.inl rfl, Or.inl rfl, Or.inl rfl, Or.inl rfl, trivial⟩ k1
    · replace h := (if_neg c10).symm.trans h
      refine st_lload dX8_likely_101 rfl ?_
      refine st_iload dX8_likely_103 rfl ?_
      refine st_iload dX8_likely_105 rfl ?_
      obtain ⟨v7, e_v7, h⟩ := bnd h
      refine st_callS [.int x5, .int x13] dX8_likely_107 co_X8_has sm_X8_has ml_RX8_266 rfl (S := [.long x11]) rfl (Nat.le_of_ble_eq_true rfl) (k_X8_has (by omega) x5 x13 H _ e_v7 ?_)
      show V (D + 1) RX8 mdX8_likely 110 [.ref 60, .int x1, .int x2, .int x3, .int x4, .int x5, .long x6, .null, .long x8, .null, .int x10, .long x11, .null, .int x13, .null, .null] [.int v7, .long x11] H post
      obtain ⟨j9, e_j9, h⟩ := bnd h
      have kj11 : V (D + 1) RX8 mdX8_likely 138 [.ref 60, .int x1, .int x2, .int x3, .int x4, .int x5, .long x6, .null, .long x8, .null, .int x10, .null, .null, .int x13, .null, .null] [.long j9, .long x11] H post := by
        refine st_lmul dX8_likely_138 ?_
        refine st_lstore dX8_likely_139 (by decide) [.ref 60, .int x1, .int x2, .int x3, .int x4, .int x5, .long x6, .null, .long x8, .null, .int x10, .long (x11 * j9), .null, .int x13, .null, .null] rfl ?_
        refine st_iinc dX8_likely_141 rfl (v := (x13 + 1)) rfl (by decide) [.ref 60, .int x1, .int x2, .int x3, .int x4, .int x5, .long x6, .null, .long x8, .null, .int x10, .long (x11 * j9), .null, .int (x13 + 1), .null, .null] rfl ?_
        refine st_goto dX8_likely_144 94 (by decide) ?_
        exact ih (x11 * j9) (x13 + 1) q h k1
      refine st_if_ne dX8_likely_110 117 (by decide) (fun c12 => ?_) (fun c12 => ?_)
      · replace e_j9 := (if_neg c12).symm.trans e_j9
        refine st_iload dX8_likely_117 rfl ?_
        refine st_iload dX8_likely_119 rfl ?_
        obtain ⟨v8, e_v8, e_j9⟩ := bnd e_j9
        refine st_callS [.int x10, .int x13] dX8_likely_121 co_X8_has sm_X8_has ml_RX8_266 rfl (S := [.long x11]) rfl (Nat.le_of_ble_eq_true rfl) (k_X8_has (by omega) x10 x13 H _ e_v8 ?_)
        show V (D + 1) RX8 mdX8_likely 124 [.ref 60, .int x1, .int x2, .int x3, .int x4, .int x5, .long x6, .null, .long x8, .null, .int x10, .long x11, .null, .int x13, .null, .null] [.int v8, .long x11] H post
        refine st_if_eq dX8_likely_124 132 (by decide) (fun c13 => ?_) (fun c13 => ?_)
        · replace e_j9 := (if_pos c13).symm.trans e_j9
          refine st_ldc2 dX8_likely_132 cl_RX8_301 ?_
          refine st_iload_n dX8_likely_135 rfl rfl ?_
          refine st_i2l dX8_likely_136 ?_
          refine st_lsub dX8_likely_137 ?_
          obtain rfl := Option.some.inj e_j9
          exact st_sub [.ref 60, .int x1, .int x2, .int x3, .int x4, .int x5, .long x6, .null, .long x8, .null, .int x10, .null, .null, .int x13, .null, .null] ⟨Or.inr rfl, Or.inr rfl, Or.inr rfl, Or.inr rfl, Or.inr rfl, Or.inr rfl, Or.inr rfl, Or.inl rfl, Or.inr rfl, Or.inl rfl, Or.inr rfl, Or.inl rfl, Or.inl rfl, Or.inr rfl, Or.inl rfl, Or.inl rfl, trivial⟩ kj11
        · replace e_j9 := (if_neg c13).symm.trans e_j9
          refine st_iload_n dX8_likely_127 rfl rfl ?_
          refine st_i2l dX8_likely_128 ?_
          refine st_goto dX8_likely_129 138 (by decide) ?_
          obtain rfl := Option.some.inj e_j9
          exact st_sub [.ref 60, .int x1, .int x2, .int x3, .int x4, .int x5, .long x6, .null, .long x8, .null, .int x10, .null, .null, .int x13, .null, .null] ⟨Or.inr rfl, Or.inr rfl, Or.inr rfl, Or.inr rfl, Or.inr rfl, Or.inr rfl, Or.inr rfl, Or.inl rfl, Or.inr rfl, Or.inl rfl, Or.inr rfl, Or.inl rfl, Or.inl rfl, Or.inr rfl, Or.inl rfl, Or.inl rfl, trivial⟩ kj11
      · replace e_j9 := (if_pos c12).symm.trans e_j9
        refine st_lconst dX8_likely_113 (v := 1) rfl ?_
        refine st_goto dX8_likely_114 138 (by decide) ?_
        obtain rfl := Option.some.inj e_j9
        exact st_sub [.ref 60, .int x1, .int x2, .int x3, .int x4, .int x5, .long x6, .null, .long x8, .null, .int x10, .null, .null, .int x13, .null, .null] ⟨Or.inr rfl, Or.inr rfl, Or.inr rfl, Or.inr rfl, Or.inr rfl, Or.inr rfl, Or.inr rfl, Or.inl rfl, Or.inr rfl, Or.inl rfl, Or.inr rfl, Or.inl rfl, Or.inl rfl, Or.inr rfl, Or.inl rfl, Or.inl rfl, trivial⟩ kj11
set_option maxHeartbeats 4000000 in
set_option maxRecDepth 100000 in
theorem k_X8_likely_l71 {D : Nat} (hD : 5 ≤ (D + 1)) (x1 : Int32) (x2 : Int32) (x3 : Int32) (x5 : Int32) (x4 : Int32) {post : Option Value → Hp → Prop} : ∀ (n : Nat) (x6 : Int64) (x8 : Int64) (x10 : Int32) (H : Hp) (q : Int64 × Int64 × Hp), f_X8_likely_l71 x1 x2 x3 x5 n x6 x8 x10 H = some q → V (D + 1) RX8 mdX8_likely 187 [.null, .null, .null, .null, .int x4, .null, .long q.1, .null, .long q.2.1, .null, .null, .null, .null, .null, .null, .null] [] q.2.2 post → V (D + 1) RX8 mdX8_likely 71 [.ref 60, .int x1, .int x2, .int x3, .int x4, .int x5, .long x6, .null, .long x8, .null, .int x10, .null, .null, .null, .null, .null] [] H post := by
  intro n
  induction n with
  | zero => intro x6 x8 x10 H q h; simp [f_X8_likely_l71] at h
  | succ n ih =>
    intro x6 x8 x10 H q h k1
    rw [f_X8_likely_l71] at h
    refine st_iload dX8_likely_71 rfl ?_
    refine st_iload dX8_likely_73 rfl ?_
    refine st_ic_gt dX8_likely_75 187 (by decide) (fun c18 => ?_) (fun c18 => ?_)
    · replace h := (if_pos c18).symm.trans h
      obtain rfl := Option.some.inj h
      exact st_sub [.null, .null, .null, .null, .int x4, .null, .long x6, .null, .long x8, .null, .null, .null, .null, .null, .null, .null] ⟨Or.inl rfl, Or.inl rfl, Or.inl rfl, Or.inl rfl, Or.inr rfl, Or.inl rfl, Or.inr rfl, Or.inl rfl, Or.inr rfl, Or.inl rfl, Or.inl rfl, Or.inl rfl, Or.inl rfl, Or.inl rfl, Or.inl rfl, Or.inl rfl, trivial⟩ k1
    · replace h := (if_neg c18).symm.trans h
      refine st_iload dX8_likely_78 rfl ?_
      refine st_iload dX8_likely_80 rfl ?_
      refine st_iconst dX8_likely_82 (v := (-1)) rfl ?_
      refine st_ixor dX8_likely_83 ?_
      refine st_iand dX8_likely_84 ?_
      obtain ⟨j17, e_j17, h⟩ := bnd h
      have kj19 : V (D + 1) RX8 mdX8_likely 181 [.ref 60, .int x1, .int x2, .int x3, .int x4, .int x5, .long j17.1, .null, .long j17.2.1, .null, .int x10, .null, .null, .null, .null, .null] [] j17.2.2 post := by
        refine st_iinc dX8_likely_181 rfl (v := (x10 + 1)) rfl (by decide) [.ref 60, .int x1, .int x2, .int x3, .int x4, .int x5, .long j17.1, .null, .long j17.2.1, .null, .int (x10 + 1), .null, .null, .null, .null, .null] rfl ?_
        refine st_goto dX8_likely_184 71 (by decide) ?_
        exact ih j17.1 j17.2.1 (x10 + 1) j17.2.2 q h k1
      refine st_if_ne dX8_likely_85 181 (by decide) (fun c20 => ?_) (fun c20 => ?_)
      · replace e_j17 := (if_neg c20).symm.trans e_j17
        obtain rfl := Option.some.inj e_j17
        exact kj19
      · replace e_j17 := (if_pos c20).symm.trans e_j17
        refine st_lconst dX8_likely_88 (v := 1) rfl ?_
        refine st_lstore dX8_likely_89 (by decide) [.ref 60, .int x1, .int x2, .int x3, .int x4, .int x5, .long x6, .null, .long x8, .null, .int x10, .long 1, .null, .null, .null, .null] rfl ?_
        refine st_iconst dX8_likely_91 (v := 0) rfl ?_
        refine st_istore dX8_likely_92 (by decide) [.ref 60, .int x1, .int x2, .int x3, .int x4, .int x5, .long x6, .null, .long x8, .null, .int x10, .long 1, .null, .int 0, .null, .null] rfl ?_
        obtain ⟨l14, e_l14, e_j17⟩ := bnd e_j17
        refine k_X8_likely_l94 (by omega) H x3 x5 x10 x1 x2 x4 x6 x8 fuel 1 0 _ e_l14 ?_
        refine st_aload_n dX8_likely_147 rfl rfl ?_
        refine st_iload dX8_likely_148 rfl ?_
        obtain ⟨H15, e_H15, e_j17⟩ := bnd e_j17
        refine st_callV [.int x10] dX8_likely_150 co_X8_layWithout im_X8_layWithout se_X8_layWithout ml_RX8_272 rfl (by decide) rfl (rfl : classes[8]? = some (RX8, TX8, 30)) rfl (S := []) rfl (Nat.le_of_ble_eq_true rfl) (k_X8_layWithout (by omega) x10 H _ e_H15 ?_)
        show V (D + 1) RX8 mdX8_likely 153 [.ref 60, .int x1, .int x2, .int x3, .int x4, .int x5, .long x6, .null, .long x8, .null, .int x10, .long l14, .null, .null, .null, .null] [] H15 post
        refine st_lload dX8_likely_153 rfl ?_
        refine st_lload dX8_likely_155 rfl ?_
        refine st_ladd dX8_likely_157 ?_
        refine st_lstore dX8_likely_158 (by decide) [.ref 60, .int x1, .int x2, .int x3, .int x4, .int x5, .long x6, .null, .long (x8 + l14), .null, .int x10, .long l14, .null, .null, .null, .null] rfl ?_
        refine st_lload dX8_likely_160 rfl ?_
        refine st_aload_n dX8_likely_162 rfl rfl ?_
        refine gR8 dX8_likely_163 (by decide) rfl 23 (by decide) fl_RX8_46 rfl 73 rfl ?_
        refine st_iload_n dX8_likely_166 rfl rfl ?_
        obtain ⟨v16, e_v16, e_j17⟩ := bnd e_j17
        refine st_iald dX8_likely_167 (by decide) rfl v16 e_v16 ?_
        refine st_iload_n dX8_likely_168 rfl rfl ?_
        have kj22 : ∀ z21 : Int64, z21 = (if v16 < x2 then 0 else l14) → V (D + 1) RX8 mdX8_likely 178 [.ref 60, .int x1, .int x2, .int x3, .int x4, .int x5, .null, .null, .long (x8 + l14), .null, .int x10, .null, .null, .null, .null, .null] [.long z21, .long x6] H15 post := by
          intro z21 ez21
          subst ez21
          refine st_ladd dX8_likely_178 ?_
          refine st_lstore dX8_likely_179 (by decide) [.ref 60, .int x1, .int x2, .int x3, .int x4, .int x5, .long (x6 + (if v16 < x2 then 0 else l14)), .null, .long (x8 + l14), .null, .int x10, .null, .null, .null, .null, .null] rfl ?_
          obtain rfl := Option.some.inj e_j17
          exact kj19
        refine st_ic_lt dX8_likely_169 177 (by decide) (fun c23 => ?_) (fun c23 => ?_)
        · refine st_lconst dX8_likely_177 (v := 0) rfl ?_
          exact st_sub [.ref 60, .int x1, .int x2, .int x3, .int x4, .int x5, .null, .null, .long (x8 + l14), .null, .int x10, .null, .null, .null, .null, .null] ⟨Or.inr rfl, Or.inr rfl, Or.inr rfl, Or.inr rfl, Or.inr rfl, Or.inr rfl, Or.inl rfl, Or.inl rfl, Or.inr rfl, Or.inl rfl, Or.inr rfl, Or.inl rfl, Or.inl rfl, Or.inl rfl, Or.inl rfl, Or.inl rfl, trivial⟩ (kj22 _ (Eq.symm (if_pos c23)))
        · refine st_lload dX8_likely_172 rfl ?_
          refine st_goto dX8_likely_174 178 (by decide) ?_
          exact st_sub [.ref 60, .int x1, .int x2, .int x3, .int x4, .int x5, .null, .null, .long (x8 + l14), .null, .int x10, .null, .null, .null, .null, .null] ⟨Or.inr rfl, Or.inr rfl, Or.inr rfl, Or.inr rfl, Or.inr rfl, Or.inr rfl, Or.inl rfl, Or.inl rfl, Or.inr rfl, Or.inl rfl, Or.inr rfl, Or.inl rfl, Or.inl rfl, Or.inl rfl, Or.inl rfl, Or.inl rfl, trivial⟩ (kj22 _ (Eq.symm (if_neg c23)))
set_option maxHeartbeats 4000000 in
set_option maxRecDepth 100000 in
theorem k_X8_likely_l195 {D : Nat} (hD : 5 ≤ (D + 1)) (H : Hp) (x4 : Int32) (x6 : Int64) (x8 : Int64) {post : Option Value → Hp → Prop} : ∀ (n : Nat) (x10 : Int64) (x12 : Int64) (q : Int64), f_X8_likely_l195 n x10 x12 = some q → V (D + 1) RX8 mdX8_likely 220 [.null, .null, .null, .null, .int x4, .null, .long x6, .null, .long x8, .null, .long q, .null, .null, .null, .null, .null] [] H post → V (D + 1) RX8 mdX8_likely 195 [.null, .null, .null, .null, .int x4, .null, .long x6, .null, .long x8, .null, .long x10, .null, .long x12, .null, .null, .null] [] H post := by
  intro n
  induction n with
  | zero => intro x10 x12 q h; simp [f_X8_likely_l195] at h
  | succ n ih =>
    intro x10 x12 q h k1
    rw [f_X8_likely_l195] at h
    refine st_lload dX8_likely_195 rfl ?_
    refine st_lconst dX8_likely_197 (v := 0) rfl ?_
    refine st_lcmp dX8_likely_198 ?_
    refine st_if_eq dX8_likely_199 220 (by decide) (fun c25 => ?_) (fun c25 => ?_)
    · replace c25 := (lg_cmp_eq x12 0).mp c25
      replace h := (if_pos c25).symm.trans h
      obtain rfl := Option.some.inj h
      exact st_sub [.null, .null, .null, .null, .int x4, .null, .long x6, .null, .long x8, .null, .long x10, .null, .null, .null, .null, .null] ⟨Or.inl rfl, Or.inl rfl, Or.inl rfl, Or.inl rfl, Or.inr rfl, Or.inl rfl, Or.inr rfl, Or.inl rfl, Or.inr rfl, Or.inl rfl, Or.inr rfl, Or.inl rfl, Or.inl rfl, Or.inl rfl, Or.inl rfl, Or.inl rfl, trivial⟩ k1
    · replace c25 := (not_congr (lg_cmp_eq x12 0)).mp c25
      replace h := (if_neg c25).symm.trans h
      refine st_lload dX8_likely_202 rfl ?_
      refine st_lload dX8_likely_204 rfl ?_
      have n26 : ¬ x12 = 0 := fun z => by rw [if_pos z] at h; cases h
      replace h := (if_neg n26).symm.trans h
      refine st_lrem dX8_likely_206 n26 ?_
      refine st_lstore dX8_likely_207 (by decide) [.null, .null, .null, .null, .int x4, .null, .long x6, .null, .long x8, .null, .long x10, .null, .long x12, .null, .long (x10 - x10 / x12 * x12), .null] rfl ?_
      refine st_lload dX8_likely_209 rfl ?_
      refine st_lstore dX8_likely_211 (by decide) [.null, .null, .null, .null, .int x4, .null, .long x6, .null, .long x8, .null, .long x12, .null, .long x12, .null, .long (x10 - x10 / x12 * x12), .null] rfl ?_
      refine st_lload dX8_likely_213 rfl ?_
      refine st_lstore dX8_likely_215 (by decide) [.null, .null, .null, .null, .int x4, .null, .long x6, .null, .long x8, .null, .long x12, .null, .long (x10 - x10 / x12 * x12), .null, .long (x10 - x10 / x12 * x12), .null] rfl ?_
      refine st_goto dX8_likely_217 195 (by decide) ?_
      exact st_sub [.null, .null, .null, .null, .int x4, .null, .long x6, .null, .long x8, .null, .long x12, .null, .long (x10 - x10 / x12 * x12), .null, .null, .null] ⟨Or.inl rfl, Or.inl rfl, Or.inl rfl, Or.inl rfl, Or.inr rfl, Or.inl rfl, Or.inr rfl, Or.inl rfl, Or.inr rfl, Or.inl rfl, Or.inr rfl, Or.inl rfl, Or.inr rfl, Or.inl rfl, Or.inl rfl, Or.inl rfl, trivial⟩ (ih x12 (x10 - x10 / x12 * x12) q h k1)
set_option maxHeartbeats 4000000 in
set_option maxRecDepth 100000 in
theorem k_X8_likely {D : Nat} (hD : 5 ≤ D) (x1 : Int32) (x2 : Int32) (x3 : Int32) (x4 : Int32) (H : Hp) (q : Int64 × Hp) (h : f_X8_likely x1 x2 x3 x4 H = some q) {post : Option Value → Hp → Prop} (hp : post (some (.long q.1)) q.2) : Sem D mdX8_likely [.ref 60, .int x1, .int x2, .int x3, .int x4] H post := by
  obtain ⟨D, rfl⟩ : ∃ E, D = E + 1 := ⟨D - 1, by omega⟩
  refine sem_of (own := RX8) rfl pn_RX8 (Nat.le_of_ble_eq_true rfl) [.ref 60, .int x1, .int x2, .int x3, .int x4, .null, .null, .null, .null, .null, .null, .null, .null, .null, .null, .null] ⟨Or.inr rfl, Or.inr rfl, Or.inr rfl, Or.inr rfl, Or.inr rfl, rfl, rfl, rfl, rfl, rfl, rfl, rfl, rfl, rfl, rfl, rfl, trivial⟩ ?_
  unfold f_X8_likely at h
  refine st_aload_n dX8_likely_0 rfl rfl ?_
  refine st_iconst dX8_likely_1 (v := 0) rfl ?_
  obtain ⟨H1, e_H1, h⟩ := bnd h
  refine pI8 dX8_likely_2 (by decide) rfl 0 (by decide) fl_RX8_62 rfl rfl rfl rfl e_H1 ?_
  refine st_aload_n dX8_likely_5 rfl rfl ?_
  refine st_iload_n dX8_likely_6 rfl rfl ?_
  obtain ⟨v2, e_v2, h⟩ := bnd h
  refine st_callV [.int x1] dX8_likely_7 co_X8_isProject im_X8_isProject se_X8_isProject ml_RX8_238 rfl (by decide) rfl (rfl : classes[8]? = some (RX8, TX8, 30)) rfl (S := []) rfl (Nat.le_of_ble_eq_true rfl) (k_X8_isProject (by omega) x1 H1 _ e_v2 ?_)
  show V (D + 1) RX8 mdX8_likely 10 [.ref 60, .int x1, .int x2, .int x3, .int x4, .null, .null, .null, .null, .null, .null, .null, .null, .null, .null, .null] [.int v2] H1 post
  refine st_if_eq dX8_likely_10 48 (by decide) (fun c28 => ?_) (fun c28 => ?_)
  · replace h := (if_pos c28).symm.trans h
    refine st_ldc2 dX8_likely_48 cl_RX8_303 ?_
    obtain rfl := Option.some.inj h
    exact st_lret dX8_likely_51 rfl hp
  · replace h := (if_neg c28).symm.trans h
    refine st_iload_n dX8_likely_13 rfl rfl ?_
    refine st_i2l dX8_likely_14 ?_
    refine st_lconst dX8_likely_15 (v := 0) rfl ?_
    refine st_ldc2 dX8_likely_16 cl_RX8_264 ?_
    obtain ⟨v3, e_v3, h⟩ := bnd h
    refine st_callS [.long x2.toInt64, .long 0, .long 9999] dX8_likely_19 co_X8_in sm_X8_in ml_RX8_72 rfl (S := []) rfl (Nat.le_of_ble_eq_true rfl) (k_X8_in (by omega) x2.toInt64 0 9999 H1 _ e_v3 ?_)
    show V (D + 1) RX8 mdX8_likely 22 [.ref 60, .int x1, .int x2, .int x3, .int x4, .null, .null, .null, .null, .null, .null, .null, .null, .null, .null, .null] [.int v3] H1 post
    refine st_if_eq dX8_likely_22 48 (by decide) (fun c29 => ?_) (fun c29 => ?_)
    · replace h := (if_pos c29).symm.trans h
      refine st_ldc2 dX8_likely_48 cl_RX8_303 ?_
      obtain rfl := Option.some.inj h
      exact st_lret dX8_likely_51 rfl hp
    · replace h := (if_neg c29).symm.trans h
      refine st_iload_n dX8_likely_25 rfl rfl ?_
      refine st_i2l dX8_likely_26 ?_
      refine st_lconst dX8_likely_27 (v := 0) rfl ?_
      refine st_ldc2 dX8_likely_28 cl_RX8_301 ?_
      obtain ⟨v4, e_v4, h⟩ := bnd h
      refine st_callS [.long x3.toInt64, .long 0, .long 10] dX8_likely_31 co_X8_in sm_X8_in ml_RX8_72 rfl (S := []) rfl (Nat.le_of_ble_eq_true rfl) (k_X8_in (by omega) x3.toInt64 0 10 H1 _ e_v4 ?_)
      show V (D + 1) RX8 mdX8_likely 34 [.ref 60, .int x1, .int x2, .int x3, .int x4, .null, .null, .null, .null, .null, .null, .null, .null, .null, .null, .null] [.int v4] H1 post
      refine st_if_eq dX8_likely_34 48 (by decide) (fun c30 => ?_) (fun c30 => ?_)
      · replace h := (if_pos c30).symm.trans h
        refine st_ldc2 dX8_likely_48 cl_RX8_303 ?_
        obtain rfl := Option.some.inj h
        exact st_lret dX8_likely_51 rfl hp
      · replace h := (if_neg c30).symm.trans h
        refine st_iload dX8_likely_37 rfl ?_
        refine st_i2l dX8_likely_39 ?_
        refine st_lconst dX8_likely_40 (v := 0) rfl ?_
        refine st_lconst dX8_likely_41 (v := 1) rfl ?_
        obtain ⟨v5, e_v5, h⟩ := bnd h
        refine st_callS [.long x4.toInt64, .long 0, .long 1] dX8_likely_42 co_X8_in sm_X8_in ml_RX8_72 rfl (S := []) rfl (Nat.le_of_ble_eq_true rfl) (k_X8_in (by omega) x4.toInt64 0 1 H1 _ e_v5 ?_)
        show V (D + 1) RX8 mdX8_likely 45 [.ref 60, .int x1, .int x2, .int x3, .int x4, .null, .null, .null, .null, .null, .null, .null, .null, .null, .null, .null] [.int v5] H1 post
        refine st_if_ne dX8_likely_45 52 (by decide) (fun c31 => ?_) (fun c31 => ?_)
        · replace h := (if_neg c31).symm.trans h
          refine st_aload_n dX8_likely_52 rfl rfl ?_
          refine st_aload_n dX8_likely_53 rfl rfl ?_
          refine gR8 dX8_likely_54 (by decide) rfl 5 (by decide) fl_RX8_19 rfl 64 rfl ?_
          obtain ⟨q6, e_q6, h⟩ := bnd h
          refine st_callV [.ref 64] dX8_likely_57 co_X8_givers im_X8_givers se_X8_givers ml_RX8_269 rfl (by decide) rfl (rfl : classes[8]? = some (RX8, TX8, 30)) rfl (S := []) rfl (Nat.le_of_ble_eq_true rfl) (k_X8_givers (by omega) RC64 H1 _ e_q6 ?_)
          show V (D + 1) RX8 mdX8_likely 60 [.ref 60, .int x1, .int x2, .int x3, .int x4, .null, .null, .null, .null, .null, .null, .null, .null, .null, .null, .null] [.int q6.1] q6.2 post
          refine st_istore dX8_likely_60 (by decide) [.ref 60, .int x1, .int x2, .int x3, .int x4, .int q6.1, .null, .null, .null, .null, .null, .null, .null, .null, .null, .null] rfl ?_
          refine st_lconst dX8_likely_62 (v := 0) rfl ?_
          refine st_lstore dX8_likely_63 (by decide) [.ref 60, .int x1, .int x2, .int x3, .int x4, .int q6.1, .long 0, .null, .null, .null, .null, .null, .null, .null, .null, .null] rfl ?_
          refine st_lconst dX8_likely_65 (v := 0) rfl ?_
          refine st_lstore dX8_likely_66 (by decide) [.ref 60, .int x1, .int x2, .int x3, .int x4, .int q6.1, .long 0, .null, .long 0, .null, .null, .null, .null, .null, .null, .null] rfl ?_
          refine st_iconst dX8_likely_68 (v := 0) rfl ?_
          refine st_istore dX8_likely_69 (by decide) [.ref 60, .int x1, .int x2, .int x3, .int x4, .int q6.1, .long 0, .null, .long 0, .null, .int 0, .null, .null, .null, .null, .null] rfl ?_
          obtain ⟨l24, e_l24, h⟩ := bnd h
          refine k_X8_likely_l71 (by omega) x1 x2 x3 q6.1 x4 fuel 0 0 0 q6.2 _ e_l24 ?_
          refine st_lload dX8_likely_187 rfl ?_
          refine st_lstore dX8_likely_189 (by decide) [.null, .null, .null, .null, .int x4, .null, .long l24.1, .null, .long l24.2.1, .null, .long l24.1, .null, .null, .null, .null, .null] rfl ?_
          refine st_lload dX8_likely_191 rfl ?_
          refine st_lstore dX8_likely_193 (by decide) [.null, .null, .null, .null, .int x4, .null, .long l24.1, .null, .long l24.2.1, .null, .long l24.1, .null, .long l24.2.1, .null, .null, .null] rfl ?_
          obtain ⟨l27, e_l27, h⟩ := bnd h
          refine k_X8_likely_l195 (by omega) l24.2.2 x4 l24.1 l24.2.1 fuel l24.1 l24.2.1 _ e_l27 ?_
          refine st_iload dX8_likely_220 rfl ?_
          have kj33 : ∀ z32 : Int64, z32 = (if x4 = 0 then l24.1 else l24.2.1) → V (D + 1) RX8 mdX8_likely 232 [.null, .null, .null, .null, .null, .null, .null, .null, .null, .null, .long l27, .null, .null, .null, .null, .null] [.long z32] l24.2.2 post := by
            intro z32 ez32
            subst ez32
            refine st_lload dX8_likely_232 rfl ?_
            have n34 : ¬ l27 = 0 := fun z => by rw [if_pos z] at h; cases h
            replace h := (if_neg n34).symm.trans h
            refine st_ldiv dX8_likely_234 n34 ?_
            obtain rfl := Option.some.inj h
            exact st_lret dX8_likely_235 rfl hp
          refine st_if_ne dX8_likely_222 230 (by decide) (fun c35 => ?_) (fun c35 => ?_)
          · refine st_lload dX8_likely_230 rfl ?_
            exact st_sub [.null, .null, .null, .null, .null, .null, .null, .null, .null, .null, .long l27, .null, .null, .null, .null, .null] ⟨Or.inl rfl, Or.inl rfl, Or.inl rfl, Or.inl rfl, Or.inl rfl, Or.inl rfl, Or.inl rfl, Or.inl rfl, Or.inl rfl, Or.inl rfl, Or.inr rfl, Or.inl rfl, Or.inl rfl, Or.inl rfl, Or.inl rfl, Or.inl rfl, trivial⟩ (kj33 _ (Eq.symm (if_neg c35)))
          · refine st_lload dX8_likely_225 rfl ?_
            refine st_goto dX8_likely_227 232 (by decide) ?_
            exact st_sub [.null, .null, .null, .null, .null, .null, .null, .null, .null, .null, .long l27, .null, .null, .null, .null, .null] ⟨Or.inl rfl, Or.inl rfl, Or.inl rfl, Or.inl rfl, Or.inl rfl, Or.inl rfl, Or.inl rfl, Or.inl rfl, Or.inl rfl, Or.inl rfl, Or.inr rfl, Or.inl rfl, Or.inl rfl, Or.inl rfl, Or.inl rfl, Or.inl rfl, trivial⟩ (kj33 _ (Eq.symm (if_pos c35)))
        · replace h := (if_pos c31).symm.trans h
          refine st_ldc2 dX8_likely_48 cl_RX8_303 ?_
          obtain rfl := Option.some.inj h
          exact st_lret dX8_likely_51 rfl hp
def f_X8_drawn_l74 (x1 : Int32) : Nat → Int64 → Int32 → Int32 → Hp → Option (Int32 × Hp)
  | 0, _, _, _, _ => none
  | n + 1, x4, x6, x7, H =>
    if x1 ≤ x7 then
      some (x6, H)
    else
      (ag H 66 80 3).bind fun v8 =>
      Option.bind (
        if v8 ≤ 0 then
          some H
        else
          (ag H 66 80 3).bind fun v9 =>
          if v9.toInt64 = 0 then none else
          (ag H 66 80 0).bind fun v10 =>
          if v10.toInt64 = 0 then none else
          (f_X8_lay 66 (((x4 * 16807) - (x4 * 16807) / 2147483647 * 2147483647) - ((x4 * 16807) - (x4 * 16807) / 2147483647 * 2147483647) / v9.toInt64 * v9.toInt64).toInt32 ((((x4 * 16807) - (x4 * 16807) / 2147483647 * 2147483647) / 32) - (((x4 * 16807) - (x4 * 16807) / 2147483647 * 2147483647) / 32) / 10 * 10).toInt32 ((((x4 * 16807) - (x4 * 16807) / 2147483647 * 2147483647) / 512) - (((x4 * 16807) - (x4 * 16807) / 2147483647 * 2147483647) / 512) / v10.toInt64 * v10.toInt64).toInt32 (((((x4 * 16807) - (x4 * 16807) / 2147483647 * 2147483647) / 4096) - (((x4 * 16807) - (x4 * 16807) / 2147483647 * 2147483647) / 4096) / 99 * 99).toInt32 + 1) H).bind fun H11 =>
          some H11) fun j12 =>
      (f_X8_reckon 66 j12).bind fun H13 =>
      (ag H13 66 80 1).bind fun v14 =>
      f_X8_drawn_l74 x1 n ((x4 * 16807) - (x4 * 16807) / 2147483647 * 2147483647) (x6 + (v14 - (H13 60 24))) (x7 + 1) H13
def f_X8_drawn (x1 : Int32) (x2 : Int32) (x3 : Int32) (H : Hp) : Option (Int32 × Hp) :=
  (pf H 60 0 0).bind fun H1 =>
  (f_X8_isThere H1).bind fun v2 =>
  if v2 = 0 then
    some ((-1000002), H1)
  else
    (f_X8_in x1.toInt64 0 60).bind fun v3 =>
    if v3 = 0 then
      some ((-1000001), H1)
    else
      (f_X8_in x2.toInt64 1 999999).bind fun v4 =>
      if v4 = 0 then
        some ((-1000001), H1)
      else
        (f_X8_in x3.toInt64 0 1).bind fun v5 =>
        if v5 = 0 then
          some ((-1000001), H1)
        else
          (f_X8_layThen H1).bind fun H6 =>
          (f_X8_reckon 66 H6).bind fun H7 =>
          (f_X8_drawn_l74 x1 fuel x2.toInt64 0 0 H7).bind fun l20 =>
          some ((if x3 = 0 then l20.1 else (l20.2 60 24)), l20.2)
set_option maxHeartbeats 4000000 in
set_option maxRecDepth 100000 in
theorem k_X8_drawn_l74 {D : Nat} (hD : 4 ≤ (D + 1)) (x1 : Int32) (x3 : Int32) {post : Option Value → Hp → Prop} : ∀ (n : Nat) (x4 : Int64) (x6 : Int32) (x7 : Int32) (H : Hp) (q : Int32 × Hp), f_X8_drawn_l74 x1 n x4 x6 x7 H = some q → V (D + 1) RX8 mdX8_drawn 188 [.ref 60, .null, .null, .int x3, .null, .null, .int q.1, .null] [] q.2 post → V (D + 1) RX8 mdX8_drawn 74 [.ref 60, .int x1, .null, .int x3, .long x4, .null, .int x6, .int x7] [] H post := by
  intro n
  induction n with
  | zero => intro x4 x6 x7 H q h; simp [f_X8_drawn_l74] at h
  | succ n ih =>
    intro x4 x6 x7 H q h k1
    rw [f_X8_drawn_l74] at h
    refine st_iload dX8_drawn_74 rfl ?_
    refine st_iload_n dX8_drawn_76 rfl rfl ?_
    refine st_ic_ge dX8_drawn_77 188 (by decide) (fun c15 => ?_) (fun c15 => ?_)
    · replace h := (if_pos c15).symm.trans h
      obtain rfl := Option.some.inj h
      exact st_sub [.ref 60, .null, .null, .int x3, .null, .null, .int x6, .null] ⟨Or.inr rfl, Or.inl rfl, Or.inl rfl, Or.inr rfl, Or.inl rfl, Or.inl rfl, Or.inr rfl, Or.inl rfl, trivial⟩ k1
    · replace h := (if_neg c15).symm.trans h
      refine st_lload dX8_drawn_80 rfl ?_
      refine st_ldc2 dX8_drawn_82 cl_RX8_309 ?_
      refine st_lmul dX8_drawn_85 ?_
      refine st_ldc2 dX8_drawn_86 cl_RX8_311 ?_
      refine st_lrem dX8_drawn_89 (by decide) ?_
      refine st_lstore dX8_drawn_90 (by decide) [.ref 60, .int x1, .null, .int x3, .long ((x4 * 16807) - (x4 * 16807) / 2147483647 * 2147483647), .null, .int x6, .int x7] rfl ?_
      refine st_aload_n dX8_drawn_92 rfl rfl ?_
      refine gR8 dX8_drawn_93 (by decide) rfl 7 (by decide) fl_RX8_25 rfl 66 rfl ?_
      refine st_iconst dX8_drawn_96 (v := 3) rfl ?_
      obtain ⟨v8, e_v8, h⟩ := bnd h
      refine st_iald dX8_drawn_97 (by decide) rfl v8 e_v8 ?_
      obtain ⟨j12, e_j12, h⟩ := bnd h
      have kj16 : V (D + 1) RX8 mdX8_drawn 158 [.ref 60, .int x1, .null, .int x3, .long ((x4 * 16807) - (x4 * 16807) / 2147483647 * 2147483647), .null, .int x6, .int x7] [] j12 post := by
        refine st_aload_n dX8_drawn_158 rfl rfl ?_
        refine st_aload_n dX8_drawn_159 rfl rfl ?_
        refine gR8 dX8_drawn_160 (by decide) rfl 7 (by decide) fl_RX8_25 rfl 66 rfl ?_
        obtain ⟨H13, e_H13, h⟩ := bnd h
        refine st_callV [.ref 66] dX8_drawn_163 co_X8_reckon im_X8_reckon se_X8_reckon ml_RX8_232 rfl (by decide) rfl (rfl : classes[8]? = some (RX8, TX8, 30)) rfl (S := []) rfl (Nat.le_of_ble_eq_true rfl) (k_X8_reckon (by omega) RC66 j12 _ e_H13 ?_)
        show V (D + 1) RX8 mdX8_drawn 166 [.ref 60, .int x1, .null, .int x3, .long ((x4 * 16807) - (x4 * 16807) / 2147483647 * 2147483647), .null, .int x6, .int x7] [] H13 post
        refine st_iload dX8_drawn_166 rfl ?_
        refine st_aload_n dX8_drawn_168 rfl rfl ?_
        refine gR8 dX8_drawn_169 (by decide) rfl 7 (by decide) fl_RX8_25 rfl 66 rfl ?_
        refine st_iconst dX8_drawn_172 (v := 1) rfl ?_
        obtain ⟨v14, e_v14, h⟩ := bnd h
        refine st_iald dX8_drawn_173 (by decide) rfl v14 e_v14 ?_
        refine st_aload_n dX8_drawn_174 rfl rfl ?_
        refine gI8 dX8_drawn_175 (by decide) rfl 24 (by decide) fl_RX8_216 rfl rfl ?_
        refine st_isub dX8_drawn_178 ?_
        refine st_iadd dX8_drawn_179 ?_
        refine st_istore dX8_drawn_180 (by decide) [.ref 60, .int x1, .null, .int x3, .long ((x4 * 16807) - (x4 * 16807) / 2147483647 * 2147483647), .null, .int (x6 + (v14 - (H13 60 24))), .int x7] rfl ?_
        refine st_iinc dX8_drawn_182 rfl (v := (x7 + 1)) rfl (by decide) [.ref 60, .int x1, .null, .int x3, .long ((x4 * 16807) - (x4 * 16807) / 2147483647 * 2147483647), .null, .int (x6 + (v14 - (H13 60 24))), .int (x7 + 1)] rfl ?_
        refine st_goto dX8_drawn_185 74 (by decide) ?_
        exact ih ((x4 * 16807) - (x4 * 16807) / 2147483647 * 2147483647) (x6 + (v14 - (H13 60 24))) (x7 + 1) H13 q h k1
      refine st_if_le dX8_drawn_98 158 (by decide) (fun c17 => ?_) (fun c17 => ?_)
      · replace e_j12 := (if_pos c17).symm.trans e_j12
        obtain rfl := Option.some.inj e_j12
        exact kj16
      · replace e_j12 := (if_neg c17).symm.trans e_j12
        refine st_aload_n dX8_drawn_101 rfl rfl ?_
        refine gR8 dX8_drawn_102 (by decide) rfl 7 (by decide) fl_RX8_25 rfl 66 rfl ?_
        refine st_lload dX8_drawn_105 rfl ?_
        refine st_aload_n dX8_drawn_107 rfl rfl ?_
        refine gR8 dX8_drawn_108 (by decide) rfl 7 (by decide) fl_RX8_25 rfl 66 rfl ?_
        refine st_iconst dX8_drawn_111 (v := 3) rfl ?_
        obtain ⟨v9, e_v9, e_j12⟩ := bnd e_j12
        refine st_iald dX8_drawn_112 (by decide) rfl v9 e_v9 ?_
        refine st_i2l dX8_drawn_113 ?_
        have n18 : ¬ v9.toInt64 = 0 := fun z => by rw [if_pos z] at e_j12; cases e_j12
        replace e_j12 := (if_neg n18).symm.trans e_j12
        refine st_lrem dX8_drawn_114 n18 ?_
        refine st_l2i dX8_drawn_115 ?_
        refine st_lload dX8_drawn_116 rfl ?_
        refine st_ldc2 dX8_drawn_118 cl_RX8_313 ?_
        refine st_ldiv dX8_drawn_121 (by decide) ?_
        refine st_ldc2 dX8_drawn_122 cl_RX8_301 ?_
        refine st_lrem dX8_drawn_125 (by decide) ?_
        refine st_l2i dX8_drawn_126 ?_
        refine st_lload dX8_drawn_127 rfl ?_
        refine st_ldc2 dX8_drawn_129 cl_RX8_315 ?_
        refine st_ldiv dX8_drawn_132 (by decide) ?_
        refine st_aload_n dX8_drawn_133 rfl rfl ?_
        refine gR8 dX8_drawn_134 (by decide) rfl 7 (by decide) fl_RX8_25 rfl 66 rfl ?_
        refine st_iconst dX8_drawn_137 (v := 0) rfl ?_
        obtain ⟨v10, e_v10, e_j12⟩ := bnd e_j12
        refine st_iald dX8_drawn_138 (by decide) rfl v10 e_v10 ?_
        refine st_i2l dX8_drawn_139 ?_
        have n19 : ¬ v10.toInt64 = 0 := fun z => by rw [if_pos z] at e_j12; cases e_j12
        replace e_j12 := (if_neg n19).symm.trans e_j12
        refine st_lrem dX8_drawn_140 n19 ?_
        refine st_l2i dX8_drawn_141 ?_
        refine st_lload dX8_drawn_142 rfl ?_
        refine st_ldc2 dX8_drawn_144 cl_RX8_317 ?_
        refine st_ldiv dX8_drawn_147 (by decide) ?_
        refine st_ldc2 dX8_drawn_148 cl_RX8_245 ?_
        refine st_lrem dX8_drawn_151 (by decide) ?_
        refine st_l2i dX8_drawn_152 ?_
        refine st_iconst dX8_drawn_153 (v := 1) rfl ?_
        refine st_iadd dX8_drawn_154 ?_
        obtain ⟨H11, e_H11, e_j12⟩ := bnd e_j12
        refine st_callS [.ref 66, .int (((x4 * 16807) - (x4 * 16807) / 2147483647 * 2147483647) - ((x4 * 16807) - (x4 * 16807) / 2147483647 * 2147483647) / v9.toInt64 * v9.toInt64).toInt32, .int ((((x4 * 16807) - (x4 * 16807) / 2147483647 * 2147483647) / 32) - (((x4 * 16807) - (x4 * 16807) / 2147483647 * 2147483647) / 32) / 10 * 10).toInt32, .int ((((x4 * 16807) - (x4 * 16807) / 2147483647 * 2147483647) / 512) - (((x4 * 16807) - (x4 * 16807) / 2147483647 * 2147483647) / 512) / v10.toInt64 * v10.toInt64).toInt32, .int (((((x4 * 16807) - (x4 * 16807) / 2147483647 * 2147483647) / 4096) - (((x4 * 16807) - (x4 * 16807) / 2147483647 * 2147483647) / 4096) / 99 * 99).toInt32 + 1)] dX8_drawn_155 co_X8_lay sm_X8_lay ml_RX8_179 rfl (S := []) rfl (Nat.le_of_ble_eq_true rfl) (k_X8_lay (by omega) RC66 (((x4 * 16807) - (x4 * 16807) / 2147483647 * 2147483647) - ((x4 * 16807) - (x4 * 16807) / 2147483647 * 2147483647) / v9.toInt64 * v9.toInt64).toInt32 ((((x4 * 16807) - (x4 * 16807) / 2147483647 * 2147483647) / 32) - (((x4 * 16807) - (x4 * 16807) / 2147483647 * 2147483647) / 32) / 10 * 10).toInt32 ((((x4 * 16807) - (x4 * 16807) / 2147483647 * 2147483647) / 512) - (((x4 * 16807) - (x4 * 16807) / 2147483647 * 2147483647) / 512) / v10.toInt64 * v10.toInt64).toInt32 (((((x4 * 16807) - (x4 * 16807) / 2147483647 * 2147483647) / 4096) - (((x4 * 16807) - (x4 * 16807) / 2147483647 * 2147483647) / 4096) / 99 * 99).toInt32 + 1) H _ e_H11 ?_)
        show V (D + 1) RX8 mdX8_drawn 158 [.ref 60, .int x1, .null, .int x3, .long ((x4 * 16807) - (x4 * 16807) / 2147483647 * 2147483647), .null, .int x6, .int x7] [] H11 post
        obtain rfl := Option.some.inj e_j12
        exact kj16
set_option maxHeartbeats 4000000 in
set_option maxRecDepth 100000 in
theorem k_X8_drawn {D : Nat} (hD : 4 ≤ D) (x1 : Int32) (x2 : Int32) (x3 : Int32) (H : Hp) (q : Int32 × Hp) (h : f_X8_drawn x1 x2 x3 H = some q) {post : Option Value → Hp → Prop} (hp : post (some (.int q.1)) q.2) : Sem D mdX8_drawn [.ref 60, .int x1, .int x2, .int x3] H post := by
  obtain ⟨D, rfl⟩ : ∃ E, D = E + 1 := ⟨D - 1, by omega⟩
  refine sem_of (own := RX8) rfl pn_RX8 (Nat.le_of_ble_eq_true rfl) [.ref 60, .int x1, .int x2, .int x3, .null, .null, .null, .null] ⟨Or.inr rfl, Or.inr rfl, Or.inr rfl, Or.inr rfl, rfl, rfl, rfl, rfl, trivial⟩ ?_
  unfold f_X8_drawn at h
  refine st_aload_n dX8_drawn_0 rfl rfl ?_
  refine st_iconst dX8_drawn_1 (v := 0) rfl ?_
  obtain ⟨H1, e_H1, h⟩ := bnd h
  refine pI8 dX8_drawn_2 (by decide) rfl 0 (by decide) fl_RX8_62 rfl rfl rfl rfl e_H1 ?_
  refine st_aload_n dX8_drawn_5 rfl rfl ?_
  obtain ⟨v2, e_v2, h⟩ := bnd h
  refine st_callV [] dX8_drawn_6 co_X8_isThere im_X8_isThere se_X8_isThere ml_RX8_174 rfl (by decide) rfl (rfl : classes[8]? = some (RX8, TX8, 30)) rfl (S := []) rfl (Nat.le_of_ble_eq_true rfl) (k_X8_isThere (by omega) H1 _ e_v2 ?_)
  show V (D + 1) RX8 mdX8_drawn 9 [.ref 60, .int x1, .int x2, .int x3, .null, .null, .null, .null] [.int v2] H1 post
  refine st_if_ne dX8_drawn_9 15 (by decide) (fun c21 => ?_) (fun c21 => ?_)
  · replace h := (if_neg c21).symm.trans h
    refine st_iload_n dX8_drawn_15 rfl rfl ?_
    refine st_i2l dX8_drawn_16 ?_
    refine st_lconst dX8_drawn_17 (v := 0) rfl ?_
    refine st_ldc2 dX8_drawn_18 cl_RX8_305 ?_
    obtain ⟨v3, e_v3, h⟩ := bnd h
    refine st_callS [.long x1.toInt64, .long 0, .long 60] dX8_drawn_21 co_X8_in sm_X8_in ml_RX8_72 rfl (S := []) rfl (Nat.le_of_ble_eq_true rfl) (k_X8_in (by omega) x1.toInt64 0 60 H1 _ e_v3 ?_)
    show V (D + 1) RX8 mdX8_drawn 24 [.ref 60, .int x1, .int x2, .int x3, .null, .null, .null, .null] [.int v3] H1 post
    refine st_if_eq dX8_drawn_24 49 (by decide) (fun c22 => ?_) (fun c22 => ?_)
    · replace h := (if_pos c22).symm.trans h
      refine st_ldc dX8_drawn_49 cn_RX8_82 ?_
      obtain rfl := Option.some.inj h
      exact st_iret dX8_drawn_51 rfl hp
    · replace h := (if_neg c22).symm.trans h
      refine st_iload_n dX8_drawn_27 rfl rfl ?_
      refine st_i2l dX8_drawn_28 ?_
      refine st_lconst dX8_drawn_29 (v := 1) rfl ?_
      refine st_ldc2 dX8_drawn_30 cl_RX8_307 ?_
      obtain ⟨v4, e_v4, h⟩ := bnd h
      refine st_callS [.long x2.toInt64, .long 1, .long 999999] dX8_drawn_33 co_X8_in sm_X8_in ml_RX8_72 rfl (S := []) rfl (Nat.le_of_ble_eq_true rfl) (k_X8_in (by omega) x2.toInt64 1 999999 H1 _ e_v4 ?_)
      show V (D + 1) RX8 mdX8_drawn 36 [.ref 60, .int x1, .int x2, .int x3, .null, .null, .null, .null] [.int v4] H1 post
      refine st_if_eq dX8_drawn_36 49 (by decide) (fun c23 => ?_) (fun c23 => ?_)
      · replace h := (if_pos c23).symm.trans h
        refine st_ldc dX8_drawn_49 cn_RX8_82 ?_
        obtain rfl := Option.some.inj h
        exact st_iret dX8_drawn_51 rfl hp
      · replace h := (if_neg c23).symm.trans h
        refine st_iload_n dX8_drawn_39 rfl rfl ?_
        refine st_i2l dX8_drawn_40 ?_
        refine st_lconst dX8_drawn_41 (v := 0) rfl ?_
        refine st_lconst dX8_drawn_42 (v := 1) rfl ?_
        obtain ⟨v5, e_v5, h⟩ := bnd h
        refine st_callS [.long x3.toInt64, .long 0, .long 1] dX8_drawn_43 co_X8_in sm_X8_in ml_RX8_72 rfl (S := []) rfl (Nat.le_of_ble_eq_true rfl) (k_X8_in (by omega) x3.toInt64 0 1 H1 _ e_v5 ?_)
        show V (D + 1) RX8 mdX8_drawn 46 [.ref 60, .int x1, .int x2, .int x3, .null, .null, .null, .null] [.int v5] H1 post
        refine st_if_ne dX8_drawn_46 52 (by decide) (fun c24 => ?_) (fun c24 => ?_)
        · replace h := (if_neg c24).symm.trans h
          refine st_aload_n dX8_drawn_52 rfl rfl ?_
          obtain ⟨H6, e_H6, h⟩ := bnd h
          refine st_callV [] dX8_drawn_53 co_X8_layThen im_X8_layThen se_X8_layThen ml_RX8_229 rfl (by decide) rfl (rfl : classes[8]? = some (RX8, TX8, 30)) rfl (S := []) rfl (Nat.le_of_ble_eq_true rfl) (k_X8_layThen (by omega) H1 _ e_H6 ?_)
          show V (D + 1) RX8 mdX8_drawn 56 [.ref 60, .int x1, .int x2, .int x3, .null, .null, .null, .null] [] H6 post
          refine st_aload_n dX8_drawn_56 rfl rfl ?_
          refine st_aload_n dX8_drawn_57 rfl rfl ?_
          refine gR8 dX8_drawn_58 (by decide) rfl 7 (by decide) fl_RX8_25 rfl 66 rfl ?_
          obtain ⟨H7, e_H7, h⟩ := bnd h
          refine st_callV [.ref 66] dX8_drawn_61 co_X8_reckon im_X8_reckon se_X8_reckon ml_RX8_232 rfl (by decide) rfl (rfl : classes[8]? = some (RX8, TX8, 30)) rfl (S := []) rfl (Nat.le_of_ble_eq_true rfl) (k_X8_reckon (by omega) RC66 H6 _ e_H7 ?_)
          show V (D + 1) RX8 mdX8_drawn 64 [.ref 60, .int x1, .int x2, .int x3, .null, .null, .null, .null] [] H7 post
          refine st_iload_n dX8_drawn_64 rfl rfl ?_
          refine st_i2l dX8_drawn_65 ?_
          refine st_lstore dX8_drawn_66 (by decide) [.ref 60, .int x1, .int x2, .int x3, .long x2.toInt64, .null, .null, .null] rfl ?_
          refine st_iconst dX8_drawn_68 (v := 0) rfl ?_
          refine st_istore dX8_drawn_69 (by decide) [.ref 60, .int x1, .int x2, .int x3, .long x2.toInt64, .null, .int 0, .null] rfl ?_
          refine st_iconst dX8_drawn_71 (v := 0) rfl ?_
          refine st_istore dX8_drawn_72 (by decide) [.ref 60, .int x1, .int x2, .int x3, .long x2.toInt64, .null, .int 0, .int 0] rfl ?_
          refine st_sub [.ref 60, .int x1, .null, .int x3, .long x2.toInt64, .null, .int 0, .int 0] ⟨Or.inr rfl, Or.inr rfl, Or.inl rfl, Or.inr rfl, Or.inr rfl, Or.inl rfl, Or.inr rfl, Or.inr rfl, trivial⟩ ?_
          obtain ⟨l20, e_l20, h⟩ := bnd h
          refine k_X8_drawn_l74 (by omega) x1 x3 fuel x2.toInt64 0 0 H7 _ e_l20 ?_
          refine st_iload_n dX8_drawn_188 rfl rfl ?_
          have kj26 : ∀ z25 : Int32, z25 = (if x3 = 0 then l20.1 else (l20.2 60 24)) → V (D + 1) RX8 mdX8_drawn 201 [.null, .null, .null, .null, .null, .null, .null, .null] [.int z25] l20.2 post := by
            intro z25 ez25
            subst ez25
            obtain rfl := Option.some.inj h
            exact st_iret dX8_drawn_201 rfl hp
          refine st_if_ne dX8_drawn_189 197 (by decide) (fun c27 => ?_) (fun c27 => ?_)
          · refine st_aload_n dX8_drawn_197 rfl rfl ?_
            refine gI8 dX8_drawn_198 (by decide) rfl 24 (by decide) fl_RX8_216 rfl rfl ?_
            exact st_sub [.null, .null, .null, .null, .null, .null, .null, .null] ⟨Or.inl rfl, Or.inl rfl, Or.inl rfl, Or.inl rfl, Or.inl rfl, Or.inl rfl, Or.inl rfl, Or.inl rfl, trivial⟩ (kj26 _ (Eq.symm (if_neg c27)))
          · refine st_iload dX8_drawn_192 rfl ?_
            refine st_goto dX8_drawn_194 201 (by decide) ?_
            exact st_sub [.null, .null, .null, .null, .null, .null, .null, .null] ⟨Or.inl rfl, Or.inl rfl, Or.inl rfl, Or.inl rfl, Or.inl rfl, Or.inl rfl, Or.inl rfl, Or.inl rfl, trivial⟩ (kj26 _ (Eq.symm (if_pos c27)))
        · replace h := (if_pos c24).symm.trans h
          refine st_ldc dX8_drawn_49 cn_RX8_82 ?_
          obtain rfl := Option.some.inj h
          exact st_iret dX8_drawn_51 rfl hp
  · replace h := (if_pos c21).symm.trans h
    refine st_ldc dX8_drawn_12 cn_RX8_253 ?_
    obtain rfl := Option.some.inj h
    exact st_iret dX8_drawn_14 rfl hp
