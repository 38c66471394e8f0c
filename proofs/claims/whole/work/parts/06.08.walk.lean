def f_X8_sum (x1 : Int32) (x2 : Int32) (H : Hp) : Option (Int32 × Hp) :=
  (pf H 60 0 0).bind fun H1 =>
  (f_X8_isGiving x1 x2 H1).bind fun v2 =>
  if v2 = 0 then
    some ((-1000001), H1)
  else
    (f_X8_lookAt 64 H1).bind fun H3 =>
    (ag H3 69 60 ((6 * x1) + x2)).bind fun v4 =>
    some (v4, H3)
set_option maxHeartbeats 4000000 in
set_option maxRecDepth 100000 in
theorem k_X8_sum {D : Nat} (hD : 3 ≤ D) (x1 : Int32) (x2 : Int32) (H : Hp) (q : Int32 × Hp) (h : f_X8_sum x1 x2 H = some q) {post : Option Value → Hp → Prop} (hp : post (some (.int q.1)) q.2) : Sem D mdX8_sum [.ref 60, .int x1, .int x2] H post := by
  obtain ⟨D, rfl⟩ : ∃ E, D = E + 1 := ⟨D - 1, by omega⟩
  refine sem_of (own := RX8) rfl pn_RX8 (Nat.le_of_ble_eq_true rfl) [.ref 60, .int x1, .int x2] ⟨Or.inr rfl, Or.inr rfl, Or.inr rfl, trivial⟩ ?_
  unfold f_X8_sum at h
  refine st_aload_n dX8_sum_0 rfl rfl ?_
  refine st_iconst dX8_sum_1 (v := 0) rfl ?_
  obtain ⟨H1, e_H1, h⟩ := bnd h
  refine pI8 dX8_sum_2 (by decide) rfl 0 (by decide) fl_RX8_62 rfl rfl rfl rfl e_H1 ?_
  refine st_aload_n dX8_sum_5 rfl rfl ?_
  refine st_iload_n dX8_sum_6 rfl rfl ?_
  refine st_iload_n dX8_sum_7 rfl rfl ?_
  obtain ⟨v2, e_v2, h⟩ := bnd h
  refine st_callV [.int x1, .int x2] dX8_sum_8 co_X8_isGiving im_X8_isGiving se_X8_isGiving ml_RX8_241 rfl (by decide) rfl (rfl : classes[8]? = some (RX8, TX8, 30)) rfl (S := []) rfl (Nat.le_of_ble_eq_true rfl) (k_X8_isGiving (by omega) x1 x2 H1 _ e_v2 ?_)
  show V (D + 1) RX8 mdX8_sum 11 [.ref 60, .int x1, .int x2] [.int v2] H1 post
  refine st_if_ne dX8_sum_11 17 (by decide) (fun c5 => ?_) (fun c5 => ?_)
  · replace h := (if_neg c5).symm.trans h
    refine st_aload_n dX8_sum_17 rfl rfl ?_
    refine st_aload_n dX8_sum_18 rfl rfl ?_
    refine gR8 dX8_sum_19 (by decide) rfl 5 (by decide) fl_RX8_19 rfl 64 rfl ?_
    obtain ⟨H3, e_H3, h⟩ := bnd h
    refine st_callV [.ref 64] dX8_sum_22 co_X8_lookAt im_X8_lookAt se_X8_lookAt ml_RX8_219 rfl (by decide) rfl (rfl : classes[8]? = some (RX8, TX8, 30)) rfl (S := []) rfl (Nat.le_of_ble_eq_true rfl) (k_X8_lookAt (by omega) RC64 H1 _ e_H3 ?_)
    show V (D + 1) RX8 mdX8_sum 25 [.ref 60, .int x1, .int x2] [] H3 post
    refine st_aload_n dX8_sum_25 rfl rfl ?_
    refine gR8 dX8_sum_26 (by decide) rfl 19 (by decide) fl_RX8_34 rfl 69 rfl ?_
    refine st_bipush dX8_sum_29 (v := 6) (by decide) ?_
    refine st_iload_n dX8_sum_31 rfl rfl ?_
    refine st_imul dX8_sum_32 ?_
    refine st_iload_n dX8_sum_33 rfl rfl ?_
    refine st_iadd dX8_sum_34 ?_
    obtain ⟨v4, e_v4, h⟩ := bnd h
    refine st_iald dX8_sum_35 (by decide) rfl v4 e_v4 ?_
    obtain rfl := Option.some.inj h
    exact st_iret dX8_sum_36 rfl hp
  · replace h := (if_pos c5).symm.trans h
    refine st_ldc dX8_sum_14 cn_RX8_82 ?_
    obtain rfl := Option.some.inj h
    exact st_iret dX8_sum_16 rfl hp
def f_X8_overlap (x1 : Int32) (x2 : Int32) (H : Hp) : Option (Int32 × Hp) :=
  (pf H 60 0 0).bind fun H1 =>
  (f_X8_isThere H1).bind fun v2 =>
  if v2 = 0 then
    some ((-1000002), H1)
  else
    (f_X8_in x1.toInt64 0 9).bind fun v3 =>
    if v3 = 0 then
      some ((-1000001), H1)
    else
      (f_X8_in x2.toInt64 0 9).bind fun v4 =>
      if v4 = 0 then
        some ((-1000001), H1)
      else
        if x1 = x2 then
          some ((-1000001), H1)
        else
          (f_X8_lookAt 64 H1).bind fun H5 =>
          (ag H5 71 100 ((10 * x1) + x2)).bind fun v6 =>
          some (v6, H5)
set_option maxHeartbeats 4000000 in
set_option maxRecDepth 100000 in
theorem k_X8_overlap {D : Nat} (hD : 2 ≤ D) (x1 : Int32) (x2 : Int32) (H : Hp) (q : Int32 × Hp) (h : f_X8_overlap x1 x2 H = some q) {post : Option Value → Hp → Prop} (hp : post (some (.int q.1)) q.2) : Sem D mdX8_overlap [.ref 60, .int x1, .int x2] H post := by
  obtain ⟨D, rfl⟩ : ∃ E, D = E + 1 := ⟨D - 1, by omega⟩
  refine sem_of (own := RX8) rfl pn_RX8 (Nat.le_of_ble_eq_true rfl) [.ref 60, .int x1, .int x2] ⟨Or.inr rfl, Or.inr rfl, Or.inr rfl, trivial⟩ ?_
  unfold f_X8_overlap at h
  refine st_aload_n dX8_overlap_0 rfl rfl ?_
  refine st_iconst dX8_overlap_1 (v := 0) rfl ?_
  obtain ⟨H1, e_H1, h⟩ := bnd h
  refine pI8 dX8_overlap_2 (by decide) rfl 0 (by decide) fl_RX8_62 rfl rfl rfl rfl e_H1 ?_
  refine st_aload_n dX8_overlap_5 rfl rfl ?_
  obtain ⟨v2, e_v2, h⟩ := bnd h
  refine st_callV [] dX8_overlap_6 co_X8_isThere im_X8_isThere se_X8_isThere ml_RX8_174 rfl (by decide) rfl (rfl : classes[8]? = some (RX8, TX8, 30)) rfl (S := []) rfl (Nat.le_of_ble_eq_true rfl) (k_X8_isThere (by omega) H1 _ e_v2 ?_)
  show V (D + 1) RX8 mdX8_overlap 9 [.ref 60, .int x1, .int x2] [.int v2] H1 post
  refine st_if_ne dX8_overlap_9 15 (by decide) (fun c7 => ?_) (fun c7 => ?_)
  · replace h := (if_neg c7).symm.trans h
    refine st_iload_n dX8_overlap_15 rfl rfl ?_
    refine st_i2l dX8_overlap_16 ?_
    refine st_lconst dX8_overlap_17 (v := 0) rfl ?_
    refine st_ldc2 dX8_overlap_18 cl_RX8_177 ?_
    obtain ⟨v3, e_v3, h⟩ := bnd h
    refine st_callS [.long x1.toInt64, .long 0, .long 9] dX8_overlap_21 co_X8_in sm_X8_in ml_RX8_72 rfl (S := []) rfl (Nat.le_of_ble_eq_true rfl) (k_X8_in (by omega) x1.toInt64 0 9 H1 _ e_v3 ?_)
    show V (D + 1) RX8 mdX8_overlap 24 [.ref 60, .int x1, .int x2] [.int v3] H1 post
    refine st_if_eq dX8_overlap_24 44 (by decide) (fun c8 => ?_) (fun c8 => ?_)
    · replace h := (if_pos c8).symm.trans h
      refine st_ldc dX8_overlap_44 cn_RX8_82 ?_
      obtain rfl := Option.some.inj h
      exact st_iret dX8_overlap_46 rfl hp
    · replace h := (if_neg c8).symm.trans h
      refine st_iload_n dX8_overlap_27 rfl rfl ?_
      refine st_i2l dX8_overlap_28 ?_
      refine st_lconst dX8_overlap_29 (v := 0) rfl ?_
      refine st_ldc2 dX8_overlap_30 cl_RX8_177 ?_
      obtain ⟨v4, e_v4, h⟩ := bnd h
      refine st_callS [.long x2.toInt64, .long 0, .long 9] dX8_overlap_33 co_X8_in sm_X8_in ml_RX8_72 rfl (S := []) rfl (Nat.le_of_ble_eq_true rfl) (k_X8_in (by omega) x2.toInt64 0 9 H1 _ e_v4 ?_)
      show V (D + 1) RX8 mdX8_overlap 36 [.ref 60, .int x1, .int x2] [.int v4] H1 post
      refine st_if_eq dX8_overlap_36 44 (by decide) (fun c9 => ?_) (fun c9 => ?_)
      · replace h := (if_pos c9).symm.trans h
        refine st_ldc dX8_overlap_44 cn_RX8_82 ?_
        obtain rfl := Option.some.inj h
        exact st_iret dX8_overlap_46 rfl hp
      · replace h := (if_neg c9).symm.trans h
        refine st_iload_n dX8_overlap_39 rfl rfl ?_
        refine st_iload_n dX8_overlap_40 rfl rfl ?_
        refine st_ic_ne dX8_overlap_41 47 (by decide) (fun c10 => ?_) (fun c10 => ?_)
        · replace h := (if_neg c10).symm.trans h
          refine st_aload_n dX8_overlap_47 rfl rfl ?_
          refine st_aload_n dX8_overlap_48 rfl rfl ?_
          refine gR8 dX8_overlap_49 (by decide) rfl 5 (by decide) fl_RX8_19 rfl 64 rfl ?_
          obtain ⟨H5, e_H5, h⟩ := bnd h
          refine st_callV [.ref 64] dX8_overlap_52 co_X8_lookAt im_X8_lookAt se_X8_lookAt ml_RX8_219 rfl (by decide) rfl (rfl : classes[8]? = some (RX8, TX8, 30)) rfl (S := []) rfl (Nat.le_of_ble_eq_true rfl) (k_X8_lookAt (by omega) RC64 H1 _ e_H5 ?_)
          show V (D + 1) RX8 mdX8_overlap 55 [.ref 60, .int x1, .int x2] [] H5 post
          refine st_aload_n dX8_overlap_55 rfl rfl ?_
          refine gR8 dX8_overlap_56 (by decide) rfl 21 (by decide) fl_RX8_40 rfl 71 rfl ?_
          refine st_bipush dX8_overlap_59 (v := 10) (by decide) ?_
          refine st_iload_n dX8_overlap_61 rfl rfl ?_
          refine st_imul dX8_overlap_62 ?_
          refine st_iload_n dX8_overlap_63 rfl rfl ?_
          refine st_iadd dX8_overlap_64 ?_
          obtain ⟨v6, e_v6, h⟩ := bnd h
          refine st_iald dX8_overlap_65 (by decide) rfl v6 e_v6 ?_
          obtain rfl := Option.some.inj h
          exact st_iret dX8_overlap_66 rfl hp
        · replace h := (if_pos c10).symm.trans h
          refine st_ldc dX8_overlap_44 cn_RX8_82 ?_
          obtain rfl := Option.some.inj h
          exact st_iret dX8_overlap_46 rfl hp
  · replace h := (if_pos c7).symm.trans h
    refine st_ldc dX8_overlap_12 cn_RX8_253 ?_
    obtain rfl := Option.some.inj h
    exact st_iret dX8_overlap_14 rfl hp
def f_X8_termOf (r : Nat) (x2 : Int32) (x3 : Int32) (x4 : Int32) (H : Hp) : Option (Int32) :=
  (ag H 70 60 ((6 * x2) + x4)).bind fun v1 =>
  (ag H 70 60 ((6 * x3) + x4)).bind fun v2 =>
  (ag H r 80 2).bind fun v3 =>
  (ag H r 80 2).bind fun v4 =>
  (ag H 71 100 ((10 * x2) + x3)).bind fun v5 =>
  if (10000 * (v4 + v5).toInt64) = 0 then none else
  some ((((2 * v1.toInt64) * v2.toInt64) * v3.toInt64) / (10000 * (v4 + v5).toInt64)).toInt32
set_option maxHeartbeats 4000000 in
set_option maxRecDepth 100000 in
theorem k_X8_termOf {D : Nat} (hD : 0 ≤ D) {r : Nat} (hr : RC r) (x2 : Int32) (x3 : Int32) (x4 : Int32) (H : Hp) (q : Int32) (h : f_X8_termOf r x2 x3 x4 H = some q) {post : Option Value → Hp → Prop} (hp : post (some (.int q)) H) : Sem D mdX8_termOf [.ref 60, .ref r, .int x2, .int x3, .int x4] H post := by
  refine sem_of (own := RX8) rfl pn_RX8 (Nat.le_of_ble_eq_true rfl) [.ref 60, .ref r, .int x2, .int x3, .int x4, .null, .null] ⟨Or.inr rfl, Or.inr rfl, Or.inr rfl, Or.inr rfl, Or.inr rfl, rfl, rfl, trivial⟩ ?_
  unfold f_X8_termOf at h
  refine st_ldc2 dX8_termOf_0 cl_RX8_80 ?_
  refine st_aload_n dX8_termOf_3 rfl rfl ?_
  refine gR8 dX8_termOf_4 (by decide) rfl 20 (by decide) fl_RX8_37 rfl 70 rfl ?_
  refine st_bipush dX8_termOf_7 (v := 6) (by decide) ?_
  refine st_iload_n dX8_termOf_9 rfl rfl ?_
  refine st_imul dX8_termOf_10 ?_
  refine st_iload dX8_termOf_11 rfl ?_
  refine st_iadd dX8_termOf_13 ?_
  obtain ⟨v1, e_v1, h⟩ := bnd h
  refine st_iald dX8_termOf_14 (by decide) rfl v1 e_v1 ?_
  refine st_i2l dX8_termOf_15 ?_
  refine st_lmul dX8_termOf_16 ?_
  refine st_aload_n dX8_termOf_17 rfl rfl ?_
  refine gR8 dX8_termOf_18 (by decide) rfl 20 (by decide) fl_RX8_37 rfl 70 rfl ?_
  refine st_bipush dX8_termOf_21 (v := 6) (by decide) ?_
  refine st_iload_n dX8_termOf_23 rfl rfl ?_
  refine st_imul dX8_termOf_24 ?_
  refine st_iload dX8_termOf_25 rfl ?_
  refine st_iadd dX8_termOf_27 ?_
  obtain ⟨v2, e_v2, h⟩ := bnd h
  refine st_iald dX8_termOf_28 (by decide) rfl v2 e_v2 ?_
  refine st_i2l dX8_termOf_29 ?_
  refine st_lmul dX8_termOf_30 ?_
  refine st_aload_n dX8_termOf_31 rfl rfl ?_
  refine st_iconst dX8_termOf_32 (v := 2) rfl ?_
  obtain ⟨v3, e_v3, h⟩ := bnd h
  refine st_iald dX8_termOf_33 hr.1 hr.2 v3 e_v3 ?_
  refine st_i2l dX8_termOf_34 ?_
  refine st_lmul dX8_termOf_35 ?_
  refine st_lstore dX8_termOf_36 (by decide) [.ref 60, .ref r, .int x2, .int x3, .int x4, .long (((2 * v1.toInt64) * v2.toInt64) * v3.toInt64), .null] rfl ?_
  refine st_lload dX8_termOf_38 rfl ?_
  refine st_ldc2 dX8_termOf_40 cl_RX8_190 ?_
  refine st_aload_n dX8_termOf_43 rfl rfl ?_
  refine st_iconst dX8_termOf_44 (v := 2) rfl ?_
  obtain ⟨v4, e_v4, h⟩ := bnd h
  refine st_iald dX8_termOf_45 hr.1 hr.2 v4 e_v4 ?_
  refine st_aload_n dX8_termOf_46 rfl rfl ?_
  refine gR8 dX8_termOf_47 (by decide) rfl 21 (by decide) fl_RX8_40 rfl 71 rfl ?_
  refine st_bipush dX8_termOf_50 (v := 10) (by decide) ?_
  refine st_iload_n dX8_termOf_52 rfl rfl ?_
  refine st_imul dX8_termOf_53 ?_
  refine st_iload_n dX8_termOf_54 rfl rfl ?_
  refine st_iadd dX8_termOf_55 ?_
  obtain ⟨v5, e_v5, h⟩ := bnd h
  refine st_iald dX8_termOf_56 (by decide) rfl v5 e_v5 ?_
  refine st_iadd dX8_termOf_57 ?_
  refine st_i2l dX8_termOf_58 ?_
  refine st_lmul dX8_termOf_59 ?_
  have n6 : ¬ (10000 * (v4 + v5).toInt64) = 0 := fun z => by rw [if_pos z] at h; cases h
  replace h := (if_neg n6).symm.trans h
  refine st_ldiv dX8_termOf_60 n6 ?_
  refine st_l2i dX8_termOf_61 ?_
  obtain rfl := Option.some.inj h
  exact st_iret dX8_termOf_62 rfl hp
def f_X8_term (x1 : Int32) (x2 : Int32) (x3 : Int32) (H : Hp) : Option (Int32 × Hp) :=
  (pf H 60 0 0).bind fun H1 =>
  (f_X8_isGiving x1 x3 H1).bind fun v2 =>
  if v2 = 0 then
    some ((-1000001), H1)
  else
    (f_X8_isGiver x2 H1).bind fun v3 =>
    if v3 = 0 then
      some ((-1000001), H1)
    else
      if x1 = x2 then
        some ((-1000001), H1)
      else
        (f_X8_lookAt 64 H1).bind fun H4 =>
        (f_X8_termOf 64 x1 x2 x3 H4).bind fun v5 =>
        some (v5, H4)
set_option maxHeartbeats 4000000 in
set_option maxRecDepth 100000 in
theorem k_X8_term {D : Nat} (hD : 3 ≤ D) (x1 : Int32) (x2 : Int32) (x3 : Int32) (H : Hp) (q : Int32 × Hp) (h : f_X8_term x1 x2 x3 H = some q) {post : Option Value → Hp → Prop} (hp : post (some (.int q.1)) q.2) : Sem D mdX8_term [.ref 60, .int x1, .int x2, .int x3] H post := by
  obtain ⟨D, rfl⟩ : ∃ E, D = E + 1 := ⟨D - 1, by omega⟩
  refine sem_of (own := RX8) rfl pn_RX8 (Nat.le_of_ble_eq_true rfl) [.ref 60, .int x1, .int x2, .int x3] ⟨Or.inr rfl, Or.inr rfl, Or.inr rfl, Or.inr rfl, trivial⟩ ?_
  unfold f_X8_term at h
  refine st_aload_n dX8_term_0 rfl rfl ?_
  refine st_iconst dX8_term_1 (v := 0) rfl ?_
  obtain ⟨H1, e_H1, h⟩ := bnd h
  refine pI8 dX8_term_2 (by decide) rfl 0 (by decide) fl_RX8_62 rfl rfl rfl rfl e_H1 ?_
  refine st_aload_n dX8_term_5 rfl rfl ?_
  refine st_iload_n dX8_term_6 rfl rfl ?_
  refine st_iload_n dX8_term_7 rfl rfl ?_
  obtain ⟨v2, e_v2, h⟩ := bnd h
  refine st_callV [.int x1, .int x3] dX8_term_8 co_X8_isGiving im_X8_isGiving se_X8_isGiving ml_RX8_241 rfl (by decide) rfl (rfl : classes[8]? = some (RX8, TX8, 30)) rfl (S := []) rfl (Nat.le_of_ble_eq_true rfl) (k_X8_isGiving (by omega) x1 x3 H1 _ e_v2 ?_)
  show V (D + 1) RX8 mdX8_term 11 [.ref 60, .int x1, .int x2, .int x3] [.int v2] H1 post
  refine st_if_eq dX8_term_11 27 (by decide) (fun c6 => ?_) (fun c6 => ?_)
  · replace h := (if_pos c6).symm.trans h
    refine st_ldc dX8_term_27 cn_RX8_82 ?_
    obtain rfl := Option.some.inj h
    exact st_iret dX8_term_29 rfl hp
  · replace h := (if_neg c6).symm.trans h
    refine st_aload_n dX8_term_14 rfl rfl ?_
    refine st_iload_n dX8_term_15 rfl rfl ?_
    obtain ⟨v3, e_v3, h⟩ := bnd h
    refine st_callV [.int x2] dX8_term_16 co_X8_isGiver im_X8_isGiver se_X8_isGiver ml_RX8_235 rfl (by decide) rfl (rfl : classes[8]? = some (RX8, TX8, 30)) rfl (S := []) rfl (Nat.le_of_ble_eq_true rfl) (k_X8_isGiver (by omega) x2 H1 _ e_v3 ?_)
    show V (D + 1) RX8 mdX8_term 19 [.ref 60, .int x1, .int x2, .int x3] [.int v3] H1 post
    refine st_if_eq dX8_term_19 27 (by decide) (fun c7 => ?_) (fun c7 => ?_)
    · replace h := (if_pos c7).symm.trans h
      refine st_ldc dX8_term_27 cn_RX8_82 ?_
      obtain rfl := Option.some.inj h
      exact st_iret dX8_term_29 rfl hp
    · replace h := (if_neg c7).symm.trans h
      refine st_iload_n dX8_term_22 rfl rfl ?_
      refine st_iload_n dX8_term_23 rfl rfl ?_
      refine st_ic_ne dX8_term_24 30 (by decide) (fun c8 => ?_) (fun c8 => ?_)
      · replace h := (if_neg c8).symm.trans h
        refine st_aload_n dX8_term_30 rfl rfl ?_
        refine st_aload_n dX8_term_31 rfl rfl ?_
        refine gR8 dX8_term_32 (by decide) rfl 5 (by decide) fl_RX8_19 rfl 64 rfl ?_
        obtain ⟨H4, e_H4, h⟩ := bnd h
        refine st_callV [.ref 64] dX8_term_35 co_X8_lookAt im_X8_lookAt se_X8_lookAt ml_RX8_219 rfl (by decide) rfl (rfl : classes[8]? = some (RX8, TX8, 30)) rfl (S := []) rfl (Nat.le_of_ble_eq_true rfl) (k_X8_lookAt (by omega) RC64 H1 _ e_H4 ?_)
        show V (D + 1) RX8 mdX8_term 38 [.ref 60, .int x1, .int x2, .int x3] [] H4 post
        refine st_aload_n dX8_term_38 rfl rfl ?_
        refine st_aload_n dX8_term_39 rfl rfl ?_
        refine gR8 dX8_term_40 (by decide) rfl 5 (by decide) fl_RX8_19 rfl 64 rfl ?_
        refine st_iload_n dX8_term_43 rfl rfl ?_
        refine st_iload_n dX8_term_44 rfl rfl ?_
        refine st_iload_n dX8_term_45 rfl rfl ?_
        obtain ⟨v5, e_v5, h⟩ := bnd h
        refine st_callV [.ref 64, .int x1, .int x2, .int x3] dX8_term_46 co_X8_termOf im_X8_termOf se_X8_termOf ml_RX8_192 rfl (by decide) rfl (rfl : classes[8]? = some (RX8, TX8, 30)) rfl (S := []) rfl (Nat.le_of_ble_eq_true rfl) (k_X8_termOf (by omega) RC64 x1 x2 x3 H4 _ e_v5 ?_)
        show V (D + 1) RX8 mdX8_term 49 [.ref 60, .int x1, .int x2, .int x3] [.int v5] H4 post
        obtain rfl := Option.some.inj h
        exact st_iret dX8_term_49 rfl hp
      · replace h := (if_pos c8).symm.trans h
        refine st_ldc dX8_term_27 cn_RX8_82 ?_
        obtain rfl := Option.some.inj h
        exact st_iret dX8_term_29 rfl hp
def f_X8_giversOf_l4 (H : Hp) (x1 : Int32) : Nat → Int32 → Int32 → Option (Int32)
  | 0, _, _ => none
  | n + 1, x2, x3 =>
    if 10 ≤ x3 then
      some x2
    else
      (ag H 69 60 ((6 * x3) + x1)).bind fun v1 =>
      f_X8_giversOf_l4 H x1 n (x2 ||| (if v1 ≤ 0 then 0 else ((1 : Int32) <<< (x3 &&& 31)))) (x3 + 1)
def f_X8_giversOf (x1 : Int32) (H : Hp) : Option (Int32) :=
  (f_X8_giversOf_l4 H x1 fuel 0 0).bind fun l6 =>
  some l6
set_option maxHeartbeats 4000000 in
set_option maxRecDepth 100000 in
theorem k_X8_giversOf_l4 {D : Nat} (hD : 0 ≤ D) (H : Hp) (x1 : Int32) {post : Option Value → Hp → Prop} : ∀ (n : Nat) (x2 : Int32) (x3 : Int32) (q : Int32), f_X8_giversOf_l4 H x1 n x2 x3 = some q → V D RX8 mdX8_giversOf 40 [.null, .null, .int q, .null] [] H post → V D RX8 mdX8_giversOf 4 [.ref 60, .int x1, .int x2, .int x3] [] H post := by
  intro n
  induction n with
  | zero => intro x2 x3 q h; simp [f_X8_giversOf_l4] at h
  | succ n ih =>
    intro x2 x3 q h k1
    rw [f_X8_giversOf_l4] at h
    refine st_iload_n dX8_giversOf_4 rfl rfl ?_
    refine st_bipush dX8_giversOf_5 (v := 10) (by decide) ?_
    refine st_ic_ge dX8_giversOf_7 40 (by decide) (fun c2 => ?_) (fun c2 => ?_)
    · replace h := (if_pos c2).symm.trans h
      obtain rfl := Option.some.inj h
      exact st_sub [.null, .null, .int x2, .null] ⟨Or.inl rfl, Or.inl rfl, Or.inr rfl, Or.inl rfl, trivial⟩ k1
    · replace h := (if_neg c2).symm.trans h
      refine st_iload_n dX8_giversOf_10 rfl rfl ?_
      refine st_aload_n dX8_giversOf_11 rfl rfl ?_
      refine gR8 dX8_giversOf_12 (by decide) rfl 19 (by decide) fl_RX8_34 rfl 69 rfl ?_
      refine st_bipush dX8_giversOf_15 (v := 6) (by decide) ?_
      refine st_iload_n dX8_giversOf_17 rfl rfl ?_
      refine st_imul dX8_giversOf_18 ?_
      refine st_iload_n dX8_giversOf_19 rfl rfl ?_
      refine st_iadd dX8_giversOf_20 ?_
      obtain ⟨v1, e_v1, h⟩ := bnd h
      refine st_iald dX8_giversOf_21 (by decide) rfl v1 e_v1 ?_
      have kj4 : ∀ z3 : Int32, z3 = (if v1 ≤ 0 then 0 else ((1 : Int32) <<< (x3 &&& 31))) → V D RX8 mdX8_giversOf 32 [.ref 60, .int x1, .null, .int x3] [.int z3, .int x2] H post := by
        intro z3 ez3
        subst ez3
        refine st_ior dX8_giversOf_32 ?_
        refine st_istore_n dX8_giversOf_33 rfl (by decide) [.ref 60, .int x1, .int (x2 ||| (if v1 ≤ 0 then 0 else ((1 : Int32) <<< (x3 &&& 31)))), .int x3] rfl ?_
        refine st_iinc dX8_giversOf_34 rfl (v := (x3 + 1)) rfl (by decide) [.ref 60, .int x1, .int (x2 ||| (if v1 ≤ 0 then 0 else ((1 : Int32) <<< (x3 &&& 31)))), .int (x3 + 1)] rfl ?_
        refine st_goto dX8_giversOf_37 4 (by decide) ?_
        exact ih (x2 ||| (if v1 ≤ 0 then 0 else ((1 : Int32) <<< (x3 &&& 31)))) (x3 + 1) q h k1
      refine st_if_le dX8_giversOf_22 31 (by decide) (fun c5 => ?_) (fun c5 => ?_)
      · refine st_iconst dX8_giversOf_31 (v := 0) rfl ?_
        exact st_sub [.ref 60, .int x1, .null, .int x3] ⟨Or.inr rfl, Or.inr rfl, Or.inl rfl, Or.inr rfl, trivial⟩ (kj4 _ (Eq.symm (if_pos c5)))
      · refine st_iconst dX8_giversOf_25 (v := 1) rfl ?_
        refine st_iload_n dX8_giversOf_26 rfl rfl ?_
        refine st_ishl dX8_giversOf_27 ?_
        refine st_goto dX8_giversOf_28 32 (by decide) ?_
        exact st_sub [.ref 60, .int x1, .null, .int x3] ⟨Or.inr rfl, Or.inr rfl, Or.inl rfl, Or.inr rfl, trivial⟩ (kj4 _ (Eq.symm (if_neg c5)))
set_option maxHeartbeats 4000000 in
set_option maxRecDepth 100000 in
theorem k_X8_giversOf {D : Nat} (hD : 0 ≤ D) (x1 : Int32) (H : Hp) (q : Int32) (h : f_X8_giversOf x1 H = some q) {post : Option Value → Hp → Prop} (hp : post (some (.int q)) H) : Sem D mdX8_giversOf [.ref 60, .int x1] H post := by
  refine sem_of (own := RX8) rfl pn_RX8 (Nat.le_of_ble_eq_true rfl) [.ref 60, .int x1, .null, .null] ⟨Or.inr rfl, Or.inr rfl, rfl, rfl, trivial⟩ ?_
  unfold f_X8_giversOf at h
  refine st_iconst dX8_giversOf_0 (v := 0) rfl ?_
  refine st_istore_n dX8_giversOf_1 rfl (by decide) [.ref 60, .int x1, .int 0, .null] rfl ?_
  refine st_iconst dX8_giversOf_2 (v := 0) rfl ?_
  refine st_istore_n dX8_giversOf_3 rfl (by decide) [.ref 60, .int x1, .int 0, .int 0] rfl ?_
  obtain ⟨l6, e_l6, h⟩ := bnd h
  refine k_X8_giversOf_l4 (by omega) H x1 fuel 0 0 _ e_l6 ?_
  refine st_iload_n dX8_giversOf_40 rfl rfl ?_
  obtain rfl := Option.some.inj h
  exact st_iret dX8_giversOf_41 rfl hp
def f_X8_bits_l4 (x0 : Int32) : Nat → Int32 → Int32 → Option (Int32)
  | 0, _, _ => none
  | n + 1, x1, x2 =>
    if 10 ≤ x2 then
      some x1
    else
      f_X8_bits_l4 x0 n (x1 + ((x0 >>> (x2 &&& 31)) &&& 1)) (x2 + 1)
def f_X8_bits (x0 : Int32) : Option (Int32) :=
  (f_X8_bits_l4 x0 fuel 0 0).bind fun l2 =>
  some l2
set_option maxHeartbeats 4000000 in
set_option maxRecDepth 100000 in
theorem k_X8_bits_l4 {D : Nat} (hD : 0 ≤ D) (H : Hp) (x0 : Int32) {post : Option Value → Hp → Prop} : ∀ (n : Nat) (x1 : Int32) (x2 : Int32) (q : Int32), f_X8_bits_l4 x0 n x1 x2 = some q → V D RX8 mdX8_bits 24 [.null, .int q, .null] [] H post → V D RX8 mdX8_bits 4 [.int x0, .int x1, .int x2] [] H post := by
  intro n
  induction n with
  | zero => intro x1 x2 q h; simp [f_X8_bits_l4] at h
  | succ n ih =>
    intro x1 x2 q h k1
    rw [f_X8_bits_l4] at h
    refine st_iload_n dX8_bits_4 rfl rfl ?_
    refine st_bipush dX8_bits_5 (v := 10) (by decide) ?_
    refine st_ic_ge dX8_bits_7 24 (by decide) (fun c1 => ?_) (fun c1 => ?_)
    · replace h := (if_pos c1).symm.trans h
      obtain rfl := Option.some.inj h
      exact st_sub [.null, .int x1, .null] ⟨Or.inl rfl, Or.inr rfl, Or.inl rfl, trivial⟩ k1
    · replace h := (if_neg c1).symm.trans h
      refine st_iload_n dX8_bits_10 rfl rfl ?_
      refine st_iload_n dX8_bits_11 rfl rfl ?_
      refine st_iload_n dX8_bits_12 rfl rfl ?_
      refine st_ishr dX8_bits_13 ?_
      refine st_iconst dX8_bits_14 (v := 1) rfl ?_
      refine st_iand dX8_bits_15 ?_
      refine st_iadd dX8_bits_16 ?_
      refine st_istore_n dX8_bits_17 rfl (by decide) [.int x0, .int (x1 + ((x0 >>> (x2 &&& 31)) &&& 1)), .int x2] rfl ?_
      refine st_iinc dX8_bits_18 rfl (v := (x2 + 1)) rfl (by decide) [.int x0, .int (x1 + ((x0 >>> (x2 &&& 31)) &&& 1)), .int (x2 + 1)] rfl ?_
      refine st_goto dX8_bits_21 4 (by decide) ?_
      exact ih (x1 + ((x0 >>> (x2 &&& 31)) &&& 1)) (x2 + 1) q h k1
set_option maxHeartbeats 4000000 in
set_option maxRecDepth 100000 in
theorem k_X8_bits {D : Nat} (hD : 0 ≤ D) (x0 : Int32) (H : Hp) (q : Int32) (h : f_X8_bits x0 = some q) {post : Option Value → Hp → Prop} (hp : post (some (.int q)) H) : Sem D mdX8_bits [.int x0] H post := by
  refine sem_of (own := RX8) rfl pn_RX8 (Nat.le_of_ble_eq_true rfl) [.int x0, .null, .null] ⟨Or.inr rfl, rfl, rfl, trivial⟩ ?_
  unfold f_X8_bits at h
  refine st_iconst dX8_bits_0 (v := 0) rfl ?_
  refine st_istore_n dX8_bits_1 rfl (by decide) [.int x0, .int 0, .null] rfl ?_
  refine st_iconst dX8_bits_2 (v := 0) rfl ?_
  refine st_istore_n dX8_bits_3 rfl (by decide) [.int x0, .int 0, .int 0] rfl ?_
  obtain ⟨l2, e_l2, h⟩ := bnd h
  refine k_X8_bits_l4 (by omega) H x0 fuel 0 0 _ e_l2 ?_
  refine st_iload_n dX8_bits_24 rfl rfl ?_
  obtain rfl := Option.some.inj h
  exact st_iret dX8_bits_25 rfl hp
def f_X8_openClaim_l18 (r : Nat) (H : Hp) (x2 : Int32) (x4 : Int32) : Nat → Int32 → Int32 → Option (Int32)
  | 0, _, _ => none
  | n + 1, x3, x5 =>
    if 10 ≤ x5 then
      some x3
    else
      (ag H 69 60 ((6 * x4) + x2)).bind fun v1 =>
      Option.bind (
        if v1 ≤ 0 then
          some 0
        else
          (ag H 69 60 ((6 * x5) + x2)).bind fun v2 =>
          if v2 ≤ 0 then
            some 0
          else
            (f_X8_termOf r x4 x5 x2 H).bind fun v3 =>
            some v3) fun j4 =>
      f_X8_openClaim_l18 r H x2 x4 n (x3 + j4) (x5 + 1)
def f_X8_openClaim_l5 (r : Nat) (H : Hp) (x2 : Int32) : Nat → Int32 → Int32 → Option (Int32)
  | 0, _, _ => none
  | n + 1, x3, x4 =>
    if 10 ≤ x4 then
      some x3
    else
      (f_X8_openClaim_l18 r H x2 x4 fuel x3 (x4 + 1)).bind fun l9 =>
      f_X8_openClaim_l5 r H x2 n l9 (x4 + 1)
def f_X8_openClaim (r : Nat) (x2 : Int32) (H : Hp) : Option (Int32) :=
  (f_X8_openClaim_l5 r H x2 fuel 0 0).bind fun l11 =>
  some l11
set_option maxHeartbeats 4000000 in
set_option maxRecDepth 100000 in
theorem k_X8_openClaim_l18 {D : Nat} (hD : 1 ≤ (D + 1)) {r : Nat} (hr : RC r) (H : Hp) (x2 : Int32) (x4 : Int32) {post : Option Value → Hp → Prop} : ∀ (n : Nat) (x3 : Int32) (x5 : Int32) (q : Int32), f_X8_openClaim_l18 r H x2 x4 n x3 x5 = some q → V (D + 1) RX8 mdX8_openClaim 78 [.ref 60, .ref r, .int x2, .int q, .int x4, .null] [] H post → V (D + 1) RX8 mdX8_openClaim 18 [.ref 60, .ref r, .int x2, .int x3, .int x4, .int x5] [] H post := by
  intro n
  induction n with
  | zero => intro x3 x5 q h; simp [f_X8_openClaim_l18] at h
  | succ n ih =>
    intro x3 x5 q h k1
    rw [f_X8_openClaim_l18] at h
    refine st_iload dX8_openClaim_18 rfl ?_
    refine st_bipush dX8_openClaim_20 (v := 10) (by decide) ?_
    refine st_ic_ge dX8_openClaim_22 78 (by decide) (fun c5 => ?_) (fun c5 => ?_)
    · replace h := (if_pos c5).symm.trans h
      obtain rfl := Option.some.inj h
      exact st_sub [.ref 60, .ref r, .int x2, .int x3, .int x4, .null] ⟨Or.inr rfl, Or.inr rfl, Or.inr rfl, Or.inr rfl, Or.inr rfl, Or.inl rfl, trivial⟩ k1
    · replace h := (if_neg c5).symm.trans h
      refine st_iload_n dX8_openClaim_25 rfl rfl ?_
      refine st_aload_n dX8_openClaim_26 rfl rfl ?_
      refine gR8 dX8_openClaim_27 (by decide) rfl 19 (by decide) fl_RX8_34 rfl 69 rfl ?_
      refine st_bipush dX8_openClaim_30 (v := 6) (by decide) ?_
      refine st_iload dX8_openClaim_32 rfl ?_
      refine st_imul dX8_openClaim_34 ?_
      refine st_iload_n dX8_openClaim_35 rfl rfl ?_
      refine st_iadd dX8_openClaim_36 ?_
      obtain ⟨v1, e_v1, h⟩ := bnd h
      refine st_iald dX8_openClaim_37 (by decide) rfl v1 e_v1 ?_
      obtain ⟨j4, e_j4, h⟩ := bnd h
      have kj6 : V (D + 1) RX8 mdX8_openClaim 70 [.ref 60, .ref r, .int x2, .null, .int x4, .int x5] [.int j4, .int x3] H post := by
        refine st_iadd dX8_openClaim_70 ?_
        refine st_istore_n dX8_openClaim_71 rfl (by decide) [.ref 60, .ref r, .int x2, .int (x3 + j4), .int x4, .int x5] rfl ?_
        refine st_iinc dX8_openClaim_72 rfl (v := (x5 + 1)) rfl (by decide) [.ref 60, .ref r, .int x2, .int (x3 + j4), .int x4, .int (x5 + 1)] rfl ?_
        refine st_goto dX8_openClaim_75 18 (by decide) ?_
        exact ih (x3 + j4) (x5 + 1) q h k1
      refine st_if_le dX8_openClaim_38 69 (by decide) (fun c7 => ?_) (fun c7 => ?_)
      · replace e_j4 := (if_pos c7).symm.trans e_j4
        refine st_iconst dX8_openClaim_69 (v := 0) rfl ?_
        obtain rfl := Option.some.inj e_j4
        exact st_sub [.ref 60, .ref r, .int x2, .null, .int x4, .int x5] ⟨Or.inr rfl, Or.inr rfl, Or.inr rfl, Or.inl rfl, Or.inr rfl, Or.inr rfl, trivial⟩ kj6
      · replace e_j4 := (if_neg c7).symm.trans e_j4
        refine st_aload_n dX8_openClaim_41 rfl rfl ?_
        refine gR8 dX8_openClaim_42 (by decide) rfl 19 (by decide) fl_RX8_34 rfl 69 rfl ?_
        refine st_bipush dX8_openClaim_45 (v := 6) (by decide) ?_
        refine st_iload dX8_openClaim_47 rfl ?_
        refine st_imul dX8_openClaim_49 ?_
        refine st_iload_n dX8_openClaim_50 rfl rfl ?_
        refine st_iadd dX8_openClaim_51 ?_
        obtain ⟨v2, e_v2, e_j4⟩ := bnd e_j4
        refine st_iald dX8_openClaim_52 (by decide) rfl v2 e_v2 ?_
        refine st_if_le dX8_openClaim_53 69 (by decide) (fun c8 => ?_) (fun c8 => ?_)
        · replace e_j4 := (if_pos c8).symm.trans e_j4
          refine st_iconst dX8_openClaim_69 (v := 0) rfl ?_
          obtain rfl := Option.some.inj e_j4
          exact st_sub [.ref 60, .ref r, .int x2, .null, .int x4, .int x5] ⟨Or.inr rfl, Or.inr rfl, Or.inr rfl, Or.inl rfl, Or.inr rfl, Or.inr rfl, trivial⟩ kj6
        · replace e_j4 := (if_neg c8).symm.trans e_j4
          refine st_aload_n dX8_openClaim_56 rfl rfl ?_
          refine st_aload_n dX8_openClaim_57 rfl rfl ?_
          refine st_iload dX8_openClaim_58 rfl ?_
          refine st_iload dX8_openClaim_60 rfl ?_
          refine st_iload_n dX8_openClaim_62 rfl rfl ?_
          obtain ⟨v3, e_v3, e_j4⟩ := bnd e_j4
          refine st_callV [.ref r, .int x4, .int x5, .int x2] dX8_openClaim_63 co_X8_termOf im_X8_termOf se_X8_termOf ml_RX8_192 rfl (by decide) rfl (rfl : classes[8]? = some (RX8, TX8, 30)) rfl (S := [.int x3]) rfl (Nat.le_of_ble_eq_true rfl) (k_X8_termOf (by omega) hr x4 x5 x2 H _ e_v3 ?_)
          show V (D + 1) RX8 mdX8_openClaim 66 [.ref 60, .ref r, .int x2, .int x3, .int x4, .int x5] [.int v3, .int x3] H post
          refine st_goto dX8_openClaim_66 70 (by decide) ?_
          obtain rfl := Option.some.inj e_j4
          exact st_sub [.ref 60, .ref r, .int x2, .null, .int x4, .int x5] ⟨Or.inr rfl, Or.inr rfl, Or.inr rfl, Or.inl rfl, Or.inr rfl, Or.inr rfl, trivial⟩ kj6
set_option maxHeartbeats 4000000 in
set_option maxRecDepth 100000 in
theorem k_X8_openClaim_l5 {D : Nat} (hD : 1 ≤ (D + 1)) {r : Nat} (hr : RC r) (H : Hp) (x2 : Int32) {post : Option Value → Hp → Prop} : ∀ (n : Nat) (x3 : Int32) (x4 : Int32) (q : Int32), f_X8_openClaim_l5 r H x2 n x3 x4 = some q → V (D + 1) RX8 mdX8_openClaim 84 [.null, .null, .null, .int q, .null, .null] [] H post → V (D + 1) RX8 mdX8_openClaim 5 [.ref 60, .ref r, .int x2, .int x3, .int x4, .null] [] H post := by
  intro n
  induction n with
  | zero => intro x3 x4 q h; simp [f_X8_openClaim_l5] at h
  | succ n ih =>
    intro x3 x4 q h k1
    rw [f_X8_openClaim_l5] at h
    refine st_iload dX8_openClaim_5 rfl ?_
    refine st_bipush dX8_openClaim_7 (v := 10) (by decide) ?_
    refine st_ic_ge dX8_openClaim_9 84 (by decide) (fun c10 => ?_) (fun c10 => ?_)
    · replace h := (if_pos c10).symm.trans h
      obtain rfl := Option.some.inj h
      exact st_sub [.null, .null, .null, .int x3, .null, .null] ⟨Or.inl rfl, Or.inl rfl, Or.inl rfl, Or.inr rfl, Or.inl rfl, Or.inl rfl, trivial⟩ k1
    · replace h := (if_neg c10).symm.trans h
      refine st_iload dX8_openClaim_12 rfl ?_
      refine st_iconst dX8_openClaim_14 (v := 1) rfl ?_
      refine st_iadd dX8_openClaim_15 ?_
      refine st_istore dX8_openClaim_16 (by decide) [.ref 60, .ref r, .int x2, .int x3, .int x4, .int (x4 + 1)] rfl ?_
      obtain ⟨l9, e_l9, h⟩ := bnd h
      refine k_X8_openClaim_l18 (by omega) hr H x2 x4 fuel x3 (x4 + 1) _ e_l9 ?_
      refine st_iinc dX8_openClaim_78 rfl (v := (x4 + 1)) rfl (by decide) [.ref 60, .ref r, .int x2, .int l9, .int (x4 + 1), .null] rfl ?_
      refine st_goto dX8_openClaim_81 5 (by decide) ?_
      exact ih l9 (x4 + 1) q h k1
set_option maxHeartbeats 4000000 in
set_option maxRecDepth 100000 in
theorem k_X8_openClaim {D : Nat} (hD : 1 ≤ D) {r : Nat} (hr : RC r) (x2 : Int32) (H : Hp) (q : Int32) (h : f_X8_openClaim r x2 H = some q) {post : Option Value → Hp → Prop} (hp : post (some (.int q)) H) : Sem D mdX8_openClaim [.ref 60, .ref r, .int x2] H post := by
  obtain ⟨D, rfl⟩ : ∃ E, D = E + 1 := ⟨D - 1, by omega⟩
  refine sem_of (own := RX8) rfl pn_RX8 (Nat.le_of_ble_eq_true rfl) [.ref 60, .ref r, .int x2, .null, .null, .null] ⟨Or.inr rfl, Or.inr rfl, Or.inr rfl, rfl, rfl, rfl, trivial⟩ ?_
  unfold f_X8_openClaim at h
  refine st_iconst dX8_openClaim_0 (v := 0) rfl ?_
  refine st_istore_n dX8_openClaim_1 rfl (by decide) [.ref 60, .ref r, .int x2, .int 0, .null, .null] rfl ?_
  refine st_iconst dX8_openClaim_2 (v := 0) rfl ?_
  refine st_istore dX8_openClaim_3 (by decide) [.ref 60, .ref r, .int x2, .int 0, .int 0, .null] rfl ?_
  obtain ⟨l11, e_l11, h⟩ := bnd h
  refine k_X8_openClaim_l5 (by omega) hr H x2 fuel 0 0 _ e_l11 ?_
  refine st_iload_n dX8_openClaim_84 rfl rfl ?_
  obtain rfl := Option.some.inj h
  exact st_iret dX8_openClaim_85 rfl hp
def f_X8_sumsOf_l4 (H : Hp) (x1 : Int32) : Nat → Int32 → Int32 → Option (Int32)
  | 0, _, _ => none
  | n + 1, x2, x3 =>
    if 10 ≤ x3 then
      some x2
    else
      (ag H 69 60 ((6 * x3) + x1)).bind fun v1 =>
      f_X8_sumsOf_l4 H x1 n (x2 + v1) (x3 + 1)
def f_X8_sumsOf (x1 : Int32) (H : Hp) : Option (Int32) :=
  (f_X8_sumsOf_l4 H x1 fuel 0 0).bind fun l3 =>
  some l3
set_option maxHeartbeats 4000000 in
set_option maxRecDepth 100000 in
theorem k_X8_sumsOf_l4 {D : Nat} (hD : 0 ≤ D) (H : Hp) (x1 : Int32) {post : Option Value → Hp → Prop} : ∀ (n : Nat) (x2 : Int32) (x3 : Int32) (q : Int32), f_X8_sumsOf_l4 H x1 n x2 x3 = some q → V D RX8 mdX8_sumsOf 30 [.null, .null, .int q, .null] [] H post → V D RX8 mdX8_sumsOf 4 [.ref 60, .int x1, .int x2, .int x3] [] H post := by
  intro n
  induction n with
  | zero => intro x2 x3 q h; simp [f_X8_sumsOf_l4] at h
  | succ n ih =>
    intro x2 x3 q h k1
    rw [f_X8_sumsOf_l4] at h
    refine st_iload_n dX8_sumsOf_4 rfl rfl ?_
    refine st_bipush dX8_sumsOf_5 (v := 10) (by decide) ?_
    refine st_ic_ge dX8_sumsOf_7 30 (by decide) (fun c2 => ?_) (fun c2 => ?_)
    · replace h := (if_pos c2).symm.trans h
      obtain rfl := Option.some.inj h
      exact st_sub [.null, .null, .int x2, .null] ⟨Or.inl rfl, Or.inl rfl, Or.inr rfl, Or.inl rfl, trivial⟩ k1
    · replace h := (if_neg c2).symm.trans h
      refine st_iload_n dX8_sumsOf_10 rfl rfl ?_
      refine st_aload_n dX8_sumsOf_11 rfl rfl ?_
      refine gR8 dX8_sumsOf_12 (by decide) rfl 19 (by decide) fl_RX8_34 rfl 69 rfl ?_
      refine st_bipush dX8_sumsOf_15 (v := 6) (by decide) ?_
      refine st_iload_n dX8_sumsOf_17 rfl rfl ?_
      refine st_imul dX8_sumsOf_18 ?_
      refine st_iload_n dX8_sumsOf_19 rfl rfl ?_
      refine st_iadd dX8_sumsOf_20 ?_
      obtain ⟨v1, e_v1, h⟩ := bnd h
      refine st_iald dX8_sumsOf_21 (by decide) rfl v1 e_v1 ?_
      refine st_iadd dX8_sumsOf_22 ?_
      refine st_istore_n dX8_sumsOf_23 rfl (by decide) [.ref 60, .int x1, .int (x2 + v1), .int x3] rfl ?_
      refine st_iinc dX8_sumsOf_24 rfl (v := (x3 + 1)) rfl (by decide) [.ref 60, .int x1, .int (x2 + v1), .int (x3 + 1)] rfl ?_
      refine st_goto dX8_sumsOf_27 4 (by decide) ?_
      exact ih (x2 + v1) (x3 + 1) q h k1
set_option maxHeartbeats 4000000 in
set_option maxRecDepth 100000 in
theorem k_X8_sumsOf {D : Nat} (hD : 0 ≤ D) (x1 : Int32) (H : Hp) (q : Int32) (h : f_X8_sumsOf x1 H = some q) {post : Option Value → Hp → Prop} (hp : post (some (.int q)) H) : Sem D mdX8_sumsOf [.ref 60, .int x1] H post := by
  refine sem_of (own := RX8) rfl pn_RX8 (Nat.le_of_ble_eq_true rfl) [.ref 60, .int x1, .null, .null] ⟨Or.inr rfl, Or.inr rfl, rfl, rfl, trivial⟩ ?_
  unfold f_X8_sumsOf at h
  refine st_iconst dX8_sumsOf_0 (v := 0) rfl ?_
  refine st_istore_n dX8_sumsOf_1 rfl (by decide) [.ref 60, .int x1, .int 0, .null] rfl ?_
  refine st_iconst dX8_sumsOf_2 (v := 0) rfl ?_
  refine st_istore_n dX8_sumsOf_3 rfl (by decide) [.ref 60, .int x1, .int 0, .int 0] rfl ?_
  obtain ⟨l3, e_l3, h⟩ := bnd h
  refine k_X8_sumsOf_l4 (by omega) H x1 fuel 0 0 _ e_l3 ?_
  refine st_iload_n dX8_sumsOf_30 rfl rfl ?_
  obtain rfl := Option.some.inj h
  exact st_iret dX8_sumsOf_31 rfl hp
def f_X8_squareClaim_l5 (H : Hp) (x1 : Int32) : Nat → Int64 → Int32 → Option (Int64)
  | 0, _, _ => none
  | n + 1, x2, x4 =>
    if 10 ≤ x4 then
      some x2
    else
      (ag H 70 60 ((6 * x4) + x1)).bind fun v1 =>
      f_X8_squareClaim_l5 H x1 n (x2 + v1.toInt64) (x4 + 1)
def f_X8_squareClaim (x1 : Int32) (H : Hp) : Option (Int32) :=
  (f_X8_squareClaim_l5 H x1 fuel 0 0).bind fun l3 =>
  (f_X8_sumsOf x1 H).bind fun v4 =>
  some (if 0 ≤ (((l3 * l3) / 10000).toInt32 - v4) then (((l3 * l3) / 10000).toInt32 - v4) else 0)
set_option maxHeartbeats 4000000 in
set_option maxRecDepth 100000 in
theorem k_X8_squareClaim_l5 {D : Nat} (hD : 1 ≤ (D + 1)) (H : Hp) (x1 : Int32) {post : Option Value → Hp → Prop} : ∀ (n : Nat) (x2 : Int64) (x4 : Int32) (q : Int64), f_X8_squareClaim_l5 H x1 n x2 x4 = some q → V (D + 1) RX8 mdX8_squareClaim 34 [.ref 60, .int x1, .long q, .null, .null] [] H post → V (D + 1) RX8 mdX8_squareClaim 5 [.ref 60, .int x1, .long x2, .null, .int x4] [] H post := by
  intro n
  induction n with
  | zero => intro x2 x4 q h; simp [f_X8_squareClaim_l5] at h
  | succ n ih =>
    intro x2 x4 q h k1
    rw [f_X8_squareClaim_l5] at h
    refine st_iload dX8_squareClaim_5 rfl ?_
    refine st_bipush dX8_squareClaim_7 (v := 10) (by decide) ?_
    refine st_ic_ge dX8_squareClaim_9 34 (by decide) (fun c2 => ?_) (fun c2 => ?_)
    · replace h := (if_pos c2).symm.trans h
      obtain rfl := Option.some.inj h
      exact st_sub [.ref 60, .int x1, .long x2, .null, .null] ⟨Or.inr rfl, Or.inr rfl, Or.inr rfl, Or.inl rfl, Or.inl rfl, trivial⟩ k1
    · replace h := (if_neg c2).symm.trans h
      refine st_lload_n dX8_squareClaim_12 rfl rfl ?_
      refine st_aload_n dX8_squareClaim_13 rfl rfl ?_
      refine gR8 dX8_squareClaim_14 (by decide) rfl 20 (by decide) fl_RX8_37 rfl 70 rfl ?_
      refine st_bipush dX8_squareClaim_17 (v := 6) (by decide) ?_
      refine st_iload dX8_squareClaim_19 rfl ?_
      refine st_imul dX8_squareClaim_21 ?_
      refine st_iload_n dX8_squareClaim_22 rfl rfl ?_
      refine st_iadd dX8_squareClaim_23 ?_
      obtain ⟨v1, e_v1, h⟩ := bnd h
      refine st_iald dX8_squareClaim_24 (by decide) rfl v1 e_v1 ?_
      refine st_i2l dX8_squareClaim_25 ?_
      refine st_ladd dX8_squareClaim_26 ?_
      refine st_lstore_n dX8_squareClaim_27 rfl (by decide) [.ref 60, .int x1, .long (x2 + v1.toInt64), .null, .int x4] rfl ?_
      refine st_iinc dX8_squareClaim_28 rfl (v := (x4 + 1)) rfl (by decide) [.ref 60, .int x1, .long (x2 + v1.toInt64), .null, .int (x4 + 1)] rfl ?_
      refine st_goto dX8_squareClaim_31 5 (by decide) ?_
      exact ih (x2 + v1.toInt64) (x4 + 1) q h k1
set_option maxHeartbeats 4000000 in
set_option maxRecDepth 100000 in
theorem k_X8_squareClaim {D : Nat} (hD : 1 ≤ D) (x1 : Int32) (H : Hp) (q : Int32) (h : f_X8_squareClaim x1 H = some q) {post : Option Value → Hp → Prop} (hp : post (some (.int q)) H) : Sem D mdX8_squareClaim [.ref 60, .int x1] H post := by
  obtain ⟨D, rfl⟩ : ∃ E, D = E + 1 := ⟨D - 1, by omega⟩
  refine sem_of (own := RX8) rfl pn_RX8 (Nat.le_of_ble_eq_true rfl) [.ref 60, .int x1, .null, .null, .null] ⟨Or.inr rfl, Or.inr rfl, rfl, rfl, rfl, trivial⟩ ?_
  unfold f_X8_squareClaim at h
  refine st_lconst dX8_squareClaim_0 (v := 0) rfl ?_
  refine st_lstore_n dX8_squareClaim_1 rfl (by decide) [.ref 60, .int x1, .long 0, .null, .null] rfl ?_
  refine st_iconst dX8_squareClaim_2 (v := 0) rfl ?_
  refine st_istore dX8_squareClaim_3 (by decide) [.ref 60, .int x1, .long 0, .null, .int 0] rfl ?_
  obtain ⟨l3, e_l3, h⟩ := bnd h
  refine k_X8_squareClaim_l5 (by omega) H x1 fuel 0 0 _ e_l3 ?_
  refine st_lload_n dX8_squareClaim_34 rfl rfl ?_
  refine st_lload_n dX8_squareClaim_35 rfl rfl ?_
  refine st_lmul dX8_squareClaim_36 ?_
  refine st_ldc2 dX8_squareClaim_37 cl_RX8_190 ?_
  refine st_ldiv dX8_squareClaim_40 (by decide) ?_
  refine st_l2i dX8_squareClaim_41 ?_
  refine st_aload_n dX8_squareClaim_42 rfl rfl ?_
  refine st_iload_n dX8_squareClaim_43 rfl rfl ?_
  obtain ⟨v4, e_v4, h⟩ := bnd h
  refine st_callV [.int x1] dX8_squareClaim_44 co_X8_sumsOf im_X8_sumsOf se_X8_sumsOf ml_RX8_196 rfl (by decide) rfl (rfl : classes[8]? = some (RX8, TX8, 30)) rfl (S := [.int ((l3 * l3) / 10000).toInt32]) rfl (Nat.le_of_ble_eq_true rfl) (k_X8_sumsOf (by omega) x1 H _ e_v4 ?_)
  show V (D + 1) RX8 mdX8_squareClaim 47 [.ref 60, .int x1, .long l3, .null, .null] [.int v4, .int ((l3 * l3) / 10000).toInt32] H post
  refine st_isub dX8_squareClaim_47 ?_
  refine st_istore dX8_squareClaim_48 (by decide) [.ref 60, .int x1, .long l3, .null, .int (((l3 * l3) / 10000).toInt32 - v4)] rfl ?_
  refine st_iload dX8_squareClaim_50 rfl ?_
  have kj6 : ∀ z5 : Int32, z5 = (if 0 ≤ (((l3 * l3) / 10000).toInt32 - v4) then (((l3 * l3) / 10000).toInt32 - v4) else 0) → V (D + 1) RX8 mdX8_squareClaim 61 [.null, .null, .null, .null, .null] [.int z5] H post := by
    intro z5 ez5
    subst ez5
    obtain rfl := Option.some.inj h
    exact st_iret dX8_squareClaim_61 rfl hp
  refine st_if_ge dX8_squareClaim_52 59 (by decide) (fun c7 => ?_) (fun c7 => ?_)
  · refine st_iload dX8_squareClaim_59 rfl ?_
    exact st_sub [.null, .null, .null, .null, .null] ⟨Or.inl rfl, Or.inl rfl, Or.inl rfl, Or.inl rfl, Or.inl rfl, trivial⟩ (kj6 _ (Eq.symm (if_pos c7)))
  · refine st_iconst dX8_squareClaim_55 (v := 0) rfl ?_
    refine st_goto dX8_squareClaim_56 61 (by decide) ?_
    exact st_sub [.null, .null, .null, .null, .null] ⟨Or.inl rfl, Or.inl rfl, Or.inl rfl, Or.inl rfl, Or.inl rfl, trivial⟩ (kj6 _ (Eq.symm (if_neg c7)))
def f_X8_claimOf (r : Nat) (x2 : Int32) (H : Hp) : Option (Int32) :=
  (f_X8_giversOf x2 H).bind fun v1 =>
  (f_X8_bits v1).bind fun v2 =>
  (ag H r 80 (4 + x2)).bind fun v3 =>
  if v3 = 1 then
    (f_X8_openClaim r x2 H).bind fun v4 =>
    some v4
  else
  if v3 = 2 then
    (f_X8_squareClaim x2 H).bind fun v5 =>
    some v5
  else
  if v3 = 3 then
    (f_X8_openClaim r x2 H).bind fun v6 =>
    some (v6 / 2)
  else
  if v3 = 4 then
    (f_X8_sumsOf x2 H).bind fun v7 =>
    some v7
  else
    (f_X8_sumsOf x2 H).bind fun v8 =>
    Option.bind (
      if (5 * v2) ≤ v8 then
        some (5 * v2)
      else
        (f_X8_sumsOf x2 H).bind fun v9 =>
        some v9) fun j10 =>
    some j10
set_option maxHeartbeats 4000000 in
set_option maxRecDepth 100000 in
theorem k_X8_claimOf {D : Nat} (hD : 2 ≤ D) {r : Nat} (hr : RC r) (x2 : Int32) (H : Hp) (q : Int32) (h : f_X8_claimOf r x2 H = some q) {post : Option Value → Hp → Prop} (hp : post (some (.int q)) H) : Sem D mdX8_claimOf [.ref 60, .ref r, .int x2] H post := by
  obtain ⟨D, rfl⟩ : ∃ E, D = E + 1 := ⟨D - 1, by omega⟩
  refine sem_of (own := RX8) rfl pn_RX8 (Nat.le_of_ble_eq_true rfl) [.ref 60, .ref r, .int x2, .null] ⟨Or.inr rfl, Or.inr rfl, Or.inr rfl, rfl, trivial⟩ ?_
  unfold f_X8_claimOf at h
  refine st_iconst dX8_claimOf_0 (v := 5) rfl ?_
  refine st_aload_n dX8_claimOf_1 rfl rfl ?_
  refine st_iload_n dX8_claimOf_2 rfl rfl ?_
  obtain ⟨v1, e_v1, h⟩ := bnd h
  refine st_callV [.int x2] dX8_claimOf_3 co_X8_giversOf im_X8_giversOf se_X8_giversOf ml_RX8_199 rfl (by decide) rfl (rfl : classes[8]? = some (RX8, TX8, 30)) rfl (S := [.int 5]) rfl (Nat.le_of_ble_eq_true rfl) (k_X8_giversOf (by omega) x2 H _ e_v1 ?_)
  show V (D + 1) RX8 mdX8_claimOf 6 [.ref 60, .ref r, .int x2, .null] [.int v1, .int 5] H post
  obtain ⟨v2, e_v2, h⟩ := bnd h
  refine st_callS [.int v1] dX8_claimOf_6 co_X8_bits sm_X8_bits ml_RX8_202 rfl (S := [.int 5]) rfl (Nat.le_of_ble_eq_true rfl) (k_X8_bits (by omega) v1 H _ e_v2 ?_)
  show V (D + 1) RX8 mdX8_claimOf 9 [.ref 60, .ref r, .int x2, .null] [.int v2, .int 5] H post
  refine st_imul dX8_claimOf_9 ?_
  refine st_istore_n dX8_claimOf_10 rfl (by decide) [.ref 60, .ref r, .int x2, .int (5 * v2)] rfl ?_
  refine st_aload_n dX8_claimOf_11 rfl rfl ?_
  refine st_iconst dX8_claimOf_12 (v := 4) rfl ?_
  refine st_iload_n dX8_claimOf_13 rfl rfl ?_
  refine st_iadd dX8_claimOf_14 ?_
  obtain ⟨v3, e_v3, h⟩ := bnd h
  refine st_iald dX8_claimOf_15 hr.1 hr.2 v3 e_v3 ?_
  by_cases s11 : v3 = 1
  · replace h := (if_pos s11).symm.trans h
    refine st_tabIn dX8_claimOf_16 (by rw [s11]; decide) (by rw [s11]; decide) (by rw [s11] <;> rfl) 48 (by decide) ?_
    refine st_aload_n dX8_claimOf_48 rfl rfl ?_
    refine st_aload_n dX8_claimOf_49 rfl rfl ?_
    refine st_iload_n dX8_claimOf_50 rfl rfl ?_
    obtain ⟨v4, e_v4, h⟩ := bnd h
    refine st_callV [.ref r, .int x2] dX8_claimOf_51 co_X8_openClaim im_X8_openClaim se_X8_openClaim ml_RX8_205 rfl (by decide) rfl (rfl : classes[8]? = some (RX8, TX8, 30)) rfl (S := []) rfl (Nat.le_of_ble_eq_true rfl) (k_X8_openClaim (by omega) hr x2 H _ e_v4 ?_)
    show V (D + 1) RX8 mdX8_claimOf 54 [.ref 60, .ref r, .int x2, .int (5 * v2)] [.int v4] H post
    obtain rfl := Option.some.inj h
    exact st_iret dX8_claimOf_54 rfl hp
  · replace h := (if_neg s11).symm.trans h
    by_cases s12 : v3 = 2
    · replace h := (if_pos s12).symm.trans h
      refine st_tabIn dX8_claimOf_16 (by rw [s12]; decide) (by rw [s12]; decide) (by rw [s12] <;> rfl) 55 (by decide) ?_
      refine st_aload_n dX8_claimOf_55 rfl rfl ?_
      refine st_iload_n dX8_claimOf_56 rfl rfl ?_
      obtain ⟨v5, e_v5, h⟩ := bnd h
      refine st_callV [.int x2] dX8_claimOf_57 co_X8_squareClaim im_X8_squareClaim se_X8_squareClaim ml_RX8_209 rfl (by decide) rfl (rfl : classes[8]? = some (RX8, TX8, 30)) rfl (S := []) rfl (Nat.le_of_ble_eq_true rfl) (k_X8_squareClaim (by omega) x2 H _ e_v5 ?_)
      show V (D + 1) RX8 mdX8_claimOf 60 [.ref 60, .ref r, .int x2, .int (5 * v2)] [.int v5] H post
      obtain rfl := Option.some.inj h
      exact st_iret dX8_claimOf_60 rfl hp
    · replace h := (if_neg s12).symm.trans h
      by_cases s13 : v3 = 3
      · replace h := (if_pos s13).symm.trans h
        refine st_tabIn dX8_claimOf_16 (by rw [s13]; decide) (by rw [s13]; decide) (by rw [s13] <;> rfl) 61 (by decide) ?_
        refine st_aload_n dX8_claimOf_61 rfl rfl ?_
        refine st_aload_n dX8_claimOf_62 rfl rfl ?_
        refine st_iload_n dX8_claimOf_63 rfl rfl ?_
        obtain ⟨v6, e_v6, h⟩ := bnd h
        refine st_callV [.ref r, .int x2] dX8_claimOf_64 co_X8_openClaim im_X8_openClaim se_X8_openClaim ml_RX8_205 rfl (by decide) rfl (rfl : classes[8]? = some (RX8, TX8, 30)) rfl (S := []) rfl (Nat.le_of_ble_eq_true rfl) (k_X8_openClaim (by omega) hr x2 H _ e_v6 ?_)
        show V (D + 1) RX8 mdX8_claimOf 67 [.ref 60, .ref r, .int x2, .int (5 * v2)] [.int v6] H post
        refine st_iconst dX8_claimOf_67 (v := 2) rfl ?_
        refine st_idiv dX8_claimOf_68 (by decide) ?_
        obtain rfl := Option.some.inj h
        exact st_iret dX8_claimOf_69 rfl hp
      · replace h := (if_neg s13).symm.trans h
        by_cases s14 : v3 = 4
        · replace h := (if_pos s14).symm.trans h
          refine st_tabIn dX8_claimOf_16 (by rw [s14]; decide) (by rw [s14]; decide) (by rw [s14] <;> rfl) 70 (by decide) ?_
          refine st_aload_n dX8_claimOf_70 rfl rfl ?_
          refine st_iload_n dX8_claimOf_71 rfl rfl ?_
          obtain ⟨v7, e_v7, h⟩ := bnd h
          refine st_callV [.int x2] dX8_claimOf_72 co_X8_sumsOf im_X8_sumsOf se_X8_sumsOf ml_RX8_196 rfl (by decide) rfl (rfl : classes[8]? = some (RX8, TX8, 30)) rfl (S := []) rfl (Nat.le_of_ble_eq_true rfl) (k_X8_sumsOf (by omega) x2 H _ e_v7 ?_)
          show V (D + 1) RX8 mdX8_claimOf 75 [.ref 60, .ref r, .int x2, .int (5 * v2)] [.int v7] H post
          obtain rfl := Option.some.inj h
          exact st_iret dX8_claimOf_75 rfl hp
        · replace h := (if_neg s14).symm.trans h
          have ts11 := lv_neT s11 (a := 1) (by decide)
          have ts12 := lv_neT s12 (a := 2) (by decide)
          have ts13 := lv_neT s13 (a := 3) (by decide)
          have ts14 := lv_neT s14 (a := 4) (by decide)
          refine st_tabOut dX8_claimOf_16 (by omega) 76 (by decide) ?_
          refine st_aload_n dX8_claimOf_76 rfl rfl ?_
          refine st_iload_n dX8_claimOf_77 rfl rfl ?_
          obtain ⟨v8, e_v8, h⟩ := bnd h
          refine st_callV [.int x2] dX8_claimOf_78 co_X8_sumsOf im_X8_sumsOf se_X8_sumsOf ml_RX8_196 rfl (by decide) rfl (rfl : classes[8]? = some (RX8, TX8, 30)) rfl (S := []) rfl (Nat.le_of_ble_eq_true rfl) (k_X8_sumsOf (by omega) x2 H _ e_v8 ?_)
          show V (D + 1) RX8 mdX8_claimOf 81 [.ref 60, .ref r, .int x2, .int (5 * v2)] [.int v8] H post
          refine st_iload_n dX8_claimOf_81 rfl rfl ?_
          obtain ⟨j10, e_j10, h⟩ := bnd h
          have kj15 : V (D + 1) RX8 mdX8_claimOf 94 [.null, .null, .null, .null] [.int j10] H post := by
            obtain rfl := Option.some.inj h
            exact st_iret dX8_claimOf_94 rfl hp
          refine st_ic_ge dX8_claimOf_82 93 (by decide) (fun c16 => ?_) (fun c16 => ?_)
          · replace e_j10 := (if_pos c16).symm.trans e_j10
            refine st_iload_n dX8_claimOf_93 rfl rfl ?_
            obtain rfl := Option.some.inj e_j10
            exact st_sub [.null, .null, .null, .null] ⟨Or.inl rfl, Or.inl rfl, Or.inl rfl, Or.inl rfl, trivial⟩ kj15
          · replace e_j10 := (if_neg c16).symm.trans e_j10
            refine st_aload_n dX8_claimOf_85 rfl rfl ?_
            refine st_iload_n dX8_claimOf_86 rfl rfl ?_
            obtain ⟨v9, e_v9, e_j10⟩ := bnd e_j10
            refine st_callV [.int x2] dX8_claimOf_87 co_X8_sumsOf im_X8_sumsOf se_X8_sumsOf ml_RX8_196 rfl (by decide) rfl (rfl : classes[8]? = some (RX8, TX8, 30)) rfl (S := []) rfl (Nat.le_of_ble_eq_true rfl) (k_X8_sumsOf (by omega) x2 H _ e_v9 ?_)
            show V (D + 1) RX8 mdX8_claimOf 90 [.ref 60, .ref r, .int x2, .int (5 * v2)] [.int v9] H post
            refine st_goto dX8_claimOf_90 94 (by decide) ?_
            obtain rfl := Option.some.inj e_j10
            exact st_sub [.null, .null, .null, .null] ⟨Or.inl rfl, Or.inl rfl, Or.inl rfl, Or.inl rfl, trivial⟩ kj15
def f_X8_claimsTogether_l4 (r : Nat) (H : Hp) : Nat → Int32 → Int32 → Option (Int32)
  | 0, _, _ => none
  | n + 1, x2, x3 =>
    (ag H r 80 0).bind fun v1 =>
    if v1 ≤ x3 then
      some x2
    else
      (ag H 72 6 x3).bind fun v2 =>
      f_X8_claimsTogether_l4 r H n (x2 + v2) (x3 + 1)
def f_X8_claimsTogether (r : Nat) (H : Hp) : Option (Int32) :=
  (f_X8_claimsTogether_l4 r H fuel 0 0).bind fun l4 =>
  some l4
set_option maxHeartbeats 4000000 in
set_option maxRecDepth 100000 in
theorem k_X8_claimsTogether_l4 {D : Nat} (hD : 0 ≤ D) {r : Nat} (hr : RC r) (H : Hp) {post : Option Value → Hp → Prop} : ∀ (n : Nat) (x2 : Int32) (x3 : Int32) (q : Int32), f_X8_claimsTogether_l4 r H n x2 x3 = some q → V D RX8 mdX8_claimsTogether 26 [.null, .null, .int q, .null] [] H post → V D RX8 mdX8_claimsTogether 4 [.ref 60, .ref r, .int x2, .int x3] [] H post := by
  intro n
  induction n with
  | zero => intro x2 x3 q h; simp [f_X8_claimsTogether_l4] at h
  | succ n ih =>
    intro x2 x3 q h k1
    rw [f_X8_claimsTogether_l4] at h
    refine st_iload_n dX8_claimsTogether_4 rfl rfl ?_
    refine st_aload_n dX8_claimsTogether_5 rfl rfl ?_
    refine st_iconst dX8_claimsTogether_6 (v := 0) rfl ?_
    obtain ⟨v1, e_v1, h⟩ := bnd h
    refine st_iald dX8_claimsTogether_7 hr.1 hr.2 v1 e_v1 ?_
    refine st_ic_ge dX8_claimsTogether_8 26 (by decide) (fun c3 => ?_) (fun c3 => ?_)
    · replace h := (if_pos c3).symm.trans h
      obtain rfl := Option.some.inj h
      exact st_sub [.null, .null, .int x2, .null] ⟨Or.inl rfl, Or.inl rfl, Or.inr rfl, Or.inl rfl, trivial⟩ k1
    · replace h := (if_neg c3).symm.trans h
      refine st_iload_n dX8_claimsTogether_11 rfl rfl ?_
      refine st_aload_n dX8_claimsTogether_12 rfl rfl ?_
      refine gR8 dX8_claimsTogether_13 (by decide) rfl 22 (by decide) fl_RX8_43 rfl 72 rfl ?_
      refine st_iload_n dX8_claimsTogether_16 rfl rfl ?_
      obtain ⟨v2, e_v2, h⟩ := bnd h
      refine st_iald dX8_claimsTogether_17 (by decide) rfl v2 e_v2 ?_
      refine st_iadd dX8_claimsTogether_18 ?_
      refine st_istore_n dX8_claimsTogether_19 rfl (by decide) [.ref 60, .ref r, .int (x2 + v2), .int x3] rfl ?_
      refine st_iinc dX8_claimsTogether_20 rfl (v := (x3 + 1)) rfl (by decide) [.ref 60, .ref r, .int (x2 + v2), .int (x3 + 1)] rfl ?_
      refine st_goto dX8_claimsTogether_23 4 (by decide) ?_
      exact ih (x2 + v2) (x3 + 1) q h k1
set_option maxHeartbeats 4000000 in
set_option maxRecDepth 100000 in
theorem k_X8_claimsTogether {D : Nat} (hD : 0 ≤ D) {r : Nat} (hr : RC r) (H : Hp) (q : Int32) (h : f_X8_claimsTogether r H = some q) {post : Option Value → Hp → Prop} (hp : post (some (.int q)) H) : Sem D mdX8_claimsTogether [.ref 60, .ref r] H post := by
  refine sem_of (own := RX8) rfl pn_RX8 (Nat.le_of_ble_eq_true rfl) [.ref 60, .ref r, .null, .null] ⟨Or.inr rfl, Or.inr rfl, rfl, rfl, trivial⟩ ?_
  unfold f_X8_claimsTogether at h
  refine st_iconst dX8_claimsTogether_0 (v := 0) rfl ?_
  refine st_istore_n dX8_claimsTogether_1 rfl (by decide) [.ref 60, .ref r, .int 0, .null] rfl ?_
  refine st_iconst dX8_claimsTogether_2 (v := 0) rfl ?_
  refine st_istore_n dX8_claimsTogether_3 rfl (by decide) [.ref 60, .ref r, .int 0, .int 0] rfl ?_
  obtain ⟨l4, e_l4, h⟩ := bnd h
  refine k_X8_claimsTogether_l4 (by omega) hr H fuel 0 0 _ e_l4 ?_
  refine st_iload_n dX8_claimsTogether_26 rfl rfl ?_
  obtain rfl := Option.some.inj h
  exact st_iret dX8_claimsTogether_27 rfl hp
def f_X8_pay_l15 (r : Nat) (x2 : Int32) : Nat → Int32 → Hp → Option (Hp)
  | 0, _, _ => none
  | n + 1, x3, H =>
    (ag H r 80 0).bind fun v4 =>
    if v4 ≤ x3 then
      some H
    else
      (ag H r 80 1).bind fun v5 =>
      Option.bind (
        if v5 < x2 then
          (ag H 72 6 x3).bind fun v6 =>
          (ag H r 80 1).bind fun v7 =>
          if x2.toInt64 = 0 then none else
          some ((v6.toInt64 * v7.toInt64) / x2.toInt64).toInt32
        else
          (ag H 72 6 x3).bind fun v8 =>
          some v8) fun j9 =>
      (as H 73 6 x3 j9).bind fun H10 =>
      (ag H10 73 6 x3).bind fun v11 =>
      (pf H10 60 24 ((H10 60 24) - v11)).bind fun H12 =>
      f_X8_pay_l15 r x2 n (x3 + 1) H12
def f_X8_pay_l83 (r : Nat) (x2 : Int32) : Nat → Int32 → Hp → Option (Hp)
  | 0, _, _ => none
  | n + 1, x3, H =>
    (ag H r 80 0).bind fun v18 =>
    if v18 ≤ x3 then
      some H
    else
      (ag H r 80 1).bind fun v19 =>
      if x2 ≤ v19 then
        some H
      else
        if (H 60 24) ≤ 0 then
          some H
        else
          (ag H 73 6 x3).bind fun v20 =>
          (ag H 72 6 x3).bind fun v21 =>
          (as H 73 6 x3 (v20 + ((if v21 ≤ 0 then 0 else 1) : Int32))).bind fun H22 =>
          (ag H22 72 6 x3).bind fun v23 =>
          (pf H22 60 24 ((H22 60 24) - ((if v23 ≤ 0 then 0 else 1) : Int32))).bind fun H24 =>
          f_X8_pay_l83 r x2 n (x3 + 1) H24
def f_X8_pay (r : Nat) (H : Hp) : Option (Hp) :=
  (f_X8_claimsTogether r H).bind fun v1 =>
  (ag H r 80 1).bind fun v2 =>
  (pf H 60 24 v2).bind fun H3 =>
  (f_X8_pay_l15 r v1 fuel 0 H3).bind fun l17 =>
  (f_X8_pay_l83 r v1 fuel 0 l17).bind fun l34 =>
  some l34
set_option maxHeartbeats 4000000 in
set_option maxRecDepth 100000 in
theorem k_X8_pay_l15 {D : Nat} (hD : 1 ≤ (D + 1)) {r : Nat} (hr : RC r) (x2 : Int32) {post : Option Value → Hp → Prop} : ∀ (n : Nat) (x3 : Int32) (H : Hp) (q : Hp), f_X8_pay_l15 r x2 n x3 H = some q → V (D + 1) RX8 mdX8_pay 81 [.ref 60, .ref r, .int x2, .null] [] q post → V (D + 1) RX8 mdX8_pay 15 [.ref 60, .ref r, .int x2, .int x3] [] H post := by
  intro n
  induction n with
  | zero => intro x3 H q h; simp [f_X8_pay_l15] at h
  | succ n ih =>
    intro x3 H q h k1
    rw [f_X8_pay_l15] at h
    refine st_iload_n dX8_pay_15 rfl rfl ?_
    refine st_aload_n dX8_pay_16 rfl rfl ?_
    refine st_iconst dX8_pay_17 (v := 0) rfl ?_
    obtain ⟨v4, e_v4, h⟩ := bnd h
    refine st_iald dX8_pay_18 hr.1 hr.2 v4 e_v4 ?_
    refine st_ic_ge dX8_pay_19 81 (by decide) (fun c13 => ?_) (fun c13 => ?_)
    · replace h := (if_pos c13).symm.trans h
      obtain rfl := Option.some.inj h
      exact st_sub [.ref 60, .ref r, .int x2, .null] ⟨Or.inr rfl, Or.inr rfl, Or.inr rfl, Or.inl rfl, trivial⟩ k1
    · replace h := (if_neg c13).symm.trans h
      refine st_aload_n dX8_pay_22 rfl rfl ?_
      refine gR8 dX8_pay_23 (by decide) rfl 23 (by decide) fl_RX8_46 rfl 73 rfl ?_
      refine st_iload_n dX8_pay_26 rfl rfl ?_
      refine st_iload_n dX8_pay_27 rfl rfl ?_
      refine st_aload_n dX8_pay_28 rfl rfl ?_
      refine st_iconst dX8_pay_29 (v := 1) rfl ?_
      obtain ⟨v5, e_v5, h⟩ := bnd h
      refine st_iald dX8_pay_30 hr.1 hr.2 v5 e_v5 ?_
      obtain ⟨j9, e_j9, h⟩ := bnd h
      have kj14 : V (D + 1) RX8 mdX8_pay 59 [.ref 60, .ref r, .int x2, .int x3] [.int j9, .int x3, .ref 73] H post := by
        obtain ⟨H10, e_H10, h⟩ := bnd h
        refine st_iast dX8_pay_59 (by decide) rfl H10 e_H10 ?_
        refine st_aload_n dX8_pay_60 rfl rfl ?_
        refine st_dup dX8_pay_61 rfl ?_
        refine gI8 dX8_pay_62 (by decide) rfl 24 (by decide) fl_RX8_216 rfl rfl ?_
        refine st_aload_n dX8_pay_65 rfl rfl ?_
        refine gR8 dX8_pay_66 (by decide) rfl 23 (by decide) fl_RX8_46 rfl 73 rfl ?_
        refine st_iload_n dX8_pay_69 rfl rfl ?_
        obtain ⟨v11, e_v11, h⟩ := bnd h
        refine st_iald dX8_pay_70 (by decide) rfl v11 e_v11 ?_
        refine st_isub dX8_pay_71 ?_
        obtain ⟨H12, e_H12, h⟩ := bnd h
        refine pI8 dX8_pay_72 (by decide) rfl 24 (by decide) fl_RX8_216 rfl rfl rfl rfl e_H12 ?_
        refine st_iinc dX8_pay_75 rfl (v := (x3 + 1)) rfl (by decide) [.ref 60, .ref r, .int x2, .int (x3 + 1)] rfl ?_
        refine st_goto dX8_pay_78 15 (by decide) ?_
        exact ih (x3 + 1) H12 q h k1
      refine st_ic_gt dX8_pay_31 43 (by decide) (fun c15 => ?_) (fun c15 => ?_)
      · replace e_j9 := (if_pos c15).symm.trans e_j9
        refine st_aload_n dX8_pay_43 rfl rfl ?_
        refine gR8 dX8_pay_44 (by decide) rfl 22 (by decide) fl_RX8_43 rfl 72 rfl ?_
        refine st_iload_n dX8_pay_47 rfl rfl ?_
        obtain ⟨v6, e_v6, e_j9⟩ := bnd e_j9
        refine st_iald dX8_pay_48 (by decide) rfl v6 e_v6 ?_
        refine st_i2l dX8_pay_49 ?_
        refine st_aload_n dX8_pay_50 rfl rfl ?_
        refine st_iconst dX8_pay_51 (v := 1) rfl ?_
        obtain ⟨v7, e_v7, e_j9⟩ := bnd e_j9
        refine st_iald dX8_pay_52 hr.1 hr.2 v7 e_v7 ?_
        refine st_i2l dX8_pay_53 ?_
        refine st_lmul dX8_pay_54 ?_
        refine st_iload_n dX8_pay_55 rfl rfl ?_
        refine st_i2l dX8_pay_56 ?_
        have n16 : ¬ x2.toInt64 = 0 := fun z => by rw [if_pos z] at e_j9; cases e_j9
        replace e_j9 := (if_neg n16).symm.trans e_j9
        refine st_ldiv dX8_pay_57 n16 ?_
        refine st_l2i dX8_pay_58 ?_
        obtain rfl := Option.some.inj e_j9
        exact kj14
      · replace e_j9 := (if_neg c15).symm.trans e_j9
        refine st_aload_n dX8_pay_34 rfl rfl ?_
        refine gR8 dX8_pay_35 (by decide) rfl 22 (by decide) fl_RX8_43 rfl 72 rfl ?_
        refine st_iload_n dX8_pay_38 rfl rfl ?_
        obtain ⟨v8, e_v8, e_j9⟩ := bnd e_j9
        refine st_iald dX8_pay_39 (by decide) rfl v8 e_v8 ?_
        refine st_goto dX8_pay_40 59 (by decide) ?_
        obtain rfl := Option.some.inj e_j9
        exact kj14
set_option maxHeartbeats 4000000 in
set_option maxRecDepth 100000 in
theorem k_X8_pay_l83 {D : Nat} (hD : 1 ≤ (D + 1)) {r : Nat} (hr : RC r) (x2 : Int32) {post : Option Value → Hp → Prop} : ∀ (n : Nat) (x3 : Int32) (H : Hp) (q : Hp), f_X8_pay_l83 r x2 n x3 H = some q → V (D + 1) RX8 mdX8_pay 156 [.null, .null, .null, .null] [] q post → V (D + 1) RX8 mdX8_pay 83 [.ref 60, .ref r, .int x2, .int x3] [] H post := by
  intro n
  induction n with
  | zero => intro x3 H q h; simp [f_X8_pay_l83] at h
  | succ n ih =>
    intro x3 H q h k1
    rw [f_X8_pay_l83] at h
    refine st_iload_n dX8_pay_83 rfl rfl ?_
    refine st_aload_n dX8_pay_84 rfl rfl ?_
    refine st_iconst dX8_pay_85 (v := 0) rfl ?_
    obtain ⟨v18, e_v18, h⟩ := bnd h
    refine st_iald dX8_pay_86 hr.1 hr.2 v18 e_v18 ?_
    refine st_ic_ge dX8_pay_87 156 (by decide) (fun c25 => ?_) (fun c25 => ?_)
    · replace h := (if_pos c25).symm.trans h
      obtain rfl := Option.some.inj h
      exact st_sub [.null, .null, .null, .null] ⟨Or.inl rfl, Or.inl rfl, Or.inl rfl, Or.inl rfl, trivial⟩ k1
    · replace h := (if_neg c25).symm.trans h
      refine st_iload_n dX8_pay_90 rfl rfl ?_
      refine st_aload_n dX8_pay_91 rfl rfl ?_
      refine st_iconst dX8_pay_92 (v := 1) rfl ?_
      obtain ⟨v19, e_v19, h⟩ := bnd h
      refine st_iald dX8_pay_93 hr.1 hr.2 v19 e_v19 ?_
      refine st_ic_le dX8_pay_94 156 (by decide) (fun c26 => ?_) (fun c26 => ?_)
      · replace h := (if_pos c26).symm.trans h
        obtain rfl := Option.some.inj h
        exact st_sub [.null, .null, .null, .null] ⟨Or.inl rfl, Or.inl rfl, Or.inl rfl, Or.inl rfl, trivial⟩ k1
      · replace h := (if_neg c26).symm.trans h
        refine st_aload_n dX8_pay_97 rfl rfl ?_
        refine gI8 dX8_pay_98 (by decide) rfl 24 (by decide) fl_RX8_216 rfl rfl ?_
        refine st_if_le dX8_pay_101 156 (by decide) (fun c27 => ?_) (fun c27 => ?_)
        · replace h := (if_pos c27).symm.trans h
          obtain rfl := Option.some.inj h
          exact st_sub [.null, .null, .null, .null] ⟨Or.inl rfl, Or.inl rfl, Or.inl rfl, Or.inl rfl, trivial⟩ k1
        · replace h := (if_neg c27).symm.trans h
          refine st_aload_n dX8_pay_104 rfl rfl ?_
          refine gR8 dX8_pay_105 (by decide) rfl 23 (by decide) fl_RX8_46 rfl 73 rfl ?_
          refine st_iload_n dX8_pay_108 rfl rfl ?_
          refine st_dup2 dX8_pay_109 rfl rfl ?_
          obtain ⟨v20, e_v20, h⟩ := bnd h
          refine st_iald dX8_pay_110 (by decide) rfl v20 e_v20 ?_
          refine st_aload_n dX8_pay_111 rfl rfl ?_
          refine gR8 dX8_pay_112 (by decide) rfl 22 (by decide) fl_RX8_43 rfl 72 rfl ?_
          refine st_iload_n dX8_pay_115 rfl rfl ?_
          obtain ⟨v21, e_v21, h⟩ := bnd h
          refine st_iald dX8_pay_116 (by decide) rfl v21 e_v21 ?_
          have kj29 : ∀ z28 : Int32, z28 = ((if v21 ≤ 0 then 0 else 1) : Int32) → V (D + 1) RX8 mdX8_pay 125 [.ref 60, .ref r, .int x2, .int x3] [.int z28, .int v20, .int x3, .ref 73] H post := by
            intro z28 ez28
            subst ez28
            refine st_iadd dX8_pay_125 ?_
            obtain ⟨H22, e_H22, h⟩ := bnd h
            refine st_iast dX8_pay_126 (by decide) rfl H22 e_H22 ?_
            refine st_aload_n dX8_pay_127 rfl rfl ?_
            refine st_dup dX8_pay_128 rfl ?_
            refine gI8 dX8_pay_129 (by decide) rfl 24 (by decide) fl_RX8_216 rfl rfl ?_
            refine st_aload_n dX8_pay_132 rfl rfl ?_
            refine gR8 dX8_pay_133 (by decide) rfl 22 (by decide) fl_RX8_43 rfl 72 rfl ?_
            refine st_iload_n dX8_pay_136 rfl rfl ?_
            obtain ⟨v23, e_v23, h⟩ := bnd h
            refine st_iald dX8_pay_137 (by decide) rfl v23 e_v23 ?_
            have kj31 : ∀ z30 : Int32, z30 = ((if v23 ≤ 0 then 0 else 1) : Int32) → V (D + 1) RX8 mdX8_pay 146 [.ref 60, .ref r, .int x2, .int x3] [.int z30, .int (H22 60 24), .ref 60] H22 post := by
              intro z30 ez30
              subst ez30
              refine st_isub dX8_pay_146 ?_
              obtain ⟨H24, e_H24, h⟩ := bnd h
              refine pI8 dX8_pay_147 (by decide) rfl 24 (by decide) fl_RX8_216 rfl rfl rfl rfl e_H24 ?_
              refine st_iinc dX8_pay_150 rfl (v := (x3 + 1)) rfl (by decide) [.ref 60, .ref r, .int x2, .int (x3 + 1)] rfl ?_
              refine st_goto dX8_pay_153 83 (by decide) ?_
              exact ih (x3 + 1) H24 q h k1
            refine st_if_le dX8_pay_138 145 (by decide) (fun c32 => ?_) (fun c32 => ?_)
            · refine st_iconst dX8_pay_145 (v := 0) rfl ?_
              exact (kj31 _ (Eq.symm (if_pos c32)))
            · refine st_iconst dX8_pay_141 (v := 1) rfl ?_
              refine st_goto dX8_pay_142 146 (by decide) ?_
              exact (kj31 _ (Eq.symm (if_neg c32)))
          refine st_if_le dX8_pay_117 124 (by decide) (fun c33 => ?_) (fun c33 => ?_)
          · refine st_iconst dX8_pay_124 (v := 0) rfl ?_
            exact (kj29 _ (Eq.symm (if_pos c33)))
          · refine st_iconst dX8_pay_120 (v := 1) rfl ?_
            refine st_goto dX8_pay_121 125 (by decide) ?_
            exact (kj29 _ (Eq.symm (if_neg c33)))
set_option maxHeartbeats 4000000 in
set_option maxRecDepth 100000 in
theorem k_X8_pay {D : Nat} (hD : 1 ≤ D) {r : Nat} (hr : RC r) (H : Hp) (q : Hp) (h : f_X8_pay r H = some q) {post : Option Value → Hp → Prop} (hp : post none q) : Sem D mdX8_pay [.ref 60, .ref r] H post := by
  obtain ⟨D, rfl⟩ : ∃ E, D = E + 1 := ⟨D - 1, by omega⟩
  refine sem_of (own := RX8) rfl pn_RX8 (Nat.le_of_ble_eq_true rfl) [.ref 60, .ref r, .null, .null] ⟨Or.inr rfl, Or.inr rfl, rfl, rfl, trivial⟩ ?_
  unfold f_X8_pay at h
  refine st_aload_n dX8_pay_0 rfl rfl ?_
  refine st_aload_n dX8_pay_1 rfl rfl ?_
  obtain ⟨v1, e_v1, h⟩ := bnd h
  refine st_callV [.ref r] dX8_pay_2 co_X8_claimsTogether im_X8_claimsTogether se_X8_claimsTogether ml_RX8_212 rfl (by decide) rfl (rfl : classes[8]? = some (RX8, TX8, 30)) rfl (S := []) rfl (Nat.le_of_ble_eq_true rfl) (k_X8_claimsTogether (by omega) hr H _ e_v1 ?_)
  show V (D + 1) RX8 mdX8_pay 5 [.ref 60, .ref r, .null, .null] [.int v1] H post
  refine st_istore_n dX8_pay_5 rfl (by decide) [.ref 60, .ref r, .int v1, .null] rfl ?_
  refine st_aload_n dX8_pay_6 rfl rfl ?_
  refine st_aload_n dX8_pay_7 rfl rfl ?_
  refine st_iconst dX8_pay_8 (v := 1) rfl ?_
  obtain ⟨v2, e_v2, h⟩ := bnd h
  refine st_iald dX8_pay_9 hr.1 hr.2 v2 e_v2 ?_
  obtain ⟨H3, e_H3, h⟩ := bnd h
  refine pI8 dX8_pay_10 (by decide) rfl 24 (by decide) fl_RX8_216 rfl rfl rfl rfl e_H3 ?_
  refine st_iconst dX8_pay_13 (v := 0) rfl ?_
  refine st_istore_n dX8_pay_14 rfl (by decide) [.ref 60, .ref r, .int v1, .int 0] rfl ?_
  obtain ⟨l17, e_l17, h⟩ := bnd h
  refine k_X8_pay_l15 (by omega) hr v1 fuel 0 H3 _ e_l17 ?_
  refine st_iconst dX8_pay_81 (v := 0) rfl ?_
  refine st_istore_n dX8_pay_82 rfl (by decide) [.ref 60, .ref r, .int v1, .int 0] rfl ?_
  obtain ⟨l34, e_l34, h⟩ := bnd h
  refine k_X8_pay_l83 (by omega) hr v1 fuel 0 l17 _ e_l34 ?_
  obtain rfl := Option.some.inj h
  exact st_vret dX8_pay_156 rfl hp
def f_X8_reckon_l7 (r : Nat) : Nat → Int32 → Hp → Option (Hp)
  | 0, _, _ => none
  | n + 1, x2, H =>
    (ag H r 80 0).bind fun v2 =>
    if v2 ≤ x2 then
      some H
    else
      (f_X8_claimOf r x2 H).bind fun v3 =>
      (as H 72 6 x2 v3).bind fun H4 =>
      f_X8_reckon_l7 r n (x2 + 1) H4
def f_X8_reckon (r : Nat) (H : Hp) : Option (Hp) :=
  (f_X8_lookAt r H).bind fun H1 =>
  (f_X8_reckon_l7 r fuel 0 H1).bind fun l6 =>
  (f_X8_pay r l6).bind fun H7 =>
  some H7
set_option maxHeartbeats 4000000 in
set_option maxRecDepth 100000 in
theorem k_X8_reckon_l7 {D : Nat} (hD : 3 ≤ (D + 1)) {r : Nat} (hr : RC r) {post : Option Value → Hp → Prop} : ∀ (n : Nat) (x2 : Int32) (H : Hp) (q : Hp), f_X8_reckon_l7 r n x2 H = some q → V (D + 1) RX8 mdX8_reckon 32 [.ref 60, .ref r, .null] [] q post → V (D + 1) RX8 mdX8_reckon 7 [.ref 60, .ref r, .int x2] [] H post := by
  intro n
  induction n with
  | zero => intro x2 H q h; simp [f_X8_reckon_l7] at h
  | succ n ih =>
    intro x2 H q h k1
    rw [f_X8_reckon_l7] at h
    refine st_iload_n dX8_reckon_7 rfl rfl ?_
    refine st_aload_n dX8_reckon_8 rfl rfl ?_
    refine st_iconst dX8_reckon_9 (v := 0) rfl ?_
    obtain ⟨v2, e_v2, h⟩ := bnd h
    refine st_iald dX8_reckon_10 hr.1 hr.2 v2 e_v2 ?_
    refine st_ic_ge dX8_reckon_11 32 (by decide) (fun c5 => ?_) (fun c5 => ?_)
    · replace h := (if_pos c5).symm.trans h
      obtain rfl := Option.some.inj h
      exact st_sub [.ref 60, .ref r, .null] ⟨Or.inr rfl, Or.inr rfl, Or.inl rfl, trivial⟩ k1
    · replace h := (if_neg c5).symm.trans h
      refine st_aload_n dX8_reckon_14 rfl rfl ?_
      refine gR8 dX8_reckon_15 (by decide) rfl 22 (by decide) fl_RX8_43 rfl 72 rfl ?_
      refine st_iload_n dX8_reckon_18 rfl rfl ?_
      refine st_aload_n dX8_reckon_19 rfl rfl ?_
      refine st_aload_n dX8_reckon_20 rfl rfl ?_
      refine st_iload_n dX8_reckon_21 rfl rfl ?_
      obtain ⟨v3, e_v3, h⟩ := bnd h
      refine st_callV [.ref r, .int x2] dX8_reckon_22 co_X8_claimOf im_X8_claimOf se_X8_claimOf ml_RX8_223 rfl (by decide) rfl (rfl : classes[8]? = some (RX8, TX8, 30)) rfl (S := [.int x2, .ref 72]) rfl (Nat.le_of_ble_eq_true rfl) (k_X8_claimOf (by omega) hr x2 H _ e_v3 ?_)
      show V (D + 1) RX8 mdX8_reckon 25 [.ref 60, .ref r, .int x2] [.int v3, .int x2, .ref 72] H post
      obtain ⟨H4, e_H4, h⟩ := bnd h
      refine st_iast dX8_reckon_25 (by decide) rfl H4 e_H4 ?_
      refine st_iinc dX8_reckon_26 rfl (v := (x2 + 1)) rfl (by decide) [.ref 60, .ref r, .int (x2 + 1)] rfl ?_
      refine st_goto dX8_reckon_29 7 (by decide) ?_
      exact ih (x2 + 1) H4 q h k1
set_option maxHeartbeats 4000000 in
set_option maxRecDepth 100000 in
theorem k_X8_reckon {D : Nat} (hD : 3 ≤ D) {r : Nat} (hr : RC r) (H : Hp) (q : Hp) (h : f_X8_reckon r H = some q) {post : Option Value → Hp → Prop} (hp : post none q) : Sem D mdX8_reckon [.ref 60, .ref r] H post := by
  obtain ⟨D, rfl⟩ : ∃ E, D = E + 1 := ⟨D - 1, by omega⟩
  refine sem_of (own := RX8) rfl pn_RX8 (Nat.le_of_ble_eq_true rfl) [.ref 60, .ref r, .null] ⟨Or.inr rfl, Or.inr rfl, rfl, trivial⟩ ?_
  unfold f_X8_reckon at h
  refine st_aload_n dX8_reckon_0 rfl rfl ?_
  refine st_aload_n dX8_reckon_1 rfl rfl ?_
  obtain ⟨H1, e_H1, h⟩ := bnd h
  refine st_callV [.ref r] dX8_reckon_2 co_X8_lookAt im_X8_lookAt se_X8_lookAt ml_RX8_219 rfl (by decide) rfl (rfl : classes[8]? = some (RX8, TX8, 30)) rfl (S := []) rfl (Nat.le_of_ble_eq_true rfl) (k_X8_lookAt (by omega) hr H _ e_H1 ?_)
  show V (D + 1) RX8 mdX8_reckon 5 [.ref 60, .ref r, .null] [] H1 post
  refine st_iconst dX8_reckon_5 (v := 0) rfl ?_
  refine st_istore_n dX8_reckon_6 rfl (by decide) [.ref 60, .ref r, .int 0] rfl ?_
  obtain ⟨l6, e_l6, h⟩ := bnd h
  refine k_X8_reckon_l7 (by omega) hr fuel 0 H1 _ e_l6 ?_
  refine st_aload_n dX8_reckon_32 rfl rfl ?_
  refine st_aload_n dX8_reckon_33 rfl rfl ?_
  obtain ⟨H7, e_H7, h⟩ := bnd h
  refine st_callV [.ref r] dX8_reckon_34 co_X8_pay im_X8_pay se_X8_pay ml_RX8_226 rfl (by decide) rfl (rfl : classes[8]? = some (RX8, TX8, 30)) rfl (S := []) rfl (Nat.le_of_ble_eq_true rfl) (k_X8_pay (by omega) hr l6 _ e_H7 ?_)
  show V (D + 1) RX8 mdX8_reckon 37 [.ref 60, .ref r, .null] [] H7 post
  obtain rfl := Option.some.inj h
  exact st_vret dX8_reckon_37 rfl hp
def f_X8_project (x1 : Int32) (x2 : Int32) (H : Hp) : Option (Int32 × Hp) :=
  (pf H 60 0 0).bind fun H1 =>
  (f_X8_isProject x1 H1).bind fun v2 =>
  if v2 = 0 then
    some ((-1000001), H1)
  else
    (f_X8_in x2.toInt64 0 2).bind fun v3 =>
    if v3 = 0 then
      some ((-1000001), H1)
    else
      (f_X8_reckon 64 H1).bind fun H4 =>
      Option.bind (
        if x2 = 0 then
          (ag H4 72 6 x1).bind fun v5 =>
          some v5
        else
          if x2 = 1 then
            (ag H4 73 6 x1).bind fun v6 =>
            some v6
          else
            (f_X8_giversOf x1 H4).bind fun v7 =>
            some v7) fun j8 =>
      some (j8, H4)
set_option maxHeartbeats 4000000 in
set_option maxRecDepth 100000 in
theorem k_X8_project {D : Nat} (hD : 4 ≤ D) (x1 : Int32) (x2 : Int32) (H : Hp) (q : Int32 × Hp) (h : f_X8_project x1 x2 H = some q) {post : Option Value → Hp → Prop} (hp : post (some (.int q.1)) q.2) : Sem D mdX8_project [.ref 60, .int x1, .int x2] H post := by
  obtain ⟨D, rfl⟩ : ∃ E, D = E + 1 := ⟨D - 1, by omega⟩
  refine sem_of (own := RX8) rfl pn_RX8 (Nat.le_of_ble_eq_true rfl) [.ref 60, .int x1, .int x2] ⟨Or.inr rfl, Or.inr rfl, Or.inr rfl, trivial⟩ ?_
  unfold f_X8_project at h
  refine st_aload_n dX8_project_0 rfl rfl ?_
  refine st_iconst dX8_project_1 (v := 0) rfl ?_
  obtain ⟨H1, e_H1, h⟩ := bnd h
  refine pI8 dX8_project_2 (by decide) rfl 0 (by decide) fl_RX8_62 rfl rfl rfl rfl e_H1 ?_
  refine st_aload_n dX8_project_5 rfl rfl ?_
  refine st_iload_n dX8_project_6 rfl rfl ?_
  obtain ⟨v2, e_v2, h⟩ := bnd h
  refine st_callV [.int x1] dX8_project_7 co_X8_isProject im_X8_isProject se_X8_isProject ml_RX8_238 rfl (by decide) rfl (rfl : classes[8]? = some (RX8, TX8, 30)) rfl (S := []) rfl (Nat.le_of_ble_eq_true rfl) (k_X8_isProject (by omega) x1 H1 _ e_v2 ?_)
  show V (D + 1) RX8 mdX8_project 10 [.ref 60, .int x1, .int x2] [.int v2] H1 post
  refine st_if_eq dX8_project_10 25 (by decide) (fun c9 => ?_) (fun c9 => ?_)
  · replace h := (if_pos c9).symm.trans h
    refine st_ldc dX8_project_25 cn_RX8_82 ?_
    obtain rfl := Option.some.inj h
    exact st_iret dX8_project_27 rfl hp
  · replace h := (if_neg c9).symm.trans h
    refine st_iload_n dX8_project_13 rfl rfl ?_
    refine st_i2l dX8_project_14 ?_
    refine st_lconst dX8_project_15 (v := 0) rfl ?_
    refine st_ldc2 dX8_project_16 cl_RX8_80 ?_
    obtain ⟨v3, e_v3, h⟩ := bnd h
    refine st_callS [.long x2.toInt64, .long 0, .long 2] dX8_project_19 co_X8_in sm_X8_in ml_RX8_72 rfl (S := []) rfl (Nat.le_of_ble_eq_true rfl) (k_X8_in (by omega) x2.toInt64 0 2 H1 _ e_v3 ?_)
    show V (D + 1) RX8 mdX8_project 22 [.ref 60, .int x1, .int x2] [.int v3] H1 post
    refine st_if_ne dX8_project_22 28 (by decide) (fun c10 => ?_) (fun c10 => ?_)
    · replace h := (if_neg c10).symm.trans h
      refine st_aload_n dX8_project_28 rfl rfl ?_
      refine st_aload_n dX8_project_29 rfl rfl ?_
      refine gR8 dX8_project_30 (by decide) rfl 5 (by decide) fl_RX8_19 rfl 64 rfl ?_
      obtain ⟨H4, e_H4, h⟩ := bnd h
      refine st_callV [.ref 64] dX8_project_33 co_X8_reckon im_X8_reckon se_X8_reckon ml_RX8_232 rfl (by decide) rfl (rfl : classes[8]? = some (RX8, TX8, 30)) rfl (S := []) rfl (Nat.le_of_ble_eq_true rfl) (k_X8_reckon (by omega) RC64 H1 _ e_H4 ?_)
      show V (D + 1) RX8 mdX8_project 36 [.ref 60, .int x1, .int x2] [] H4 post
      refine st_iload_n dX8_project_36 rfl rfl ?_
      obtain ⟨j8, e_j8, h⟩ := bnd h
      have kj11 : V (D + 1) RX8 mdX8_project 68 [.null, .null, .null] [.int j8] H4 post := by
        obtain rfl := Option.some.inj h
        exact st_iret dX8_project_68 rfl hp
      refine st_if_ne dX8_project_37 49 (by decide) (fun c12 => ?_) (fun c12 => ?_)
      · replace e_j8 := (if_neg c12).symm.trans e_j8
        refine st_iload_n dX8_project_49 rfl rfl ?_
        refine st_iconst dX8_project_50 (v := 1) rfl ?_
        refine st_ic_ne dX8_project_51 63 (by decide) (fun c13 => ?_) (fun c13 => ?_)
        · replace e_j8 := (if_neg c13).symm.trans e_j8
          refine st_aload_n dX8_project_63 rfl rfl ?_
          refine st_iload_n dX8_project_64 rfl rfl ?_
          obtain ⟨v7, e_v7, e_j8⟩ := bnd e_j8
          refine st_callV [.int x1] dX8_project_65 co_X8_giversOf im_X8_giversOf se_X8_giversOf ml_RX8_199 rfl (by decide) rfl (rfl : classes[8]? = some (RX8, TX8, 30)) rfl (S := []) rfl (Nat.le_of_ble_eq_true rfl) (k_X8_giversOf (by omega) x1 H4 _ e_v7 ?_)
          show V (D + 1) RX8 mdX8_project 68 [.ref 60, .int x1, .int x2] [.int v7] H4 post
          obtain rfl := Option.some.inj e_j8
          exact st_sub [.null, .null, .null] ⟨Or.inl rfl, Or.inl rfl, Or.inl rfl, trivial⟩ kj11
        · replace e_j8 := (if_pos c13).symm.trans e_j8
          refine st_aload_n dX8_project_54 rfl rfl ?_
          refine gR8 dX8_project_55 (by decide) rfl 23 (by decide) fl_RX8_46 rfl 73 rfl ?_
          refine st_iload_n dX8_project_58 rfl rfl ?_
          obtain ⟨v6, e_v6, e_j8⟩ := bnd e_j8
          refine st_iald dX8_project_59 (by decide) rfl v6 e_v6 ?_
          refine st_goto dX8_project_60 68 (by decide) ?_
          obtain rfl := Option.some.inj e_j8
          exact st_sub [.null, .null, .null] ⟨Or.inl rfl, Or.inl rfl, Or.inl rfl, trivial⟩ kj11
      · replace e_j8 := (if_pos c12).symm.trans e_j8
        refine st_aload_n dX8_project_40 rfl rfl ?_
        refine gR8 dX8_project_41 (by decide) rfl 22 (by decide) fl_RX8_43 rfl 72 rfl ?_
        refine st_iload_n dX8_project_44 rfl rfl ?_
        obtain ⟨v5, e_v5, e_j8⟩ := bnd e_j8
        refine st_iald dX8_project_45 (by decide) rfl v5 e_v5 ?_
        refine st_goto dX8_project_46 68 (by decide) ?_
        obtain rfl := Option.some.inj e_j8
        exact st_sub [.null, .null, .null] ⟨Or.inl rfl, Or.inl rfl, Or.inl rfl, trivial⟩ kj11
    · replace h := (if_pos c10).symm.trans h
      refine st_ldc dX8_project_25 cn_RX8_82 ?_
      obtain rfl := Option.some.inj h
      exact st_iret dX8_project_27 rfl hp
def f_X8_stand (x1 : Int32) (H : Hp) : Option (Int32 × Hp) :=
  (pf H 60 0 0).bind fun H1 =>
  (f_X8_isThere H1).bind fun v2 =>
  if v2 = 0 then
    some ((-1000002), H1)
  else
    (f_X8_reckon 64 H1).bind fun H3 =>
    if x1 = 0 then
      (ag H3 64 80 1).bind fun v4 =>
      some (v4, H3)
    else
    if x1 = 1 then
      (f_X8_claimsTogether 64 H3).bind fun v5 =>
      some (v5, H3)
    else
    if x1 = 2 then
      (ag H3 64 80 1).bind fun v6 =>
      some ((v6 - (H3 60 24)), H3)
    else
    if x1 = 3 then
      some ((H3 60 24), H3)
    else
      some ((-1000001), H3)
set_option maxHeartbeats 4000000 in
set_option maxRecDepth 100000 in
theorem k_X8_stand {D : Nat} (hD : 4 ≤ D) (x1 : Int32) (H : Hp) (q : Int32 × Hp) (h : f_X8_stand x1 H = some q) {post : Option Value → Hp → Prop} (hp : post (some (.int q.1)) q.2) : Sem D mdX8_stand [.ref 60, .int x1] H post := by
  obtain ⟨D, rfl⟩ : ∃ E, D = E + 1 := ⟨D - 1, by omega⟩
  refine sem_of (own := RX8) rfl pn_RX8 (Nat.le_of_ble_eq_true rfl) [.ref 60, .int x1] ⟨Or.inr rfl, Or.inr rfl, trivial⟩ ?_
  unfold f_X8_stand at h
  refine st_aload_n dX8_stand_0 rfl rfl ?_
  refine st_iconst dX8_stand_1 (v := 0) rfl ?_
  obtain ⟨H1, e_H1, h⟩ := bnd h
  refine pI8 dX8_stand_2 (by decide) rfl 0 (by decide) fl_RX8_62 rfl rfl rfl rfl e_H1 ?_
  refine st_aload_n dX8_stand_5 rfl rfl ?_
  obtain ⟨v2, e_v2, h⟩ := bnd h
  refine st_callV [] dX8_stand_6 co_X8_isThere im_X8_isThere se_X8_isThere ml_RX8_174 rfl (by decide) rfl (rfl : classes[8]? = some (RX8, TX8, 30)) rfl (S := []) rfl (Nat.le_of_ble_eq_true rfl) (k_X8_isThere (by omega) H1 _ e_v2 ?_)
  show V (D + 1) RX8 mdX8_stand 9 [.ref 60, .int x1] [.int v2] H1 post
  refine st_if_ne dX8_stand_9 15 (by decide) (fun c7 => ?_) (fun c7 => ?_)
  · replace h := (if_neg c7).symm.trans h
    refine st_aload_n dX8_stand_15 rfl rfl ?_
    refine st_aload_n dX8_stand_16 rfl rfl ?_
    refine gR8 dX8_stand_17 (by decide) rfl 5 (by decide) fl_RX8_19 rfl 64 rfl ?_
    obtain ⟨H3, e_H3, h⟩ := bnd h
    refine st_callV [.ref 64] dX8_stand_20 co_X8_reckon im_X8_reckon se_X8_reckon ml_RX8_232 rfl (by decide) rfl (rfl : classes[8]? = some (RX8, TX8, 30)) rfl (S := []) rfl (Nat.le_of_ble_eq_true rfl) (k_X8_reckon (by omega) RC64 H1 _ e_H3 ?_)
    show V (D + 1) RX8 mdX8_stand 23 [.ref 60, .int x1] [] H3 post
    refine st_iload_n dX8_stand_23 rfl rfl ?_
    by_cases s8 : x1 = 0
    · replace h := (if_pos s8).symm.trans h
      refine st_tabIn dX8_stand_24 (by rw [s8]; decide) (by rw [s8]; decide) (by rw [s8] <;> rfl) 56 (by decide) ?_
      refine st_aload_n dX8_stand_56 rfl rfl ?_
      refine gR8 dX8_stand_57 (by decide) rfl 5 (by decide) fl_RX8_19 rfl 64 rfl ?_
      refine st_iconst dX8_stand_60 (v := 1) rfl ?_
      obtain ⟨v4, e_v4, h⟩ := bnd h
      refine st_iald dX8_stand_61 (by decide) rfl v4 e_v4 ?_
      obtain rfl := Option.some.inj h
      exact st_iret dX8_stand_62 rfl hp
    · replace h := (if_neg s8).symm.trans h
      by_cases s9 : x1 = 1
      · replace h := (if_pos s9).symm.trans h
        refine st_tabIn dX8_stand_24 (by rw [s9]; decide) (by rw [s9]; decide) (by rw [s9] <;> rfl) 63 (by decide) ?_
        refine st_aload_n dX8_stand_63 rfl rfl ?_
        refine st_aload_n dX8_stand_64 rfl rfl ?_
        refine gR8 dX8_stand_65 (by decide) rfl 5 (by decide) fl_RX8_19 rfl 64 rfl ?_
        obtain ⟨v5, e_v5, h⟩ := bnd h
        refine st_callV [.ref 64] dX8_stand_68 co_X8_claimsTogether im_X8_claimsTogether se_X8_claimsTogether ml_RX8_212 rfl (by decide) rfl (rfl : classes[8]? = some (RX8, TX8, 30)) rfl (S := []) rfl (Nat.le_of_ble_eq_true rfl) (k_X8_claimsTogether (by omega) RC64 H3 _ e_v5 ?_)
        show V (D + 1) RX8 mdX8_stand 71 [.ref 60, .int x1] [.int v5] H3 post
        obtain rfl := Option.some.inj h
        exact st_iret dX8_stand_71 rfl hp
      · replace h := (if_neg s9).symm.trans h
        by_cases s10 : x1 = 2
        · replace h := (if_pos s10).symm.trans h
          refine st_tabIn dX8_stand_24 (by rw [s10]; decide) (by rw [s10]; decide) (by rw [s10] <;> rfl) 72 (by decide) ?_
          refine st_aload_n dX8_stand_72 rfl rfl ?_
          refine gR8 dX8_stand_73 (by decide) rfl 5 (by decide) fl_RX8_19 rfl 64 rfl ?_
          refine st_iconst dX8_stand_76 (v := 1) rfl ?_
          obtain ⟨v6, e_v6, h⟩ := bnd h
          refine st_iald dX8_stand_77 (by decide) rfl v6 e_v6 ?_
          refine st_aload_n dX8_stand_78 rfl rfl ?_
          refine gI8 dX8_stand_79 (by decide) rfl 24 (by decide) fl_RX8_216 rfl rfl ?_
          refine st_isub dX8_stand_82 ?_
          obtain rfl := Option.some.inj h
          exact st_iret dX8_stand_83 rfl hp
        · replace h := (if_neg s10).symm.trans h
          by_cases s11 : x1 = 3
          · replace h := (if_pos s11).symm.trans h
            refine st_tabIn dX8_stand_24 (by rw [s11]; decide) (by rw [s11]; decide) (by rw [s11] <;> rfl) 84 (by decide) ?_
            refine st_aload_n dX8_stand_84 rfl rfl ?_
            refine gI8 dX8_stand_85 (by decide) rfl 24 (by decide) fl_RX8_216 rfl rfl ?_
            obtain rfl := Option.some.inj h
            exact st_iret dX8_stand_88 rfl hp
          · replace h := (if_neg s11).symm.trans h
            have ts8 := lv_neT s8 (a := 0) (by decide)
            have ts9 := lv_neT s9 (a := 1) (by decide)
            have ts10 := lv_neT s10 (a := 2) (by decide)
            have ts11 := lv_neT s11 (a := 3) (by decide)
            refine st_tabOut dX8_stand_24 (by omega) 89 (by decide) ?_
            refine st_ldc dX8_stand_89 cn_RX8_82 ?_
            obtain rfl := Option.some.inj h
            exact st_iret dX8_stand_91 rfl hp
  · replace h := (if_pos c7).symm.trans h
    refine st_ldc dX8_stand_12 cn_RX8_253 ?_
    obtain rfl := Option.some.inj h
    exact st_iret dX8_stand_14 rfl hp
def f_X8_layThen_l2 : Nat → Int32 → Hp → Option (Hp)
  | 0, _, _ => none
  | n + 1, x1, H =>
    if 80 ≤ x1 then
      some H
    else
      (ag H 64 80 x1).bind fun v1 =>
      (as H 66 80 x1 v1).bind fun H2 =>
      f_X8_layThen_l2 n (x1 + 1) H2
def f_X8_layThen (H : Hp) : Option (Hp) :=
  (f_X8_layThen_l2 fuel 0 H).bind fun l4 =>
  some l4
set_option maxHeartbeats 4000000 in
set_option maxRecDepth 100000 in
theorem k_X8_layThen_l2 {D : Nat} (hD : 0 ≤ D) {post : Option Value → Hp → Prop} : ∀ (n : Nat) (x1 : Int32) (H : Hp) (q : Hp), f_X8_layThen_l2 n x1 H = some q → V D RX8 mdX8_layThen 26 [.null, .null] [] q post → V D RX8 mdX8_layThen 2 [.ref 60, .int x1] [] H post := by
  intro n
  induction n with
  | zero => intro x1 H q h; simp [f_X8_layThen_l2] at h
  | succ n ih =>
    intro x1 H q h k1
    rw [f_X8_layThen_l2] at h
    refine st_iload_n dX8_layThen_2 rfl rfl ?_
    refine st_bipush dX8_layThen_3 (v := 80) (by decide) ?_
    refine st_ic_ge dX8_layThen_5 26 (by decide) (fun c3 => ?_) (fun c3 => ?_)
    · replace h := (if_pos c3).symm.trans h
      obtain rfl := Option.some.inj h
      exact st_sub [.null, .null] ⟨Or.inl rfl, Or.inl rfl, trivial⟩ k1
    · replace h := (if_neg c3).symm.trans h
      refine st_aload_n dX8_layThen_8 rfl rfl ?_
      refine gR8 dX8_layThen_9 (by decide) rfl 7 (by decide) fl_RX8_25 rfl 66 rfl ?_
      refine st_iload_n dX8_layThen_12 rfl rfl ?_
      refine st_aload_n dX8_layThen_13 rfl rfl ?_
      refine gR8 dX8_layThen_14 (by decide) rfl 5 (by decide) fl_RX8_19 rfl 64 rfl ?_
      refine st_iload_n dX8_layThen_17 rfl rfl ?_
      obtain ⟨v1, e_v1, h⟩ := bnd h
      refine st_iald dX8_layThen_18 (by decide) rfl v1 e_v1 ?_
      obtain ⟨H2, e_H2, h⟩ := bnd h
      refine st_iast dX8_layThen_19 (by decide) rfl H2 e_H2 ?_
      refine st_iinc dX8_layThen_20 rfl (v := (x1 + 1)) rfl (by decide) [.ref 60, .int (x1 + 1)] rfl ?_
      refine st_goto dX8_layThen_23 2 (by decide) ?_
      exact ih (x1 + 1) H2 q h k1
set_option maxHeartbeats 4000000 in
set_option maxRecDepth 100000 in
theorem k_X8_layThen {D : Nat} (hD : 0 ≤ D) (H : Hp) (q : Hp) (h : f_X8_layThen H = some q) {post : Option Value → Hp → Prop} (hp : post none q) : Sem D mdX8_layThen [.ref 60] H post := by
  refine sem_of (own := RX8) rfl pn_RX8 (Nat.le_of_ble_eq_true rfl) [.ref 60, .null] ⟨Or.inr rfl, rfl, trivial⟩ ?_
  unfold f_X8_layThen at h
  refine st_iconst dX8_layThen_0 (v := 0) rfl ?_
  refine st_istore_n dX8_layThen_1 rfl (by decide) [.ref 60, .int 0] rfl ?_
  obtain ⟨l4, e_l4, h⟩ := bnd h
  refine k_X8_layThen_l2 (by omega) fuel 0 H _ e_l4 ?_
  obtain rfl := Option.some.inj h
  exact st_vret dX8_layThen_26 rfl hp
def f_X8_layGift (x1 : Int32) (x2 : Int32) (x3 : Int32) (H : Hp) : Option (Hp) :=
  (f_X8_layThen H).bind fun H1 =>
  Option.bind (
    if x3 ≤ 0 then
      some H1
    else
      (f_X8_put 66 x1 x2 x3 H1).bind fun H2 =>
      some H2) fun j3 =>
  (f_X8_reckon 66 j3).bind fun H4 =>
  some H4
set_option maxHeartbeats 4000000 in
set_option maxRecDepth 100000 in
theorem k_X8_layGift {D : Nat} (hD : 4 ≤ D) (x1 : Int32) (x2 : Int32) (x3 : Int32) (H : Hp) (q : Hp) (h : f_X8_layGift x1 x2 x3 H = some q) {post : Option Value → Hp → Prop} (hp : post none q) : Sem D mdX8_layGift [.ref 60, .int x1, .int x2, .int x3] H post := by
  obtain ⟨D, rfl⟩ : ∃ E, D = E + 1 := ⟨D - 1, by omega⟩
  refine sem_of (own := RX8) rfl pn_RX8 (Nat.le_of_ble_eq_true rfl) [.ref 60, .int x1, .int x2, .int x3] ⟨Or.inr rfl, Or.inr rfl, Or.inr rfl, Or.inr rfl, trivial⟩ ?_
  unfold f_X8_layGift at h
  refine st_aload_n dX8_layGift_0 rfl rfl ?_
  obtain ⟨H1, e_H1, h⟩ := bnd h
  refine st_callV [] dX8_layGift_1 co_X8_layThen im_X8_layThen se_X8_layThen ml_RX8_229 rfl (by decide) rfl (rfl : classes[8]? = some (RX8, TX8, 30)) rfl (S := []) rfl (Nat.le_of_ble_eq_true rfl) (k_X8_layThen (by omega) H _ e_H1 ?_)
  show V (D + 1) RX8 mdX8_layGift 4 [.ref 60, .int x1, .int x2, .int x3] [] H1 post
  refine st_iload_n dX8_layGift_4 rfl rfl ?_
  obtain ⟨j3, e_j3, h⟩ := bnd h
  have kj5 : V (D + 1) RX8 mdX8_layGift 18 [.ref 60, .null, .null, .null] [] j3 post := by
    refine st_aload_n dX8_layGift_18 rfl rfl ?_
    refine st_aload_n dX8_layGift_19 rfl rfl ?_
    refine gR8 dX8_layGift_20 (by decide) rfl 7 (by decide) fl_RX8_25 rfl 66 rfl ?_
    obtain ⟨H4, e_H4, h⟩ := bnd h
    refine st_callV [.ref 66] dX8_layGift_23 co_X8_reckon im_X8_reckon se_X8_reckon ml_RX8_232 rfl (by decide) rfl (rfl : classes[8]? = some (RX8, TX8, 30)) rfl (S := []) rfl (Nat.le_of_ble_eq_true rfl) (k_X8_reckon (by omega) RC66 j3 _ e_H4 ?_)
    show V (D + 1) RX8 mdX8_layGift 26 [.ref 60, .null, .null, .null] [] H4 post
    obtain rfl := Option.some.inj h
    exact st_vret dX8_layGift_26 rfl hp
  refine st_if_le dX8_layGift_5 18 (by decide) (fun c6 => ?_) (fun c6 => ?_)
  · replace e_j3 := (if_pos c6).symm.trans e_j3
    obtain rfl := Option.some.inj e_j3
    exact st_sub [.ref 60, .null, .null, .null] ⟨Or.inr rfl, Or.inl rfl, Or.inl rfl, Or.inl rfl, trivial⟩ kj5
  · replace e_j3 := (if_neg c6).symm.trans e_j3
    refine st_aload_n dX8_layGift_8 rfl rfl ?_
    refine gR8 dX8_layGift_9 (by decide) rfl 7 (by decide) fl_RX8_25 rfl 66 rfl ?_
    refine st_iload_n dX8_layGift_12 rfl rfl ?_
    refine st_iload_n dX8_layGift_13 rfl rfl ?_
    refine st_iload_n dX8_layGift_14 rfl rfl ?_
    obtain ⟨H2, e_H2, e_j3⟩ := bnd e_j3
    refine st_callS [.ref 66, .int x1, .int x2, .int x3] dX8_layGift_15 co_X8_put sm_X8_put ml_RX8_144 rfl (S := []) rfl (Nat.le_of_ble_eq_true rfl) (k_X8_put (by omega) RC66 x1 x2 x3 H1 _ e_H2 ?_)
    show V (D + 1) RX8 mdX8_layGift 18 [.ref 60, .int x1, .int x2, .int x3] [] H2 post
    obtain rfl := Option.some.inj e_j3
    exact st_sub [.ref 60, .null, .null, .null] ⟨Or.inr rfl, Or.inl rfl, Or.inl rfl, Or.inl rfl, trivial⟩ kj5
def f_X8_paidIf (x1 : Int32) (x2 : Int32) (x3 : Int32) (x4 : Int32) (H : Hp) : Option (Int32 × Hp) :=
  (pf H 60 0 0).bind fun H1 =>
  (f_X8_isGiving x1 x2 H1).bind fun v2 =>
  if v2 = 0 then
    some ((-1000001), H1)
  else
    (f_X8_in x3.toInt64 0 99).bind fun v3 =>
    if v3 = 0 then
      some ((-1000001), H1)
    else
      (f_X8_isProject x4 H1).bind fun v4 =>
      if v4 = 0 then
        some ((-1000001), H1)
      else
        (ag H1 64 80 3).bind fun v5 =>
        if v5 = 20 then
          if x3 ≤ 0 then
            (f_X8_layGift x1 x2 x3 H1).bind fun H6 =>
            (ag H6 73 6 x4).bind fun v7 =>
            some (v7, H6)
          else
            some ((-1000003), H1)
        else
          (f_X8_layGift x1 x2 x3 H1).bind fun H8 =>
          (ag H8 73 6 x4).bind fun v9 =>
          some (v9, H8)
set_option maxHeartbeats 4000000 in
set_option maxRecDepth 100000 in
theorem k_X8_paidIf {D : Nat} (hD : 5 ≤ D) (x1 : Int32) (x2 : Int32) (x3 : Int32) (x4 : Int32) (H : Hp) (q : Int32 × Hp) (h : f_X8_paidIf x1 x2 x3 x4 H = some q) {post : Option Value → Hp → Prop} (hp : post (some (.int q.1)) q.2) : Sem D mdX8_paidIf [.ref 60, .int x1, .int x2, .int x3, .int x4] H post := by
  obtain ⟨D, rfl⟩ : ∃ E, D = E + 1 := ⟨D - 1, by omega⟩
  refine sem_of (own := RX8) rfl pn_RX8 (Nat.le_of_ble_eq_true rfl) [.ref 60, .int x1, .int x2, .int x3, .int x4] ⟨Or.inr rfl, Or.inr rfl, Or.inr rfl, Or.inr rfl, Or.inr rfl, trivial⟩ ?_
  unfold f_X8_paidIf at h
  refine st_aload_n dX8_paidIf_0 rfl rfl ?_
  refine st_iconst dX8_paidIf_1 (v := 0) rfl ?_
  obtain ⟨H1, e_H1, h⟩ := bnd h
  refine pI8 dX8_paidIf_2 (by decide) rfl 0 (by decide) fl_RX8_62 rfl rfl rfl rfl e_H1 ?_
  refine st_aload_n dX8_paidIf_5 rfl rfl ?_
  refine st_iload_n dX8_paidIf_6 rfl rfl ?_
  refine st_iload_n dX8_paidIf_7 rfl rfl ?_
  obtain ⟨v2, e_v2, h⟩ := bnd h
  refine st_callV [.int x1, .int x2] dX8_paidIf_8 co_X8_isGiving im_X8_isGiving se_X8_isGiving ml_RX8_241 rfl (by decide) rfl (rfl : classes[8]? = some (RX8, TX8, 30)) rfl (S := []) rfl (Nat.le_of_ble_eq_true rfl) (k_X8_isGiving (by omega) x1 x2 H1 _ e_v2 ?_)
  show V (D + 1) RX8 mdX8_paidIf 11 [.ref 60, .int x1, .int x2, .int x3, .int x4] [.int v2] H1 post
  refine st_if_eq dX8_paidIf_11 35 (by decide) (fun c10 => ?_) (fun c10 => ?_)
  · replace h := (if_pos c10).symm.trans h
    refine st_ldc dX8_paidIf_35 cn_RX8_82 ?_
    obtain rfl := Option.some.inj h
    exact st_iret dX8_paidIf_37 rfl hp
  · replace h := (if_neg c10).symm.trans h
    refine st_iload_n dX8_paidIf_14 rfl rfl ?_
    refine st_i2l dX8_paidIf_15 ?_
    refine st_lconst dX8_paidIf_16 (v := 0) rfl ?_
    refine st_ldc2 dX8_paidIf_17 cl_RX8_245 ?_
    obtain ⟨v3, e_v3, h⟩ := bnd h
    refine st_callS [.long x3.toInt64, .long 0, .long 99] dX8_paidIf_20 co_X8_in sm_X8_in ml_RX8_72 rfl (S := []) rfl (Nat.le_of_ble_eq_true rfl) (k_X8_in (by omega) x3.toInt64 0 99 H1 _ e_v3 ?_)
    show V (D + 1) RX8 mdX8_paidIf 23 [.ref 60, .int x1, .int x2, .int x3, .int x4] [.int v3] H1 post
    refine st_if_eq dX8_paidIf_23 35 (by decide) (fun c11 => ?_) (fun c11 => ?_)
    · replace h := (if_pos c11).symm.trans h
      refine st_ldc dX8_paidIf_35 cn_RX8_82 ?_
      obtain rfl := Option.some.inj h
      exact st_iret dX8_paidIf_37 rfl hp
    · replace h := (if_neg c11).symm.trans h
      refine st_aload_n dX8_paidIf_26 rfl rfl ?_
      refine st_iload dX8_paidIf_27 rfl ?_
      obtain ⟨v4, e_v4, h⟩ := bnd h
      refine st_callV [.int x4] dX8_paidIf_29 co_X8_isProject im_X8_isProject se_X8_isProject ml_RX8_238 rfl (by decide) rfl (rfl : classes[8]? = some (RX8, TX8, 30)) rfl (S := []) rfl (Nat.le_of_ble_eq_true rfl) (k_X8_isProject (by omega) x4 H1 _ e_v4 ?_)
      show V (D + 1) RX8 mdX8_paidIf 32 [.ref 60, .int x1, .int x2, .int x3, .int x4] [.int v4] H1 post
      refine st_if_ne dX8_paidIf_32 38 (by decide) (fun c12 => ?_) (fun c12 => ?_)
      · replace h := (if_neg c12).symm.trans h
        refine st_aload_n dX8_paidIf_38 rfl rfl ?_
        refine gR8 dX8_paidIf_39 (by decide) rfl 5 (by decide) fl_RX8_19 rfl 64 rfl ?_
        refine st_iconst dX8_paidIf_42 (v := 3) rfl ?_
        obtain ⟨v5, e_v5, h⟩ := bnd h
        refine st_iald dX8_paidIf_43 (by decide) rfl v5 e_v5 ?_
        refine st_bipush dX8_paidIf_44 (v := 20) (by decide) ?_
        refine st_ic_ne dX8_paidIf_46 56 (by decide) (fun c13 => ?_) (fun c13 => ?_)
        · replace h := (if_neg c13).symm.trans h
          refine st_aload_n dX8_paidIf_56 rfl rfl ?_
          refine st_iload_n dX8_paidIf_57 rfl rfl ?_
          refine st_iload_n dX8_paidIf_58 rfl rfl ?_
          refine st_iload_n dX8_paidIf_59 rfl rfl ?_
          obtain ⟨H8, e_H8, h⟩ := bnd h
          refine st_callV [.int x1, .int x2, .int x3] dX8_paidIf_60 co_X8_layGift im_X8_layGift se_X8_layGift ml_RX8_260 rfl (by decide) rfl (rfl : classes[8]? = some (RX8, TX8, 30)) rfl (S := []) rfl (Nat.le_of_ble_eq_true rfl) (k_X8_layGift (by omega) x1 x2 x3 H1 _ e_H8 ?_)
          show V (D + 1) RX8 mdX8_paidIf 63 [.ref 60, .int x1, .int x2, .int x3, .int x4] [] H8 post
          refine st_aload_n dX8_paidIf_63 rfl rfl ?_
          refine gR8 dX8_paidIf_64 (by decide) rfl 23 (by decide) fl_RX8_46 rfl 73 rfl ?_
          refine st_iload dX8_paidIf_67 rfl ?_
          obtain ⟨v9, e_v9, h⟩ := bnd h
          refine st_iald dX8_paidIf_69 (by decide) rfl v9 e_v9 ?_
          obtain rfl := Option.some.inj h
          exact st_iret dX8_paidIf_70 rfl hp
        · replace h := (if_pos c13).symm.trans h
          refine st_iload_n dX8_paidIf_49 rfl rfl ?_
          refine st_if_le dX8_paidIf_50 56 (by decide) (fun c14 => ?_) (fun c14 => ?_)
          · replace h := (if_pos c14).symm.trans h
            refine st_aload_n dX8_paidIf_56 rfl rfl ?_
            refine st_iload_n dX8_paidIf_57 rfl rfl ?_
            refine st_iload_n dX8_paidIf_58 rfl rfl ?_
            refine st_iload_n dX8_paidIf_59 rfl rfl ?_
            obtain ⟨H6, e_H6, h⟩ := bnd h
            refine st_callV [.int x1, .int x2, .int x3] dX8_paidIf_60 co_X8_layGift im_X8_layGift se_X8_layGift ml_RX8_260 rfl (by decide) rfl (rfl : classes[8]? = some (RX8, TX8, 30)) rfl (S := []) rfl (Nat.le_of_ble_eq_true rfl) (k_X8_layGift (by omega) x1 x2 x3 H1 _ e_H6 ?_)
            show V (D + 1) RX8 mdX8_paidIf 63 [.ref 60, .int x1, .int x2, .int x3, .int x4] [] H6 post
            refine st_aload_n dX8_paidIf_63 rfl rfl ?_
            refine gR8 dX8_paidIf_64 (by decide) rfl 23 (by decide) fl_RX8_46 rfl 73 rfl ?_
            refine st_iload dX8_paidIf_67 rfl ?_
            obtain ⟨v7, e_v7, h⟩ := bnd h
            refine st_iald dX8_paidIf_69 (by decide) rfl v7 e_v7 ?_
            obtain rfl := Option.some.inj h
            exact st_iret dX8_paidIf_70 rfl hp
          · replace h := (if_neg c14).symm.trans h
            refine st_ldc dX8_paidIf_53 cn_RX8_92 ?_
            obtain rfl := Option.some.inj h
            exact st_iret dX8_paidIf_55 rfl hp
      · replace h := (if_pos c12).symm.trans h
        refine st_ldc dX8_paidIf_35 cn_RX8_82 ?_
        obtain rfl := Option.some.inj h
        exact st_iret dX8_paidIf_37 rfl hp
def f_X8_best_l72 (x1 : Int32) (x2 : Int32) : Nat → Int32 → Int32 → Int32 → Hp → Option (Int32 × Int32 × Hp)
  | 0, _, _, _, _ => none
  | n + 1, x4, x5, x6, H =>
    (ag H 64 80 0).bind fun v7 =>
    if v7 ≤ x6 then
      some (x4, x5, H)
    else
      (f_X8_reckon 64 H).bind fun H8 =>
      (ag H8 73 6 x6).bind fun v9 =>
      (f_X8_layGift x1 x6 x2 H8).bind fun H10 =>
      Option.bind (
        if x4 = (-1000000) then
          (ag H10 73 6 x6).bind fun v11 =>
          some (x6, (v11 - v9))
        else
          (ag H10 73 6 x6).bind fun v12 =>
          if (v12 - v9) ≤ x5 then
            some (x4, x5)
          else
            (ag H10 73 6 x6).bind fun v13 =>
            some (x6, (v13 - v9))) fun j14 =>
      f_X8_best_l72 x1 x2 n j14.1 j14.2 (x6 + 1) H10
def f_X8_best (x1 : Int32) (x2 : Int32) (x3 : Int32) (H : Hp) : Option (Int32 × Hp) :=
  (pf H 60 0 0).bind fun H1 =>
  (f_X8_isThere H1).bind fun v2 =>
  if v2 = 0 then
    some ((-1000002), H1)
  else
    (f_X8_isGiver x1 H1).bind fun v3 =>
    if v3 = 0 then
      some ((-1000001), H1)
    else
      (f_X8_in x2.toInt64 1 99).bind fun v4 =>
      if v4 = 0 then
        some ((-1000001), H1)
      else
        (f_X8_in x3.toInt64 0 1).bind fun v5 =>
        if v5 = 0 then
          some ((-1000001), H1)
        else
          (ag H1 64 80 3).bind fun v6 =>
          if v6 = 20 then
            some ((-1000003), H1)
          else
            (f_X8_best_l72 x1 x2 fuel (-1000000) 0 0 H1).bind fun l19 =>
            some ((if x3 = 0 then l19.1 else l19.2.1), l19.2.2)
set_option maxHeartbeats 4000000 in
set_option maxRecDepth 100000 in
theorem k_X8_best_l72 {D : Nat} (hD : 5 ≤ (D + 1)) (x1 : Int32) (x2 : Int32) (x3 : Int32) {post : Option Value → Hp → Prop} : ∀ (n : Nat) (x4 : Int32) (x5 : Int32) (x6 : Int32) (H : Hp) (q : Int32 × Int32 × Hp), f_X8_best_l72 x1 x2 n x4 x5 x6 H = some q → V (D + 1) RX8 mdX8_best 152 [.null, .null, .null, .int x3, .int q.1, .int q.2.1, .null, .null] [] q.2.2 post → V (D + 1) RX8 mdX8_best 72 [.ref 60, .int x1, .int x2, .int x3, .int x4, .int x5, .int x6, .null] [] H post := by
  intro n
  induction n with
  | zero => intro x4 x5 x6 H q h; simp [f_X8_best_l72] at h
  | succ n ih =>
    intro x4 x5 x6 H q h k1
    rw [f_X8_best_l72] at h
    refine st_iload dX8_best_72 rfl ?_
    refine st_aload_n dX8_best_74 rfl rfl ?_
    refine gR8 dX8_best_75 (by decide) rfl 5 (by decide) fl_RX8_19 rfl 64 rfl ?_
    refine st_iconst dX8_best_78 (v := 0) rfl ?_
    obtain ⟨v7, e_v7, h⟩ := bnd h
    refine st_iald dX8_best_79 (by decide) rfl v7 e_v7 ?_
    refine st_ic_ge dX8_best_80 152 (by decide) (fun c15 => ?_) (fun c15 => ?_)
    · replace h := (if_pos c15).symm.trans h
      obtain rfl := Option.some.inj h
      exact st_sub [.null, .null, .null, .int x3, .int x4, .int x5, .null, .null] ⟨Or.inl rfl, Or.inl rfl, Or.inl rfl, Or.inr rfl, Or.inr rfl, Or.inr rfl, Or.inl rfl, Or.inl rfl, trivial⟩ k1
    · replace h := (if_neg c15).symm.trans h
      refine st_aload_n dX8_best_83 rfl rfl ?_
      refine st_aload_n dX8_best_84 rfl rfl ?_
      refine gR8 dX8_best_85 (by decide) rfl 5 (by decide) fl_RX8_19 rfl 64 rfl ?_
      obtain ⟨H8, e_H8, h⟩ := bnd h
      refine st_callV [.ref 64] dX8_best_88 co_X8_reckon im_X8_reckon se_X8_reckon ml_RX8_232 rfl (by decide) rfl (rfl : classes[8]? = some (RX8, TX8, 30)) rfl (S := []) rfl (Nat.le_of_ble_eq_true rfl) (k_X8_reckon (by omega) RC64 H _ e_H8 ?_)
      show V (D + 1) RX8 mdX8_best 91 [.ref 60, .int x1, .int x2, .int x3, .int x4, .int x5, .int x6, .null] [] H8 post
      refine st_aload_n dX8_best_91 rfl rfl ?_
      refine gR8 dX8_best_92 (by decide) rfl 23 (by decide) fl_RX8_46 rfl 73 rfl ?_
      refine st_iload dX8_best_95 rfl ?_
      obtain ⟨v9, e_v9, h⟩ := bnd h
      refine st_iald dX8_best_97 (by decide) rfl v9 e_v9 ?_
      refine st_istore dX8_best_98 (by decide) [.ref 60, .int x1, .int x2, .int x3, .int x4, .int x5, .int x6, .int v9] rfl ?_
      refine st_aload_n dX8_best_100 rfl rfl ?_
      refine st_iload_n dX8_best_101 rfl rfl ?_
      refine st_iload dX8_best_102 rfl ?_
      refine st_iload_n dX8_best_104 rfl rfl ?_
      obtain ⟨H10, e_H10, h⟩ := bnd h
      refine st_callV [.int x1, .int x6, .int x2] dX8_best_105 co_X8_layGift im_X8_layGift se_X8_layGift ml_RX8_260 rfl (by decide) rfl (rfl : classes[8]? = some (RX8, TX8, 30)) rfl (S := []) rfl (Nat.le_of_ble_eq_true rfl) (k_X8_layGift (by omega) x1 x6 x2 H8 _ e_H10 ?_)
      show V (D + 1) RX8 mdX8_best 108 [.ref 60, .int x1, .int x2, .int x3, .int x4, .int x5, .int x6, .int v9] [] H10 post
      refine st_iload dX8_best_108 rfl ?_
      refine st_ldc dX8_best_110 cn_RX8_105 ?_
      obtain ⟨j14, e_j14, h⟩ := bnd h
      have kj16 : V (D + 1) RX8 mdX8_best 146 [.ref 60, .int x1, .int x2, .int x3, .int j14.1, .int j14.2, .int x6, .null] [] H10 post := by
        refine st_iinc dX8_best_146 rfl (v := (x6 + 1)) rfl (by decide) [.ref 60, .int x1, .int x2, .int x3, .int j14.1, .int j14.2, .int (x6 + 1), .null] rfl ?_
        refine st_goto dX8_best_149 72 (by decide) ?_
        exact ih j14.1 j14.2 (x6 + 1) H10 q h k1
      refine st_ic_eq dX8_best_112 130 (by decide) (fun c17 => ?_) (fun c17 => ?_)
      · replace e_j14 := (if_pos c17).symm.trans e_j14
        refine st_iload dX8_best_130 rfl ?_
        refine st_istore dX8_best_132 (by decide) [.ref 60, .int x1, .int x2, .int x3, .int x6, .int x5, .int x6, .int v9] rfl ?_
        refine st_aload_n dX8_best_134 rfl rfl ?_
        refine gR8 dX8_best_135 (by decide) rfl 23 (by decide) fl_RX8_46 rfl 73 rfl ?_
        refine st_iload dX8_best_138 rfl ?_
        obtain ⟨v11, e_v11, e_j14⟩ := bnd e_j14
        refine st_iald dX8_best_140 (by decide) rfl v11 e_v11 ?_
        refine st_iload dX8_best_141 rfl ?_
        refine st_isub dX8_best_143 ?_
        refine st_istore dX8_best_144 (by decide) [.ref 60, .int x1, .int x2, .int x3, .int x6, .int (v11 - v9), .int x6, .int v9] rfl ?_
        obtain rfl := Option.some.inj e_j14
        exact st_sub [.ref 60, .int x1, .int x2, .int x3, .int x6, .int (v11 - v9), .int x6, .null] ⟨Or.inr rfl, Or.inr rfl, Or.inr rfl, Or.inr rfl, Or.inr rfl, Or.inr rfl, Or.inr rfl, Or.inl rfl, trivial⟩ kj16
      · replace e_j14 := (if_neg c17).symm.trans e_j14
        refine st_aload_n dX8_best_115 rfl rfl ?_
        refine gR8 dX8_best_116 (by decide) rfl 23 (by decide) fl_RX8_46 rfl 73 rfl ?_
        refine st_iload dX8_best_119 rfl ?_
        obtain ⟨v12, e_v12, e_j14⟩ := bnd e_j14
        refine st_iald dX8_best_121 (by decide) rfl v12 e_v12 ?_
        refine st_iload dX8_best_122 rfl ?_
        refine st_isub dX8_best_124 ?_
        refine st_iload dX8_best_125 rfl ?_
        refine st_ic_le dX8_best_127 146 (by decide) (fun c18 => ?_) (fun c18 => ?_)
        · replace e_j14 := (if_pos c18).symm.trans e_j14
          obtain rfl := Option.some.inj e_j14
          exact st_sub [.ref 60, .int x1, .int x2, .int x3, .int x4, .int x5, .int x6, .null] ⟨Or.inr rfl, Or.inr rfl, Or.inr rfl, Or.inr rfl, Or.inr rfl, Or.inr rfl, Or.inr rfl, Or.inl rfl, trivial⟩ kj16
        · replace e_j14 := (if_neg c18).symm.trans e_j14
          refine st_iload dX8_best_130 rfl ?_
          refine st_istore dX8_best_132 (by decide) [.ref 60, .int x1, .int x2, .int x3, .int x6, .int x5, .int x6, .int v9] rfl ?_
          refine st_aload_n dX8_best_134 rfl rfl ?_
          refine gR8 dX8_best_135 (by decide) rfl 23 (by decide) fl_RX8_46 rfl 73 rfl ?_
          refine st_iload dX8_best_138 rfl ?_
          obtain ⟨v13, e_v13, e_j14⟩ := bnd e_j14
          refine st_iald dX8_best_140 (by decide) rfl v13 e_v13 ?_
          refine st_iload dX8_best_141 rfl ?_
          refine st_isub dX8_best_143 ?_
          refine st_istore dX8_best_144 (by decide) [.ref 60, .int x1, .int x2, .int x3, .int x6, .int (v13 - v9), .int x6, .int v9] rfl ?_
          obtain rfl := Option.some.inj e_j14
          exact st_sub [.ref 60, .int x1, .int x2, .int x3, .int x6, .int (v13 - v9), .int x6, .null] ⟨Or.inr rfl, Or.inr rfl, Or.inr rfl, Or.inr rfl, Or.inr rfl, Or.inr rfl, Or.inr rfl, Or.inl rfl, trivial⟩ kj16
set_option maxHeartbeats 4000000 in
set_option maxRecDepth 100000 in
theorem k_X8_best {D : Nat} (hD : 5 ≤ D) (x1 : Int32) (x2 : Int32) (x3 : Int32) (H : Hp) (q : Int32 × Hp) (h : f_X8_best x1 x2 x3 H = some q) {post : Option Value → Hp → Prop} (hp : post (some (.int q.1)) q.2) : Sem D mdX8_best [.ref 60, .int x1, .int x2, .int x3] H post := by
  obtain ⟨D, rfl⟩ : ∃ E, D = E + 1 := ⟨D - 1, by omega⟩
  refine sem_of (own := RX8) rfl pn_RX8 (Nat.le_of_ble_eq_true rfl) [.ref 60, .int x1, .int x2, .int x3, .null, .null, .null, .null] ⟨Or.inr rfl, Or.inr rfl, Or.inr rfl, Or.inr rfl, rfl, rfl, rfl, rfl, trivial⟩ ?_
  unfold f_X8_best at h
  refine st_aload_n dX8_best_0 rfl rfl ?_
  refine st_iconst dX8_best_1 (v := 0) rfl ?_
  obtain ⟨H1, e_H1, h⟩ := bnd h
  refine pI8 dX8_best_2 (by decide) rfl 0 (by decide) fl_RX8_62 rfl rfl rfl rfl e_H1 ?_
  refine st_aload_n dX8_best_5 rfl rfl ?_
  obtain ⟨v2, e_v2, h⟩ := bnd h
  refine st_callV [] dX8_best_6 co_X8_isThere im_X8_isThere se_X8_isThere ml_RX8_174 rfl (by decide) rfl (rfl : classes[8]? = some (RX8, TX8, 30)) rfl (S := []) rfl (Nat.le_of_ble_eq_true rfl) (k_X8_isThere (by omega) H1 _ e_v2 ?_)
  show V (D + 1) RX8 mdX8_best 9 [.ref 60, .int x1, .int x2, .int x3, .null, .null, .null, .null] [.int v2] H1 post
  refine st_if_ne dX8_best_9 15 (by decide) (fun c20 => ?_) (fun c20 => ?_)
  · replace h := (if_neg c20).symm.trans h
    refine st_aload_n dX8_best_15 rfl rfl ?_
    refine st_iload_n dX8_best_16 rfl rfl ?_
    obtain ⟨v3, e_v3, h⟩ := bnd h
    refine st_callV [.int x1] dX8_best_17 co_X8_isGiver im_X8_isGiver se_X8_isGiver ml_RX8_235 rfl (by decide) rfl (rfl : classes[8]? = some (RX8, TX8, 30)) rfl (S := []) rfl (Nat.le_of_ble_eq_true rfl) (k_X8_isGiver (by omega) x1 H1 _ e_v3 ?_)
    show V (D + 1) RX8 mdX8_best 20 [.ref 60, .int x1, .int x2, .int x3, .null, .null, .null, .null] [.int v3] H1 post
    refine st_if_eq dX8_best_20 45 (by decide) (fun c21 => ?_) (fun c21 => ?_)
    · replace h := (if_pos c21).symm.trans h
      refine st_ldc dX8_best_45 cn_RX8_82 ?_
      obtain rfl := Option.some.inj h
      exact st_iret dX8_best_47 rfl hp
    · replace h := (if_neg c21).symm.trans h
      refine st_iload_n dX8_best_23 rfl rfl ?_
      refine st_i2l dX8_best_24 ?_
      refine st_lconst dX8_best_25 (v := 1) rfl ?_
      refine st_ldc2 dX8_best_26 cl_RX8_245 ?_
      obtain ⟨v4, e_v4, h⟩ := bnd h
      refine st_callS [.long x2.toInt64, .long 1, .long 99] dX8_best_29 co_X8_in sm_X8_in ml_RX8_72 rfl (S := []) rfl (Nat.le_of_ble_eq_true rfl) (k_X8_in (by omega) x2.toInt64 1 99 H1 _ e_v4 ?_)
      show V (D + 1) RX8 mdX8_best 32 [.ref 60, .int x1, .int x2, .int x3, .null, .null, .null, .null] [.int v4] H1 post
      refine st_if_eq dX8_best_32 45 (by decide) (fun c22 => ?_) (fun c22 => ?_)
      · replace h := (if_pos c22).symm.trans h
        refine st_ldc dX8_best_45 cn_RX8_82 ?_
        obtain rfl := Option.some.inj h
        exact st_iret dX8_best_47 rfl hp
      · replace h := (if_neg c22).symm.trans h
        refine st_iload_n dX8_best_35 rfl rfl ?_
        refine st_i2l dX8_best_36 ?_
        refine st_lconst dX8_best_37 (v := 0) rfl ?_
        refine st_lconst dX8_best_38 (v := 1) rfl ?_
        obtain ⟨v5, e_v5, h⟩ := bnd h
        refine st_callS [.long x3.toInt64, .long 0, .long 1] dX8_best_39 co_X8_in sm_X8_in ml_RX8_72 rfl (S := []) rfl (Nat.le_of_ble_eq_true rfl) (k_X8_in (by omega) x3.toInt64 0 1 H1 _ e_v5 ?_)
        show V (D + 1) RX8 mdX8_best 42 [.ref 60, .int x1, .int x2, .int x3, .null, .null, .null, .null] [.int v5] H1 post
        refine st_if_ne dX8_best_42 48 (by decide) (fun c23 => ?_) (fun c23 => ?_)
        · replace h := (if_neg c23).symm.trans h
          refine st_aload_n dX8_best_48 rfl rfl ?_
          refine gR8 dX8_best_49 (by decide) rfl 5 (by decide) fl_RX8_19 rfl 64 rfl ?_
          refine st_iconst dX8_best_52 (v := 3) rfl ?_
          obtain ⟨v6, e_v6, h⟩ := bnd h
          refine st_iald dX8_best_53 (by decide) rfl v6 e_v6 ?_
          refine st_bipush dX8_best_54 (v := 20) (by decide) ?_
          refine st_ic_ne dX8_best_56 62 (by decide) (fun c24 => ?_) (fun c24 => ?_)
          · replace h := (if_neg c24).symm.trans h
            refine st_ldc dX8_best_62 cn_RX8_105 ?_
            refine st_istore dX8_best_64 (by decide) [.ref 60, .int x1, .int x2, .int x3, .int (-1000000), .null, .null, .null] rfl ?_
            refine st_iconst dX8_best_66 (v := 0) rfl ?_
            refine st_istore dX8_best_67 (by decide) [.ref 60, .int x1, .int x2, .int x3, .int (-1000000), .int 0, .null, .null] rfl ?_
            refine st_iconst dX8_best_69 (v := 0) rfl ?_
            refine st_istore dX8_best_70 (by decide) [.ref 60, .int x1, .int x2, .int x3, .int (-1000000), .int 0, .int 0, .null] rfl ?_
            obtain ⟨l19, e_l19, h⟩ := bnd h
            refine k_X8_best_l72 (by omega) x1 x2 x3 fuel (-1000000) 0 0 H1 _ e_l19 ?_
            refine st_iload_n dX8_best_152 rfl rfl ?_
            have kj26 : ∀ z25 : Int32, z25 = (if x3 = 0 then l19.1 else l19.2.1) → V (D + 1) RX8 mdX8_best 163 [.null, .null, .null, .null, .null, .null, .null, .null] [.int z25] l19.2.2 post := by
              intro z25 ez25
              subst ez25
              obtain rfl := Option.some.inj h
              exact st_iret dX8_best_163 rfl hp
            refine st_if_ne dX8_best_153 161 (by decide) (fun c27 => ?_) (fun c27 => ?_)
            · refine st_iload dX8_best_161 rfl ?_
              exact st_sub [.null, .null, .null, .null, .null, .null, .null, .null] ⟨Or.inl rfl, Or.inl rfl, Or.inl rfl, Or.inl rfl, Or.inl rfl, Or.inl rfl, Or.inl rfl, Or.inl rfl, trivial⟩ (kj26 _ (Eq.symm (if_neg c27)))
            · refine st_iload dX8_best_156 rfl ?_
              refine st_goto dX8_best_158 163 (by decide) ?_
              exact st_sub [.null, .null, .null, .null, .null, .null, .null, .null] ⟨Or.inl rfl, Or.inl rfl, Or.inl rfl, Or.inl rfl, Or.inl rfl, Or.inl rfl, Or.inl rfl, Or.inl rfl, trivial⟩ (kj26 _ (Eq.symm (if_pos c27)))
          · replace h := (if_pos c24).symm.trans h
            refine st_ldc dX8_best_59 cn_RX8_92 ?_
            obtain rfl := Option.some.inj h
            exact st_iret dX8_best_61 rfl hp
        · replace h := (if_pos c23).symm.trans h
          refine st_ldc dX8_best_45 cn_RX8_82 ?_
          obtain rfl := Option.some.inj h
          exact st_iret dX8_best_47 rfl hp
  · replace h := (if_pos c20).symm.trans h
    refine st_ldc dX8_best_12 cn_RX8_253 ?_
    obtain rfl := Option.some.inj h
    exact st_iret dX8_best_14 rfl hp
def f_X8_least_l46 (x1 : Int32) (x2 : Int32) (x3 : Int32) : Nat → Int32 → Hp → Option ((Hp) ⊕ (Int32 × Hp))
  | 0, _, _ => none
  | n + 1, x4, H =>
    if 100 ≤ x4 then
      some (.inl H)
    else
      (f_X8_layGift x1 x2 x4 H).bind fun H5 =>
      (ag H5 72 6 x2).bind fun v6 =>
      if v6 < x3 then
        f_X8_least_l46 x1 x2 x3 n (x4 + 1) H5
      else
        some (.inr (x4, H5))
def f_X8_least (x1 : Int32) (x2 : Int32) (x3 : Int32) (H : Hp) : Option (Int32 × Hp) :=
  (pf H 60 0 0).bind fun H1 =>
  (f_X8_isGiving x1 x2 H1).bind fun v2 =>
  if v2 = 0 then
    some ((-1000001), H1)
  else
    (f_X8_in x3.toInt64 1 9999).bind fun v3 =>
    if v3 = 0 then
      some ((-1000001), H1)
    else
      (ag H1 64 80 3).bind fun v4 =>
      if v4 = 20 then
        some ((-1000003), H1)
      else
        (f_X8_least_l46 x1 x2 x3 fuel 1 H1).bind fun l9 => Sum.elim (fun t10 =>
          some ((-1000000), t10)) (fun r => some r) l9
set_option maxHeartbeats 4000000 in
set_option maxRecDepth 100000 in
theorem k_X8_least_l46 {D : Nat} (hD : 5 ≤ (D + 1)) (x1 : Int32) (x2 : Int32) (x3 : Int32) {post : Option Value → Hp → Prop} : ∀ (n : Nat) (x4 : Int32) (H : Hp) (q : (Hp) ⊕ (Int32 × Hp)), f_X8_least_l46 x1 x2 x3 n x4 H = some q → (∀ t, q = .inl t → V (D + 1) RX8 mdX8_least 80 [.null, .null, .null, .null, .null] [] t post) → (∀ r, q = .inr r → post (some (.int r.1)) r.2) → V (D + 1) RX8 mdX8_least 46 [.ref 60, .int x1, .int x2, .int x3, .int x4] [] H post := by
  intro n
  induction n with
  | zero => intro x4 H q h; simp [f_X8_least_l46] at h
  | succ n ih =>
    intro x4 H q h k1 k2
    rw [f_X8_least_l46] at h
    refine st_iload dX8_least_46 rfl ?_
    refine st_bipush dX8_least_48 (v := 100) (by decide) ?_
    refine st_ic_ge dX8_least_50 80 (by decide) (fun c7 => ?_) (fun c7 => ?_)
    · replace h := (if_pos c7).symm.trans h
      exact st_sub [.null, .null, .null, .null, .null] ⟨Or.inl rfl, Or.inl rfl, Or.inl rfl, Or.inl rfl, Or.inl rfl, trivial⟩ (k1 _ (Option.some.inj h).symm)
    · replace h := (if_neg c7).symm.trans h
      refine st_aload_n dX8_least_53 rfl rfl ?_
      refine st_iload_n dX8_least_54 rfl rfl ?_
      refine st_iload_n dX8_least_55 rfl rfl ?_
      refine st_iload dX8_least_56 rfl ?_
      obtain ⟨H5, e_H5, h⟩ := bnd h
      refine st_callV [.int x1, .int x2, .int x4] dX8_least_58 co_X8_layGift im_X8_layGift se_X8_layGift ml_RX8_260 rfl (by decide) rfl (rfl : classes[8]? = some (RX8, TX8, 30)) rfl (S := []) rfl (Nat.le_of_ble_eq_true rfl) (k_X8_layGift (by omega) x1 x2 x4 H _ e_H5 ?_)
      show V (D + 1) RX8 mdX8_least 61 [.ref 60, .int x1, .int x2, .int x3, .int x4] [] H5 post
      refine st_aload_n dX8_least_61 rfl rfl ?_
      refine gR8 dX8_least_62 (by decide) rfl 22 (by decide) fl_RX8_43 rfl 72 rfl ?_
      refine st_iload_n dX8_least_65 rfl rfl ?_
      obtain ⟨v6, e_v6, h⟩ := bnd h
      refine st_iald dX8_least_66 (by decide) rfl v6 e_v6 ?_
      refine st_iload_n dX8_least_67 rfl rfl ?_
      refine st_ic_lt dX8_least_68 74 (by decide) (fun c8 => ?_) (fun c8 => ?_)
      · replace h := (if_pos c8).symm.trans h
        refine st_iinc dX8_least_74 rfl (v := (x4 + 1)) rfl (by decide) [.ref 60, .int x1, .int x2, .int x3, .int (x4 + 1)] rfl ?_
        refine st_goto dX8_least_77 46 (by decide) ?_
        exact ih (x4 + 1) H5 q h k1 k2
      · replace h := (if_neg c8).symm.trans h
        refine st_iload dX8_least_71 rfl ?_
        have hp := k2 _ (Option.some.inj h).symm
        exact st_iret dX8_least_73 rfl hp
set_option maxHeartbeats 4000000 in
set_option maxRecDepth 100000 in
theorem k_X8_least {D : Nat} (hD : 5 ≤ D) (x1 : Int32) (x2 : Int32) (x3 : Int32) (H : Hp) (q : Int32 × Hp) (h : f_X8_least x1 x2 x3 H = some q) {post : Option Value → Hp → Prop} (hp : post (some (.int q.1)) q.2) : Sem D mdX8_least [.ref 60, .int x1, .int x2, .int x3] H post := by
  obtain ⟨D, rfl⟩ : ∃ E, D = E + 1 := ⟨D - 1, by omega⟩
  refine sem_of (own := RX8) rfl pn_RX8 (Nat.le_of_ble_eq_true rfl) [.ref 60, .int x1, .int x2, .int x3, .null] ⟨Or.inr rfl, Or.inr rfl, Or.inr rfl, Or.inr rfl, rfl, trivial⟩ ?_
  unfold f_X8_least at h
  refine st_aload_n dX8_least_0 rfl rfl ?_
  refine st_iconst dX8_least_1 (v := 0) rfl ?_
  obtain ⟨H1, e_H1, h⟩ := bnd h
  refine pI8 dX8_least_2 (by decide) rfl 0 (by decide) fl_RX8_62 rfl rfl rfl rfl e_H1 ?_
  refine st_aload_n dX8_least_5 rfl rfl ?_
  refine st_iload_n dX8_least_6 rfl rfl ?_
  refine st_iload_n dX8_least_7 rfl rfl ?_
  obtain ⟨v2, e_v2, h⟩ := bnd h
  refine st_callV [.int x1, .int x2] dX8_least_8 co_X8_isGiving im_X8_isGiving se_X8_isGiving ml_RX8_241 rfl (by decide) rfl (rfl : classes[8]? = some (RX8, TX8, 30)) rfl (S := []) rfl (Nat.le_of_ble_eq_true rfl) (k_X8_isGiving (by omega) x1 x2 H1 _ e_v2 ?_)
  show V (D + 1) RX8 mdX8_least 11 [.ref 60, .int x1, .int x2, .int x3, .null] [.int v2] H1 post
  refine st_if_eq dX8_least_11 26 (by decide) (fun c11 => ?_) (fun c11 => ?_)
  · replace h := (if_pos c11).symm.trans h
    refine st_ldc dX8_least_26 cn_RX8_82 ?_
    obtain rfl := Option.some.inj h
    exact st_iret dX8_least_28 rfl hp
  · replace h := (if_neg c11).symm.trans h
    refine st_iload_n dX8_least_14 rfl rfl ?_
    refine st_i2l dX8_least_15 ?_
    refine st_lconst dX8_least_16 (v := 1) rfl ?_
    refine st_ldc2 dX8_least_17 cl_RX8_264 ?_
    obtain ⟨v3, e_v3, h⟩ := bnd h
    refine st_callS [.long x3.toInt64, .long 1, .long 9999] dX8_least_20 co_X8_in sm_X8_in ml_RX8_72 rfl (S := []) rfl (Nat.le_of_ble_eq_true rfl) (k_X8_in (by omega) x3.toInt64 1 9999 H1 _ e_v3 ?_)
    show V (D + 1) RX8 mdX8_least 23 [.ref 60, .int x1, .int x2, .int x3, .null] [.int v3] H1 post
    refine st_if_ne dX8_least_23 29 (by decide) (fun c12 => ?_) (fun c12 => ?_)
    · replace h := (if_neg c12).symm.trans h
      refine st_aload_n dX8_least_29 rfl rfl ?_
      refine gR8 dX8_least_30 (by decide) rfl 5 (by decide) fl_RX8_19 rfl 64 rfl ?_
      refine st_iconst dX8_least_33 (v := 3) rfl ?_
      obtain ⟨v4, e_v4, h⟩ := bnd h
      refine st_iald dX8_least_34 (by decide) rfl v4 e_v4 ?_
      refine st_bipush dX8_least_35 (v := 20) (by decide) ?_
      refine st_ic_ne dX8_least_37 43 (by decide) (fun c13 => ?_) (fun c13 => ?_)
      · replace h := (if_neg c13).symm.trans h
        refine st_iconst dX8_least_43 (v := 1) rfl ?_
        refine st_istore dX8_least_44 (by decide) [.ref 60, .int x1, .int x2, .int x3, .int 1] rfl ?_
        obtain ⟨l9, e_l9, h⟩ := bnd h
        refine k_X8_least_l46 (by omega) x1 x2 x3 fuel 1 H1 _ e_l9 (fun t10 z => ?_) (fun r z => ?_)
        · subst z
          rw [Sum.elim_inl] at h
          refine st_ldc dX8_least_80 cn_RX8_105 ?_
          obtain rfl := Option.some.inj h
          exact st_iret dX8_least_82 rfl hp
        · subst z
          rw [Sum.elim_inr] at h
          obtain rfl := Option.some.inj h
          exact hp
      · replace h := (if_pos c13).symm.trans h
        refine st_ldc dX8_least_40 cn_RX8_92 ?_
        obtain rfl := Option.some.inj h
        exact st_iret dX8_least_42 rfl hp
    · replace h := (if_pos c12).symm.trans h
      refine st_ldc dX8_least_26 cn_RX8_82 ?_
      obtain rfl := Option.some.inj h
      exact st_iret dX8_least_28 rfl hp
