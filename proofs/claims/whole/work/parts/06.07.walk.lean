def f_X8_lay (r : Nat) (x1 : Int32) (x2 : Int32) (x3 : Int32) (x4 : Int32) (H : Hp) : Option (Hp) :=
  (as H r 80 (10 + (3 * x1)) x2).bind fun H1 =>
  (as H1 r 80 ((10 + (3 * x1)) + 1) x3).bind fun H2 =>
  (as H2 r 80 ((10 + (3 * x1)) + 2) x4).bind fun H3 =>
  some H3
set_option maxHeartbeats 4000000 in
set_option maxRecDepth 100000 in
theorem k_X8_lay {D : Nat} (hD : 0 ≤ D) {r : Nat} (hr : RC r) (x1 : Int32) (x2 : Int32) (x3 : Int32) (x4 : Int32) (H : Hp) (q : Hp) (h : f_X8_lay r x1 x2 x3 x4 H = some q) {post : Option Value → Hp → Prop} (hp : post none q) : Sem D mdX8_lay [.ref r, .int x1, .int x2, .int x3, .int x4] H post := by
  refine sem_of (own := RX8) rfl pn_RX8 (Nat.le_of_ble_eq_true rfl) [.ref r, .int x1, .int x2, .int x3, .int x4] ⟨Or.inr rfl, Or.inr rfl, Or.inr rfl, Or.inr rfl, Or.inr rfl, trivial⟩ ?_
  unfold f_X8_lay at h
  refine st_aload_n dX8_lay_0 rfl rfl ?_
  refine st_bipush dX8_lay_1 (v := 10) (by decide) ?_
  refine st_iconst dX8_lay_3 (v := 3) rfl ?_
  refine st_iload_n dX8_lay_4 rfl rfl ?_
  refine st_imul dX8_lay_5 ?_
  refine st_iadd dX8_lay_6 ?_
  refine st_iload_n dX8_lay_7 rfl rfl ?_
  obtain ⟨H1, e_H1, h⟩ := bnd h
  refine st_iast dX8_lay_8 hr.1 hr.2 H1 e_H1 ?_
  refine st_aload_n dX8_lay_9 rfl rfl ?_
  refine st_bipush dX8_lay_10 (v := 10) (by decide) ?_
  refine st_iconst dX8_lay_12 (v := 3) rfl ?_
  refine st_iload_n dX8_lay_13 rfl rfl ?_
  refine st_imul dX8_lay_14 ?_
  refine st_iadd dX8_lay_15 ?_
  refine st_iconst dX8_lay_16 (v := 1) rfl ?_
  refine st_iadd dX8_lay_17 ?_
  refine st_iload_n dX8_lay_18 rfl rfl ?_
  obtain ⟨H2, e_H2, h⟩ := bnd h
  refine st_iast dX8_lay_19 hr.1 hr.2 H2 e_H2 ?_
  refine st_aload_n dX8_lay_20 rfl rfl ?_
  refine st_bipush dX8_lay_21 (v := 10) (by decide) ?_
  refine st_iconst dX8_lay_23 (v := 3) rfl ?_
  refine st_iload_n dX8_lay_24 rfl rfl ?_
  refine st_imul dX8_lay_25 ?_
  refine st_iadd dX8_lay_26 ?_
  refine st_iconst dX8_lay_27 (v := 2) rfl ?_
  refine st_iadd dX8_lay_28 ?_
  refine st_iload dX8_lay_29 rfl ?_
  obtain ⟨H3, e_H3, h⟩ := bnd h
  refine st_iast dX8_lay_31 hr.1 hr.2 H3 e_H3 ?_
  obtain rfl := Option.some.inj h
  exact st_vret dX8_lay_32 rfl hp
def f_X8_put (r : Nat) (x1 : Int32) (x2 : Int32) (x3 : Int32) (H : Hp) : Option (Hp) :=
  (ag H r 80 3).bind fun v1 =>
  (f_X8_lay r v1 x1 x2 x3 H).bind fun H2 =>
  (ag H2 r 80 3).bind fun v3 =>
  (as H2 r 80 3 (v3 + 1)).bind fun H4 =>
  some H4
set_option maxHeartbeats 4000000 in
set_option maxRecDepth 100000 in
theorem k_X8_put {D : Nat} (hD : 1 ≤ D) {r : Nat} (hr : RC r) (x1 : Int32) (x2 : Int32) (x3 : Int32) (H : Hp) (q : Hp) (h : f_X8_put r x1 x2 x3 H = some q) {post : Option Value → Hp → Prop} (hp : post none q) : Sem D mdX8_put [.ref r, .int x1, .int x2, .int x3] H post := by
  obtain ⟨D, rfl⟩ : ∃ E, D = E + 1 := ⟨D - 1, by omega⟩
  refine sem_of (own := RX8) rfl pn_RX8 (Nat.le_of_ble_eq_true rfl) [.ref r, .int x1, .int x2, .int x3] ⟨Or.inr rfl, Or.inr rfl, Or.inr rfl, Or.inr rfl, trivial⟩ ?_
  unfold f_X8_put at h
  refine st_aload_n dX8_put_0 rfl rfl ?_
  refine st_aload_n dX8_put_1 rfl rfl ?_
  refine st_iconst dX8_put_2 (v := 3) rfl ?_
  obtain ⟨v1, e_v1, h⟩ := bnd h
  refine st_iald dX8_put_3 hr.1 hr.2 v1 e_v1 ?_
  refine st_iload_n dX8_put_4 rfl rfl ?_
  refine st_iload_n dX8_put_5 rfl rfl ?_
  refine st_iload_n dX8_put_6 rfl rfl ?_
  obtain ⟨H2, e_H2, h⟩ := bnd h
  refine st_callS [.ref r, .int v1, .int x1, .int x2, .int x3] dX8_put_7 co_X8_lay sm_X8_lay ml_RX8_179 rfl (S := []) rfl (Nat.le_of_ble_eq_true rfl) (k_X8_lay (by omega) hr v1 x1 x2 x3 H _ e_H2 ?_)
  show V (D + 1) RX8 mdX8_put 10 [.ref r, .int x1, .int x2, .int x3] [] H2 post
  refine st_aload_n dX8_put_10 rfl rfl ?_
  refine st_iconst dX8_put_11 (v := 3) rfl ?_
  refine st_dup2 dX8_put_12 rfl rfl ?_
  obtain ⟨v3, e_v3, h⟩ := bnd h
  refine st_iald dX8_put_13 hr.1 hr.2 v3 e_v3 ?_
  refine st_iconst dX8_put_14 (v := 1) rfl ?_
  refine st_iadd dX8_put_15 ?_
  obtain ⟨H4, e_H4, h⟩ := bnd h
  refine st_iast dX8_put_16 hr.1 hr.2 H4 e_H4 ?_
  obtain rfl := Option.some.inj h
  exact st_vret dX8_put_17 rfl hp
def f_X8_readGift (H : Hp) : Option (Hp) :=
  (ag H 65 80 3).bind fun v1 =>
  Option.bind (
    if v1 = 20 then
      (f_X8_bad 3 H).bind fun H2 =>
      some H2
    else
      some H) fun j3 =>
  (f_X8_must 1 j3).bind fun H4 =>
  (f_X8_number 0 9 H4).bind fun q5 =>
  (f_X8_mustSign 44 q5.2).bind fun H6 =>
  (ag H6 65 80 0).bind fun v7 =>
  (f_X8_number 0 (v7 - 1) H6).bind fun q8 =>
  (f_X8_mustSign 44 q8.2).bind fun H9 =>
  (f_X8_number 1 99 H9).bind fun q10 =>
  (f_X8_mustSign 59 q10.2).bind fun H11 =>
  Option.bind (
    if (H11 60 16) = 0 then
      (f_X8_put 65 q5.1 q8.1 q10.1 H11).bind fun H12 =>
      some H12
    else
      some H11) fun j13 =>
  some j13
set_option maxHeartbeats 4000000 in
set_option maxRecDepth 100000 in
theorem k_X8_readGift {D : Nat} (hD : 4 ≤ D) (H : Hp) (q : Hp) (h : f_X8_readGift H = some q) {post : Option Value → Hp → Prop} (hp : post none q) : Sem D mdX8_readGift [.ref 60] H post := by
  obtain ⟨D, rfl⟩ : ∃ E, D = E + 1 := ⟨D - 1, by omega⟩
  refine sem_of (own := RX8) rfl pn_RX8 (Nat.le_of_ble_eq_true rfl) [.ref 60, .null, .null, .null] ⟨Or.inr rfl, rfl, rfl, rfl, trivial⟩ ?_
  unfold f_X8_readGift at h
  refine st_aload_n dX8_readGift_0 rfl rfl ?_
  refine gR8 dX8_readGift_1 (by decide) rfl 6 (by decide) fl_RX8_22 rfl 65 rfl ?_
  refine st_iconst dX8_readGift_4 (v := 3) rfl ?_
  obtain ⟨v1, e_v1, h⟩ := bnd h
  refine st_iald dX8_readGift_5 (by decide) rfl v1 e_v1 ?_
  refine st_bipush dX8_readGift_6 (v := 20) (by decide) ?_
  obtain ⟨j3, e_j3, h⟩ := bnd h
  have kj14 : V (D + 1) RX8 mdX8_readGift 16 [.ref 60, .null, .null, .null] [] j3 post := by
    refine st_aload_n dX8_readGift_16 rfl rfl ?_
    refine st_iconst dX8_readGift_17 (v := 1) rfl ?_
    obtain ⟨H4, e_H4, h⟩ := bnd h
    refine st_callV [.int 1] dX8_readGift_18 co_X8_must im_X8_must se_X8_must ml_RX8_127 rfl (by decide) rfl (rfl : classes[8]? = some (RX8, TX8, 30)) rfl (S := []) rfl (Nat.le_of_ble_eq_true rfl) (k_X8_must (by omega) 1 j3 _ e_H4 ?_)
    show V (D + 1) RX8 mdX8_readGift 21 [.ref 60, .null, .null, .null] [] H4 post
    refine st_aload_n dX8_readGift_21 rfl rfl ?_
    refine st_iconst dX8_readGift_22 (v := 0) rfl ?_
    refine st_bipush dX8_readGift_23 (v := 9) (by decide) ?_
    obtain ⟨q5, e_q5, h⟩ := bnd h
    refine st_callV [.int 0, .int 9] dX8_readGift_25 co_X8_number im_X8_number se_X8_number ml_RX8_140 rfl (by decide) rfl (rfl : classes[8]? = some (RX8, TX8, 30)) rfl (S := []) rfl (Nat.le_of_ble_eq_true rfl) (k_X8_number (by omega) 0 9 H4 _ e_q5 ?_)
    show V (D + 1) RX8 mdX8_readGift 28 [.ref 60, .null, .null, .null] [.int q5.1] q5.2 post
    refine st_istore_n dX8_readGift_28 rfl (by decide) [.ref 60, .int q5.1, .null, .null] rfl ?_
    refine st_aload_n dX8_readGift_29 rfl rfl ?_
    refine st_bipush dX8_readGift_30 (v := 44) (by decide) ?_
    obtain ⟨H6, e_H6, h⟩ := bnd h
    refine st_callV [.int 44] dX8_readGift_32 co_X8_mustSign im_X8_mustSign se_X8_mustSign ml_RX8_137 rfl (by decide) rfl (rfl : classes[8]? = some (RX8, TX8, 30)) rfl (S := []) rfl (Nat.le_of_ble_eq_true rfl) (k_X8_mustSign (by omega) 44 q5.2 _ e_H6 ?_)
    show V (D + 1) RX8 mdX8_readGift 35 [.ref 60, .int q5.1, .null, .null] [] H6 post
    refine st_aload_n dX8_readGift_35 rfl rfl ?_
    refine st_iconst dX8_readGift_36 (v := 0) rfl ?_
    refine st_aload_n dX8_readGift_37 rfl rfl ?_
    refine gR8 dX8_readGift_38 (by decide) rfl 6 (by decide) fl_RX8_22 rfl 65 rfl ?_
    refine st_iconst dX8_readGift_41 (v := 0) rfl ?_
    obtain ⟨v7, e_v7, h⟩ := bnd h
    refine st_iald dX8_readGift_42 (by decide) rfl v7 e_v7 ?_
    refine st_iconst dX8_readGift_43 (v := 1) rfl ?_
    refine st_isub dX8_readGift_44 ?_
    obtain ⟨q8, e_q8, h⟩ := bnd h
    refine st_callV [.int 0, .int (v7 - 1)] dX8_readGift_45 co_X8_number im_X8_number se_X8_number ml_RX8_140 rfl (by decide) rfl (rfl : classes[8]? = some (RX8, TX8, 30)) rfl (S := []) rfl (Nat.le_of_ble_eq_true rfl) (k_X8_number (by omega) 0 (v7 - 1) H6 _ e_q8 ?_)
    show V (D + 1) RX8 mdX8_readGift 48 [.ref 60, .int q5.1, .null, .null] [.int q8.1] q8.2 post
    refine st_istore_n dX8_readGift_48 rfl (by decide) [.ref 60, .int q5.1, .int q8.1, .null] rfl ?_
    refine st_aload_n dX8_readGift_49 rfl rfl ?_
    refine st_bipush dX8_readGift_50 (v := 44) (by decide) ?_
    obtain ⟨H9, e_H9, h⟩ := bnd h
    refine st_callV [.int 44] dX8_readGift_52 co_X8_mustSign im_X8_mustSign se_X8_mustSign ml_RX8_137 rfl (by decide) rfl (rfl : classes[8]? = some (RX8, TX8, 30)) rfl (S := []) rfl (Nat.le_of_ble_eq_true rfl) (k_X8_mustSign (by omega) 44 q8.2 _ e_H9 ?_)
    show V (D + 1) RX8 mdX8_readGift 55 [.ref 60, .int q5.1, .int q8.1, .null] [] H9 post
    refine st_aload_n dX8_readGift_55 rfl rfl ?_
    refine st_iconst dX8_readGift_56 (v := 1) rfl ?_
    refine st_bipush dX8_readGift_57 (v := 99) (by decide) ?_
    obtain ⟨q10, e_q10, h⟩ := bnd h
    refine st_callV [.int 1, .int 99] dX8_readGift_59 co_X8_number im_X8_number se_X8_number ml_RX8_140 rfl (by decide) rfl (rfl : classes[8]? = some (RX8, TX8, 30)) rfl (S := []) rfl (Nat.le_of_ble_eq_true rfl) (k_X8_number (by omega) 1 99 H9 _ e_q10 ?_)
    show V (D + 1) RX8 mdX8_readGift 62 [.ref 60, .int q5.1, .int q8.1, .null] [.int q10.1] q10.2 post
    refine st_istore_n dX8_readGift_62 rfl (by decide) [.ref 60, .int q5.1, .int q8.1, .int q10.1] rfl ?_
    refine st_aload_n dX8_readGift_63 rfl rfl ?_
    refine st_bipush dX8_readGift_64 (v := 59) (by decide) ?_
    obtain ⟨H11, e_H11, h⟩ := bnd h
    refine st_callV [.int 59] dX8_readGift_66 co_X8_mustSign im_X8_mustSign se_X8_mustSign ml_RX8_137 rfl (by decide) rfl (rfl : classes[8]? = some (RX8, TX8, 30)) rfl (S := []) rfl (Nat.le_of_ble_eq_true rfl) (k_X8_mustSign (by omega) 59 q10.2 _ e_H11 ?_)
    show V (D + 1) RX8 mdX8_readGift 69 [.ref 60, .int q5.1, .int q8.1, .int q10.1] [] H11 post
    refine st_aload_n dX8_readGift_69 rfl rfl ?_
    refine gI8 dX8_readGift_70 (by decide) rfl 16 (by decide) fl_RX8_93 rfl rfl ?_
    obtain ⟨j13, e_j13, h⟩ := bnd h
    have kj15 : V (D + 1) RX8 mdX8_readGift 86 [.null, .null, .null, .null] [] j13 post := by
      obtain rfl := Option.some.inj h
      exact st_vret dX8_readGift_86 rfl hp
    refine st_if_ne dX8_readGift_73 86 (by decide) (fun c16 => ?_) (fun c16 => ?_)
    · replace e_j13 := (if_neg c16).symm.trans e_j13
      obtain rfl := Option.some.inj e_j13
      exact st_sub [.null, .null, .null, .null] ⟨Or.inl rfl, Or.inl rfl, Or.inl rfl, Or.inl rfl, trivial⟩ kj15
    · replace e_j13 := (if_pos c16).symm.trans e_j13
      refine st_aload_n dX8_readGift_76 rfl rfl ?_
      refine gR8 dX8_readGift_77 (by decide) rfl 6 (by decide) fl_RX8_22 rfl 65 rfl ?_
      refine st_iload_n dX8_readGift_80 rfl rfl ?_
      refine st_iload_n dX8_readGift_81 rfl rfl ?_
      refine st_iload_n dX8_readGift_82 rfl rfl ?_
      obtain ⟨H12, e_H12, e_j13⟩ := bnd e_j13
      refine st_callS [.ref 65, .int q5.1, .int q8.1, .int q10.1] dX8_readGift_83 co_X8_put sm_X8_put ml_RX8_144 rfl (S := []) rfl (Nat.le_of_ble_eq_true rfl) (k_X8_put (by omega) RC65 q5.1 q8.1 q10.1 H11 _ e_H12 ?_)
      show V (D + 1) RX8 mdX8_readGift 86 [.ref 60, .int q5.1, .int q8.1, .int q10.1] [] H12 post
      obtain rfl := Option.some.inj e_j13
      exact st_sub [.null, .null, .null, .null] ⟨Or.inl rfl, Or.inl rfl, Or.inl rfl, Or.inl rfl, trivial⟩ kj15
  refine st_ic_ne dX8_readGift_8 16 (by decide) (fun c17 => ?_) (fun c17 => ?_)
  · replace e_j3 := (if_neg c17).symm.trans e_j3
    obtain rfl := Option.some.inj e_j3
    exact kj14
  · replace e_j3 := (if_pos c17).symm.trans e_j3
    refine st_aload_n dX8_readGift_11 rfl rfl ?_
    refine st_iconst dX8_readGift_12 (v := 3) rfl ?_
    obtain ⟨H2, e_H2, e_j3⟩ := bnd e_j3
    refine st_callV [.int 3] dX8_readGift_13 co_X8_bad im_X8_bad se_X8_bad ml_RX8_120 rfl (by decide) rfl (rfl : classes[8]? = some (RX8, TX8, 30)) rfl (S := []) rfl (Nat.le_of_ble_eq_true rfl) (k_X8_bad (by omega) 3 H _ e_H2 ?_)
    show V (D + 1) RX8 mdX8_readGift 16 [.ref 60, .null, .null, .null] [] H2 post
    obtain rfl := Option.some.inj e_j3
    exact kj14
def f_X8_failed (H : Hp) : Option (Int32 × Hp) :=
  Option.bind (
    if (H 60 16) = 0 then
      if (H 60 14) = 1 then
        some H
      else
        (f_X8_bad 1 H).bind fun H1 =>
        some H1
    else
      some H) fun j2 =>
  (pf j2 60 11 0).bind fun H3 =>
  (pf H3 60 18 (if (H3 60 16) ≤ 0 then (H3 60 18) else (H3 60 16))).bind fun H4 =>
  some (((if (H4 60 16) ≤ 0 then 0 else 1) : Int32), H4)
set_option maxHeartbeats 4000000 in
set_option maxRecDepth 100000 in
theorem k_X8_failed {D : Nat} (hD : 1 ≤ D) (H : Hp) (q : Int32 × Hp) (h : f_X8_failed H = some q) {post : Option Value → Hp → Prop} (hp : post (some (.int q.1)) q.2) : Sem D mdX8_failed [.ref 60] H post := by
  obtain ⟨D, rfl⟩ : ∃ E, D = E + 1 := ⟨D - 1, by omega⟩
  refine sem_of (own := RX8) rfl pn_RX8 (Nat.le_of_ble_eq_true rfl) [.ref 60] ⟨Or.inr rfl, trivial⟩ ?_
  unfold f_X8_failed at h
  refine st_aload_n dX8_failed_0 rfl rfl ?_
  refine gI8 dX8_failed_1 (by decide) rfl 16 (by decide) fl_RX8_93 rfl rfl ?_
  obtain ⟨j2, e_j2, h⟩ := bnd h
  have kj5 : V (D + 1) RX8 mdX8_failed 20 [.ref 60] [] j2 post := by
    refine st_aload_n dX8_failed_20 rfl rfl ?_
    refine st_iconst dX8_failed_21 (v := 0) rfl ?_
    obtain ⟨H3, e_H3, h⟩ := bnd h
    refine pI8 dX8_failed_22 (by decide) rfl 11 (by decide) fl_RX8_89 rfl rfl rfl rfl e_H3 ?_
    refine st_aload_n dX8_failed_25 rfl rfl ?_
    refine st_aload_n dX8_failed_26 rfl rfl ?_
    refine gI8 dX8_failed_27 (by decide) rfl 16 (by decide) fl_RX8_93 rfl rfl ?_
    have kj7 : ∀ z6 : Int32, z6 = (if (H3 60 16) ≤ 0 then (H3 60 18) else (H3 60 16)) → V (D + 1) RX8 mdX8_failed 44 [.ref 60] [.int z6, .ref 60] H3 post := by
      intro z6 ez6
      subst ez6
      obtain ⟨H4, e_H4, h⟩ := bnd h
      refine pI8 dX8_failed_44 (by decide) rfl 18 (by decide) fl_RX8_131 rfl rfl rfl rfl e_H4 ?_
      refine st_aload_n dX8_failed_47 rfl rfl ?_
      refine gI8 dX8_failed_48 (by decide) rfl 16 (by decide) fl_RX8_93 rfl rfl ?_
      have kj9 : ∀ z8 : Int32, z8 = ((if (H4 60 16) ≤ 0 then 0 else 1) : Int32) → V (D + 1) RX8 mdX8_failed 59 [.null] [.int z8] H4 post := by
        intro z8 ez8
        subst ez8
        obtain rfl := Option.some.inj h
        exact st_zret dX8_failed_59 rfl (by first | rfl | (split <;> rfl) | (repeat (first | rfl | split))) hp
      refine st_if_le dX8_failed_51 58 (by decide) (fun c10 => ?_) (fun c10 => ?_)
      · refine st_iconst dX8_failed_58 (v := 0) rfl ?_
        exact st_sub [.null] ⟨Or.inl rfl, trivial⟩ (kj9 _ (Eq.symm (if_pos c10)))
      · refine st_iconst dX8_failed_54 (v := 1) rfl ?_
        refine st_goto dX8_failed_55 59 (by decide) ?_
        exact st_sub [.null] ⟨Or.inl rfl, trivial⟩ (kj9 _ (Eq.symm (if_neg c10)))
    refine st_if_le dX8_failed_30 40 (by decide) (fun c11 => ?_) (fun c11 => ?_)
    · refine st_aload_n dX8_failed_40 rfl rfl ?_
      refine gI8 dX8_failed_41 (by decide) rfl 18 (by decide) fl_RX8_131 rfl rfl ?_
      exact (kj7 _ (Eq.symm (if_pos c11)))
    · refine st_aload_n dX8_failed_33 rfl rfl ?_
      refine gI8 dX8_failed_34 (by decide) rfl 16 (by decide) fl_RX8_93 rfl rfl ?_
      refine st_goto dX8_failed_37 44 (by decide) ?_
      exact (kj7 _ (Eq.symm (if_neg c11)))
  refine st_if_ne dX8_failed_4 20 (by decide) (fun c12 => ?_) (fun c12 => ?_)
  · replace e_j2 := (if_neg c12).symm.trans e_j2
    obtain rfl := Option.some.inj e_j2
    exact kj5
  · replace e_j2 := (if_pos c12).symm.trans e_j2
    refine st_aload_n dX8_failed_7 rfl rfl ?_
    refine gI8 dX8_failed_8 (by decide) rfl 14 (by decide) fl_RX8_117 rfl rfl ?_
    refine st_iconst dX8_failed_11 (v := 1) rfl ?_
    refine st_ic_eq dX8_failed_12 20 (by decide) (fun c13 => ?_) (fun c13 => ?_)
    · replace e_j2 := (if_pos c13).symm.trans e_j2
      obtain rfl := Option.some.inj e_j2
      exact kj5
    · replace e_j2 := (if_neg c13).symm.trans e_j2
      refine st_aload_n dX8_failed_15 rfl rfl ?_
      refine st_iconst dX8_failed_16 (v := 1) rfl ?_
      obtain ⟨H1, e_H1, e_j2⟩ := bnd e_j2
      refine st_callV [.int 1] dX8_failed_17 co_X8_bad im_X8_bad se_X8_bad ml_RX8_120 rfl (by decide) rfl (rfl : classes[8]? = some (RX8, TX8, 30)) rfl (S := []) rfl (Nat.le_of_ble_eq_true rfl) (k_X8_bad (by omega) 1 H _ e_H1 ?_)
      show V (D + 1) RX8 mdX8_failed 20 [.ref 60] [] H1 post
      obtain rfl := Option.some.inj e_j2
      exact kj5
def f_X8_fund_l11 : Nat → Int32 → Hp → Option (Hp)
  | 0, _, _ => none
  | n + 1, x1, H =>
    if 80 ≤ x1 then
      some H
    else
      (as H 65 80 x1 (if x1 < 70 then 0 else (x1 - 70))).bind fun H3 =>
      f_X8_fund_l11 n (x1 + 1) H3
def f_X8_fund_l106 : Nat → Hp → Option (Hp)
  | 0, _ => none
  | n + 1, H =>
    (f_X8_isSort H).bind fun v20 =>
    if v20 = 0 then
      some H
    else
      (f_X8_readProject H).bind fun H21 =>
      f_X8_fund_l106 n H21
def f_X8_fund_l120 : Nat → Hp → Option (Hp)
  | 0, _ => none
  | n + 1, H =>
    (f_X8_isGift H).bind fun v24 =>
    if v24 = 0 then
      some H
    else
      (f_X8_readGift H).bind fun H25 =>
      f_X8_fund_l120 n H25
def f_X8_fund_l156 : Nat → Int32 → Hp → Option (Hp)
  | 0, _, _ => none
  | n + 1, x1, H =>
    if 80 ≤ x1 then
      some H
    else
      (ag H 65 80 x1).bind fun v30 =>
      (as H 64 80 x1 v30).bind fun H31 =>
      f_X8_fund_l156 n (x1 + 1) H31
def f_X8_fund (H : Hp) : Option (Int32 × Hp) :=
  (pf H 60 0 0).bind fun H1 =>
  (f_X8_begin H1).bind fun H2 =>
  (f_X8_fund_l11 fuel 0 H2).bind fun l8 =>
  (f_X8_isLetter 109 l8).bind fun v9 =>
  (f_X8_must v9 l8).bind fun H10 =>
  (f_X8_number 0 99 H10).bind fun q11 =>
  (as q11.2 65 80 1 (10 * q11.1)).bind fun H12 =>
  (f_X8_mustSign 44 H12).bind fun H13 =>
  (f_X8_number 1 99 H13).bind fun q14 =>
  (as q14.2 65 80 2 q14.1).bind fun H15 =>
  (f_X8_mustSign 59 H15).bind fun H16 =>
  (f_X8_isSort H16).bind fun v17 =>
  Option.bind (
    if v17 = 0 then
      (f_X8_bad 1 H16).bind fun H18 =>
      some H18
    else
      some H16) fun j19 =>
  (f_X8_fund_l106 fuel j19).bind fun l23 =>
  (f_X8_fund_l120 fuel l23).bind fun l27 =>
  (f_X8_failed l27).bind fun q28 =>
  if q28.1 = 0 then
    (pf q28.2 60 9 0).bind fun H29 =>
    (f_X8_fund_l156 fuel 0 H29).bind fun l33 =>
    (ag l33 64 80 0).bind fun v34 =>
    some (v34, l33)
  else
    some (((-1000100) - (q28.2 60 17)), q28.2)
set_option maxHeartbeats 4000000 in
set_option maxRecDepth 100000 in
theorem k_X8_fund_l11 {D : Nat} (hD : 5 ≤ (D + 1)) {post : Option Value → Hp → Prop} : ∀ (n : Nat) (x1 : Int32) (H : Hp) (q : Hp), f_X8_fund_l11 n x1 H = some q → V (D + 1) RX8 mdX8_fund 43 [.ref 60, .null] [] q post → V (D + 1) RX8 mdX8_fund 11 [.ref 60, .int x1] [] H post := by
  intro n
  induction n with
  | zero => intro x1 H q h; simp [f_X8_fund_l11] at h
  | succ n ih =>
    intro x1 H q h k1
    rw [f_X8_fund_l11] at h
    refine st_iload_n dX8_fund_11 rfl rfl ?_
    refine st_bipush dX8_fund_12 (v := 80) (by decide) ?_
    refine st_ic_ge dX8_fund_14 43 (by decide) (fun c4 => ?_) (fun c4 => ?_)
    · replace h := (if_pos c4).symm.trans h
      obtain rfl := Option.some.inj h
      exact st_sub [.ref 60, .null] ⟨Or.inr rfl, Or.inl rfl, trivial⟩ k1
    · replace h := (if_neg c4).symm.trans h
      refine st_aload_n dX8_fund_17 rfl rfl ?_
      refine gR8 dX8_fund_18 (by decide) rfl 6 (by decide) fl_RX8_22 rfl 65 rfl ?_
      refine st_iload_n dX8_fund_21 rfl rfl ?_
      refine st_iload_n dX8_fund_22 rfl rfl ?_
      refine st_bipush dX8_fund_23 (v := 70) (by decide) ?_
      have kj6 : ∀ z5 : Int32, z5 = (if x1 < 70 then 0 else (x1 - 70)) → V (D + 1) RX8 mdX8_fund 36 [.ref 60, .int x1] [.int z5, .int x1, .ref 65] H post := by
        intro z5 ez5
        subst ez5
        obtain ⟨H3, e_H3, h⟩ := bnd h
        refine st_iast dX8_fund_36 (by decide) rfl H3 e_H3 ?_
        refine st_iinc dX8_fund_37 rfl (v := (x1 + 1)) rfl (by decide) [.ref 60, .int (x1 + 1)] rfl ?_
        refine st_goto dX8_fund_40 11 (by decide) ?_
        exact ih (x1 + 1) H3 q h k1
      refine st_ic_lt dX8_fund_25 35 (by decide) (fun c7 => ?_) (fun c7 => ?_)
      · refine st_iconst dX8_fund_35 (v := 0) rfl ?_
        exact (kj6 _ (Eq.symm (if_pos c7)))
      · refine st_iload_n dX8_fund_28 rfl rfl ?_
        refine st_bipush dX8_fund_29 (v := 70) (by decide) ?_
        refine st_isub dX8_fund_31 ?_
        refine st_goto dX8_fund_32 36 (by decide) ?_
        exact (kj6 _ (Eq.symm (if_neg c7)))
set_option maxHeartbeats 4000000 in
set_option maxRecDepth 100000 in
theorem k_X8_fund_l106 {D : Nat} (hD : 5 ≤ (D + 1)) {post : Option Value → Hp → Prop} : ∀ (n : Nat) (H : Hp) (q : Hp), f_X8_fund_l106 n H = some q → V (D + 1) RX8 mdX8_fund 120 [.ref 60, .null] [] q post → V (D + 1) RX8 mdX8_fund 106 [.ref 60, .null] [] H post := by
  intro n
  induction n with
  | zero => intro H q h; simp [f_X8_fund_l106] at h
  | succ n ih =>
    intro H q h k1
    rw [f_X8_fund_l106] at h
    refine st_aload_n dX8_fund_106 rfl rfl ?_
    obtain ⟨v20, e_v20, h⟩ := bnd h
    refine st_callV [] dX8_fund_107 co_X8_isSort im_X8_isSort se_X8_isSort ml_RX8_154 rfl (by decide) rfl (rfl : classes[8]? = some (RX8, TX8, 30)) rfl (S := []) rfl (Nat.le_of_ble_eq_true rfl) (k_X8_isSort (by omega) H _ e_v20 ?_)
    show V (D + 1) RX8 mdX8_fund 110 [.ref 60, .null] [.int v20] H post
    refine st_if_eq dX8_fund_110 120 (by decide) (fun c22 => ?_) (fun c22 => ?_)
    · replace h := (if_pos c22).symm.trans h
      obtain rfl := Option.some.inj h
      exact k1
    · replace h := (if_neg c22).symm.trans h
      refine st_aload_n dX8_fund_113 rfl rfl ?_
      obtain ⟨H21, e_H21, h⟩ := bnd h
      refine st_callV [] dX8_fund_114 co_X8_readProject im_X8_readProject se_X8_readProject ml_RX8_158 rfl (by decide) rfl (rfl : classes[8]? = some (RX8, TX8, 30)) rfl (S := []) rfl (Nat.le_of_ble_eq_true rfl) (k_X8_readProject (by omega) H _ e_H21 ?_)
      show V (D + 1) RX8 mdX8_fund 117 [.ref 60, .null] [] H21 post
      refine st_goto dX8_fund_117 106 (by decide) ?_
      exact ih H21 q h k1
set_option maxHeartbeats 4000000 in
set_option maxRecDepth 100000 in
theorem k_X8_fund_l120 {D : Nat} (hD : 5 ≤ (D + 1)) {post : Option Value → Hp → Prop} : ∀ (n : Nat) (H : Hp) (q : Hp), f_X8_fund_l120 n H = some q → V (D + 1) RX8 mdX8_fund 134 [.ref 60, .null] [] q post → V (D + 1) RX8 mdX8_fund 120 [.ref 60, .null] [] H post := by
  intro n
  induction n with
  | zero => intro H q h; simp [f_X8_fund_l120] at h
  | succ n ih =>
    intro H q h k1
    rw [f_X8_fund_l120] at h
    refine st_aload_n dX8_fund_120 rfl rfl ?_
    obtain ⟨v24, e_v24, h⟩ := bnd h
    refine st_callV [] dX8_fund_121 co_X8_isGift im_X8_isGift se_X8_isGift ml_RX8_161 rfl (by decide) rfl (rfl : classes[8]? = some (RX8, TX8, 30)) rfl (S := []) rfl (Nat.le_of_ble_eq_true rfl) (k_X8_isGift (by omega) H _ e_v24 ?_)
    show V (D + 1) RX8 mdX8_fund 124 [.ref 60, .null] [.int v24] H post
    refine st_if_eq dX8_fund_124 134 (by decide) (fun c26 => ?_) (fun c26 => ?_)
    · replace h := (if_pos c26).symm.trans h
      obtain rfl := Option.some.inj h
      exact k1
    · replace h := (if_neg c26).symm.trans h
      refine st_aload_n dX8_fund_127 rfl rfl ?_
      obtain ⟨H25, e_H25, h⟩ := bnd h
      refine st_callV [] dX8_fund_128 co_X8_readGift im_X8_readGift se_X8_readGift ml_RX8_164 rfl (by decide) rfl (rfl : classes[8]? = some (RX8, TX8, 30)) rfl (S := []) rfl (Nat.le_of_ble_eq_true rfl) (k_X8_readGift (by omega) H _ e_H25 ?_)
      show V (D + 1) RX8 mdX8_fund 131 [.ref 60, .null] [] H25 post
      refine st_goto dX8_fund_131 120 (by decide) ?_
      exact ih H25 q h k1
set_option maxHeartbeats 4000000 in
set_option maxRecDepth 100000 in
theorem k_X8_fund_l156 {D : Nat} (hD : 5 ≤ (D + 1)) {post : Option Value → Hp → Prop} : ∀ (n : Nat) (x1 : Int32) (H : Hp) (q : Hp), f_X8_fund_l156 n x1 H = some q → V (D + 1) RX8 mdX8_fund 180 [.ref 60, .null] [] q post → V (D + 1) RX8 mdX8_fund 156 [.ref 60, .int x1] [] H post := by
  intro n
  induction n with
  | zero => intro x1 H q h; simp [f_X8_fund_l156] at h
  | succ n ih =>
    intro x1 H q h k1
    rw [f_X8_fund_l156] at h
    refine st_iload_n dX8_fund_156 rfl rfl ?_
    refine st_bipush dX8_fund_157 (v := 80) (by decide) ?_
    refine st_ic_ge dX8_fund_159 180 (by decide) (fun c32 => ?_) (fun c32 => ?_)
    · replace h := (if_pos c32).symm.trans h
      obtain rfl := Option.some.inj h
      exact st_sub [.ref 60, .null] ⟨Or.inr rfl, Or.inl rfl, trivial⟩ k1
    · replace h := (if_neg c32).symm.trans h
      refine st_aload_n dX8_fund_162 rfl rfl ?_
      refine gR8 dX8_fund_163 (by decide) rfl 5 (by decide) fl_RX8_19 rfl 64 rfl ?_
      refine st_iload_n dX8_fund_166 rfl rfl ?_
      refine st_aload_n dX8_fund_167 rfl rfl ?_
      refine gR8 dX8_fund_168 (by decide) rfl 6 (by decide) fl_RX8_22 rfl 65 rfl ?_
      refine st_iload_n dX8_fund_171 rfl rfl ?_
      obtain ⟨v30, e_v30, h⟩ := bnd h
      refine st_iald dX8_fund_172 (by decide) rfl v30 e_v30 ?_
      obtain ⟨H31, e_H31, h⟩ := bnd h
      refine st_iast dX8_fund_173 (by decide) rfl H31 e_H31 ?_
      refine st_iinc dX8_fund_174 rfl (v := (x1 + 1)) rfl (by decide) [.ref 60, .int (x1 + 1)] rfl ?_
      refine st_goto dX8_fund_177 156 (by decide) ?_
      exact ih (x1 + 1) H31 q h k1
set_option maxHeartbeats 4000000 in
set_option maxRecDepth 100000 in
theorem k_X8_fund {D : Nat} (hD : 5 ≤ D) (H : Hp) (q : Int32 × Hp) (h : f_X8_fund H = some q) {post : Option Value → Hp → Prop} (hp : post (some (.int q.1)) q.2) : Sem D mdX8_fund [.ref 60] H post := by
  obtain ⟨D, rfl⟩ : ∃ E, D = E + 1 := ⟨D - 1, by omega⟩
  refine sem_of (own := RX8) rfl pn_RX8 (Nat.le_of_ble_eq_true rfl) [.ref 60, .null] ⟨Or.inr rfl, rfl, trivial⟩ ?_
  unfold f_X8_fund at h
  refine st_aload_n dX8_fund_0 rfl rfl ?_
  refine st_iconst dX8_fund_1 (v := 0) rfl ?_
  obtain ⟨H1, e_H1, h⟩ := bnd h
  refine pI8 dX8_fund_2 (by decide) rfl 0 (by decide) fl_RX8_62 rfl rfl rfl rfl e_H1 ?_
  refine st_aload_n dX8_fund_5 rfl rfl ?_
  obtain ⟨H2, e_H2, h⟩ := bnd h
  refine st_callV [] dX8_fund_6 co_X8_begin im_X8_begin se_X8_begin ml_RX8_148 rfl (by decide) rfl (rfl : classes[8]? = some (RX8, TX8, 30)) rfl (S := []) rfl (Nat.le_of_ble_eq_true rfl) (k_X8_begin (by omega) H1 _ e_H2 ?_)
  show V (D + 1) RX8 mdX8_fund 9 [.ref 60, .null] [] H2 post
  refine st_iconst dX8_fund_9 (v := 0) rfl ?_
  refine st_istore_n dX8_fund_10 rfl (by decide) [.ref 60, .int 0] rfl ?_
  obtain ⟨l8, e_l8, h⟩ := bnd h
  refine k_X8_fund_l11 (by omega) fuel 0 H2 _ e_l8 ?_
  refine st_aload_n dX8_fund_43 rfl rfl ?_
  refine st_aload_n dX8_fund_44 rfl rfl ?_
  refine st_bipush dX8_fund_45 (v := 109) (by decide) ?_
  obtain ⟨v9, e_v9, h⟩ := bnd h
  refine st_callV [.int 109] dX8_fund_47 co_X8_isLetter im_X8_isLetter se_X8_isLetter ml_RX8_151 rfl (by decide) rfl (rfl : classes[8]? = some (RX8, TX8, 30)) rfl (S := [.ref 60]) rfl (Nat.le_of_ble_eq_true rfl) (k_X8_isLetter (by omega) 109 l8 _ e_v9 ?_)
  show V (D + 1) RX8 mdX8_fund 50 [.ref 60, .null] [.int v9, .ref 60] l8 post
  obtain ⟨H10, e_H10, h⟩ := bnd h
  refine st_callV [.int v9] dX8_fund_50 co_X8_must im_X8_must se_X8_must ml_RX8_127 rfl (by decide) rfl (rfl : classes[8]? = some (RX8, TX8, 30)) rfl (S := []) rfl (Nat.le_of_ble_eq_true rfl) (k_X8_must (by omega) v9 l8 _ e_H10 ?_)
  show V (D + 1) RX8 mdX8_fund 53 [.ref 60, .null] [] H10 post
  refine st_aload_n dX8_fund_53 rfl rfl ?_
  refine gR8 dX8_fund_54 (by decide) rfl 6 (by decide) fl_RX8_22 rfl 65 rfl ?_
  refine st_iconst dX8_fund_57 (v := 1) rfl ?_
  refine st_bipush dX8_fund_58 (v := 10) (by decide) ?_
  refine st_aload_n dX8_fund_60 rfl rfl ?_
  refine st_iconst dX8_fund_61 (v := 0) rfl ?_
  refine st_bipush dX8_fund_62 (v := 99) (by decide) ?_
  obtain ⟨q11, e_q11, h⟩ := bnd h
  refine st_callV [.int 0, .int 99] dX8_fund_64 co_X8_number im_X8_number se_X8_number ml_RX8_140 rfl (by decide) rfl (rfl : classes[8]? = some (RX8, TX8, 30)) rfl (S := [.int 10, .int 1, .ref 65]) rfl (Nat.le_of_ble_eq_true rfl) (k_X8_number (by omega) 0 99 H10 _ e_q11 ?_)
  show V (D + 1) RX8 mdX8_fund 67 [.ref 60, .null] [.int q11.1, .int 10, .int 1, .ref 65] q11.2 post
  refine st_imul dX8_fund_67 ?_
  obtain ⟨H12, e_H12, h⟩ := bnd h
  refine st_iast dX8_fund_68 (by decide) rfl H12 e_H12 ?_
  refine st_aload_n dX8_fund_69 rfl rfl ?_
  refine st_bipush dX8_fund_70 (v := 44) (by decide) ?_
  obtain ⟨H13, e_H13, h⟩ := bnd h
  refine st_callV [.int 44] dX8_fund_72 co_X8_mustSign im_X8_mustSign se_X8_mustSign ml_RX8_137 rfl (by decide) rfl (rfl : classes[8]? = some (RX8, TX8, 30)) rfl (S := []) rfl (Nat.le_of_ble_eq_true rfl) (k_X8_mustSign (by omega) 44 H12 _ e_H13 ?_)
  show V (D + 1) RX8 mdX8_fund 75 [.ref 60, .null] [] H13 post
  refine st_aload_n dX8_fund_75 rfl rfl ?_
  refine gR8 dX8_fund_76 (by decide) rfl 6 (by decide) fl_RX8_22 rfl 65 rfl ?_
  refine st_iconst dX8_fund_79 (v := 2) rfl ?_
  refine st_aload_n dX8_fund_80 rfl rfl ?_
  refine st_iconst dX8_fund_81 (v := 1) rfl ?_
  refine st_bipush dX8_fund_82 (v := 99) (by decide) ?_
  obtain ⟨q14, e_q14, h⟩ := bnd h
  refine st_callV [.int 1, .int 99] dX8_fund_84 co_X8_number im_X8_number se_X8_number ml_RX8_140 rfl (by decide) rfl (rfl : classes[8]? = some (RX8, TX8, 30)) rfl (S := [.int 2, .ref 65]) rfl (Nat.le_of_ble_eq_true rfl) (k_X8_number (by omega) 1 99 H13 _ e_q14 ?_)
  show V (D + 1) RX8 mdX8_fund 87 [.ref 60, .null] [.int q14.1, .int 2, .ref 65] q14.2 post
  obtain ⟨H15, e_H15, h⟩ := bnd h
  refine st_iast dX8_fund_87 (by decide) rfl H15 e_H15 ?_
  refine st_aload_n dX8_fund_88 rfl rfl ?_
  refine st_bipush dX8_fund_89 (v := 59) (by decide) ?_
  obtain ⟨H16, e_H16, h⟩ := bnd h
  refine st_callV [.int 59] dX8_fund_91 co_X8_mustSign im_X8_mustSign se_X8_mustSign ml_RX8_137 rfl (by decide) rfl (rfl : classes[8]? = some (RX8, TX8, 30)) rfl (S := []) rfl (Nat.le_of_ble_eq_true rfl) (k_X8_mustSign (by omega) 59 H15 _ e_H16 ?_)
  show V (D + 1) RX8 mdX8_fund 94 [.ref 60, .null] [] H16 post
  refine st_aload_n dX8_fund_94 rfl rfl ?_
  obtain ⟨v17, e_v17, h⟩ := bnd h
  refine st_callV [] dX8_fund_95 co_X8_isSort im_X8_isSort se_X8_isSort ml_RX8_154 rfl (by decide) rfl (rfl : classes[8]? = some (RX8, TX8, 30)) rfl (S := []) rfl (Nat.le_of_ble_eq_true rfl) (k_X8_isSort (by omega) H16 _ e_v17 ?_)
  show V (D + 1) RX8 mdX8_fund 98 [.ref 60, .null] [.int v17] H16 post
  obtain ⟨j19, e_j19, h⟩ := bnd h
  have kj35 : V (D + 1) RX8 mdX8_fund 106 [.ref 60, .null] [] j19 post := by
    obtain ⟨l23, e_l23, h⟩ := bnd h
    refine k_X8_fund_l106 (by omega) fuel j19 _ e_l23 ?_
    obtain ⟨l27, e_l27, h⟩ := bnd h
    refine k_X8_fund_l120 (by omega) fuel l23 _ e_l27 ?_
    refine st_aload_n dX8_fund_134 rfl rfl ?_
    obtain ⟨q28, e_q28, h⟩ := bnd h
    refine st_callV [] dX8_fund_135 co_X8_failed im_X8_failed se_X8_failed ml_RX8_167 rfl (by decide) rfl (rfl : classes[8]? = some (RX8, TX8, 30)) rfl (S := []) rfl (Nat.le_of_ble_eq_true rfl) (k_X8_failed (by omega) l27 _ e_q28 ?_)
    show V (D + 1) RX8 mdX8_fund 138 [.ref 60, .null] [.int q28.1] q28.2 post
    refine st_if_eq dX8_fund_138 149 (by decide) (fun c36 => ?_) (fun c36 => ?_)
    · replace h := (if_pos c36).symm.trans h
      refine st_aload_n dX8_fund_149 rfl rfl ?_
      refine st_iconst dX8_fund_150 (v := 0) rfl ?_
      obtain ⟨H29, e_H29, h⟩ := bnd h
      refine pI8 dX8_fund_151 (by decide) rfl 9 (by decide) fl_RX8_171 rfl rfl rfl rfl e_H29 ?_
      refine st_iconst dX8_fund_154 (v := 0) rfl ?_
      refine st_istore_n dX8_fund_155 rfl (by decide) [.ref 60, .int 0] rfl ?_
      obtain ⟨l33, e_l33, h⟩ := bnd h
      refine k_X8_fund_l156 (by omega) fuel 0 H29 _ e_l33 ?_
      refine st_aload_n dX8_fund_180 rfl rfl ?_
      refine gR8 dX8_fund_181 (by decide) rfl 5 (by decide) fl_RX8_19 rfl 64 rfl ?_
      refine st_iconst dX8_fund_184 (v := 0) rfl ?_
      obtain ⟨v34, e_v34, h⟩ := bnd h
      refine st_iald dX8_fund_185 (by decide) rfl v34 e_v34 ?_
      obtain rfl := Option.some.inj h
      exact st_iret dX8_fund_186 rfl hp
    · replace h := (if_neg c36).symm.trans h
      refine st_ldc dX8_fund_141 cn_RX8_170 ?_
      refine st_aload_n dX8_fund_143 rfl rfl ?_
      refine gI8 dX8_fund_144 (by decide) rfl 17 (by decide) fl_RX8_99 rfl rfl ?_
      refine st_isub dX8_fund_147 ?_
      obtain rfl := Option.some.inj h
      exact st_iret dX8_fund_148 rfl hp
  refine st_if_ne dX8_fund_98 106 (by decide) (fun c37 => ?_) (fun c37 => ?_)
  · replace e_j19 := (if_neg c37).symm.trans e_j19
    obtain rfl := Option.some.inj e_j19
    exact kj35
  · replace e_j19 := (if_pos c37).symm.trans e_j19
    refine st_aload_n dX8_fund_101 rfl rfl ?_
    refine st_iconst dX8_fund_102 (v := 1) rfl ?_
    obtain ⟨H18, e_H18, e_j19⟩ := bnd e_j19
    refine st_callV [.int 1] dX8_fund_103 co_X8_bad im_X8_bad se_X8_bad ml_RX8_120 rfl (by decide) rfl (rfl : classes[8]? = some (RX8, TX8, 30)) rfl (S := []) rfl (Nat.le_of_ble_eq_true rfl) (k_X8_bad (by omega) 1 H16 _ e_H18 ?_)
    show V (D + 1) RX8 mdX8_fund 106 [.ref 60, .null] [] H18 post
    obtain rfl := Option.some.inj e_j19
    exact kj35
def f_X8_isThere (H : Hp) : Option (Int32) :=
  (ag H 64 80 0).bind fun v1 =>
  some ((if v1 ≤ 0 then 0 else 1) : Int32)
set_option maxHeartbeats 4000000 in
set_option maxRecDepth 100000 in
theorem k_X8_isThere {D : Nat} (hD : 0 ≤ D) (H : Hp) (q : Int32) (h : f_X8_isThere H = some q) {post : Option Value → Hp → Prop} (hp : post (some (.int q)) H) : Sem D mdX8_isThere [.ref 60] H post := by
  refine sem_of (own := RX8) rfl pn_RX8 (Nat.le_of_ble_eq_true rfl) [.ref 60] ⟨Or.inr rfl, trivial⟩ ?_
  unfold f_X8_isThere at h
  refine st_aload_n dX8_isThere_0 rfl rfl ?_
  refine gR8 dX8_isThere_1 (by decide) rfl 5 (by decide) fl_RX8_19 rfl 64 rfl ?_
  refine st_iconst dX8_isThere_4 (v := 0) rfl ?_
  obtain ⟨v1, e_v1, h⟩ := bnd h
  refine st_iald dX8_isThere_5 (by decide) rfl v1 e_v1 ?_
  have kj3 : ∀ z2 : Int32, z2 = ((if v1 ≤ 0 then 0 else 1) : Int32) → V D RX8 mdX8_isThere 14 [.null] [.int z2] H post := by
    intro z2 ez2
    subst ez2
    obtain rfl := Option.some.inj h
    exact st_zret dX8_isThere_14 rfl (by first | rfl | (split <;> rfl) | (repeat (first | rfl | split))) hp
  refine st_if_le dX8_isThere_6 13 (by decide) (fun c4 => ?_) (fun c4 => ?_)
  · refine st_iconst dX8_isThere_13 (v := 0) rfl ?_
    exact st_sub [.null] ⟨Or.inl rfl, trivial⟩ (kj3 _ (Eq.symm (if_pos c4)))
  · refine st_iconst dX8_isThere_9 (v := 1) rfl ?_
    refine st_goto dX8_isThere_10 14 (by decide) ?_
    exact st_sub [.null] ⟨Or.inl rfl, trivial⟩ (kj3 _ (Eq.symm (if_neg c4)))
def f_X8_isGiver (x1 : Int32) (H : Hp) : Option (Int32) :=
  (f_X8_isThere H).bind fun v1 =>
  Option.bind (
    if v1 = 0 then
      some 0
    else
      (f_X8_in x1.toInt64 0 9).bind fun v2 =>
      if v2 = 0 then
        some 0
      else
        some 1) fun j3 =>
  zr j3
set_option maxHeartbeats 4000000 in
set_option maxRecDepth 100000 in
theorem k_X8_isGiver {D : Nat} (hD : 1 ≤ D) (x1 : Int32) (H : Hp) (q : Int32) (h : f_X8_isGiver x1 H = some q) {post : Option Value → Hp → Prop} (hp : post (some (.int q)) H) : Sem D mdX8_isGiver [.ref 60, .int x1] H post := by
  obtain ⟨D, rfl⟩ : ∃ E, D = E + 1 := ⟨D - 1, by omega⟩
  refine sem_of (own := RX8) rfl pn_RX8 (Nat.le_of_ble_eq_true rfl) [.ref 60, .int x1] ⟨Or.inr rfl, Or.inr rfl, trivial⟩ ?_
  unfold f_X8_isGiver at h
  refine st_aload_n dX8_isGiver_0 rfl rfl ?_
  obtain ⟨v1, e_v1, h⟩ := bnd h
  refine st_callV [] dX8_isGiver_1 co_X8_isThere im_X8_isThere se_X8_isThere ml_RX8_174 rfl (by decide) rfl (rfl : classes[8]? = some (RX8, TX8, 30)) rfl (S := []) rfl (Nat.le_of_ble_eq_true rfl) (k_X8_isThere (by omega) H _ e_v1 ?_)
  show V (D + 1) RX8 mdX8_isGiver 4 [.ref 60, .int x1] [.int v1] H post
  obtain ⟨j3, e_j3, h⟩ := bnd h
  have kj4 : V (D + 1) RX8 mdX8_isGiver 24 [.null, .null] [.int j3] H post := by
    obtain ⟨rfl, hz⟩ := zr_some h
    exact st_zret dX8_isGiver_24 rfl hz hp
  refine st_if_eq dX8_isGiver_4 23 (by decide) (fun c5 => ?_) (fun c5 => ?_)
  · replace e_j3 := (if_pos c5).symm.trans e_j3
    refine st_iconst dX8_isGiver_23 (v := 0) rfl ?_
    obtain rfl := Option.some.inj e_j3
    exact st_sub [.null, .null] ⟨Or.inl rfl, Or.inl rfl, trivial⟩ kj4
  · replace e_j3 := (if_neg c5).symm.trans e_j3
    refine st_iload_n dX8_isGiver_7 rfl rfl ?_
    refine st_i2l dX8_isGiver_8 ?_
    refine st_lconst dX8_isGiver_9 (v := 0) rfl ?_
    refine st_ldc2 dX8_isGiver_10 cl_RX8_177 ?_
    obtain ⟨v2, e_v2, e_j3⟩ := bnd e_j3
    refine st_callS [.long x1.toInt64, .long 0, .long 9] dX8_isGiver_13 co_X8_in sm_X8_in ml_RX8_72 rfl (S := []) rfl (Nat.le_of_ble_eq_true rfl) (k_X8_in (by omega) x1.toInt64 0 9 H _ e_v2 ?_)
    show V (D + 1) RX8 mdX8_isGiver 16 [.ref 60, .int x1] [.int v2] H post
    refine st_if_eq dX8_isGiver_16 23 (by decide) (fun c6 => ?_) (fun c6 => ?_)
    · replace e_j3 := (if_pos c6).symm.trans e_j3
      refine st_iconst dX8_isGiver_23 (v := 0) rfl ?_
      obtain rfl := Option.some.inj e_j3
      exact st_sub [.null, .null] ⟨Or.inl rfl, Or.inl rfl, trivial⟩ kj4
    · replace e_j3 := (if_neg c6).symm.trans e_j3
      refine st_iconst dX8_isGiver_19 (v := 1) rfl ?_
      refine st_goto dX8_isGiver_20 24 (by decide) ?_
      obtain rfl := Option.some.inj e_j3
      exact st_sub [.null, .null] ⟨Or.inl rfl, Or.inl rfl, trivial⟩ kj4
def f_X8_isProject (x1 : Int32) (H : Hp) : Option (Int32) :=
  (ag H 64 80 0).bind fun v1 =>
  (f_X8_in x1.toInt64 0 (v1 - 1).toInt64).bind fun v2 =>
  zr v2
set_option maxHeartbeats 4000000 in
set_option maxRecDepth 100000 in
theorem k_X8_isProject {D : Nat} (hD : 1 ≤ D) (x1 : Int32) (H : Hp) (q : Int32) (h : f_X8_isProject x1 H = some q) {post : Option Value → Hp → Prop} (hp : post (some (.int q)) H) : Sem D mdX8_isProject [.ref 60, .int x1] H post := by
  obtain ⟨D, rfl⟩ : ∃ E, D = E + 1 := ⟨D - 1, by omega⟩
  refine sem_of (own := RX8) rfl pn_RX8 (Nat.le_of_ble_eq_true rfl) [.ref 60, .int x1] ⟨Or.inr rfl, Or.inr rfl, trivial⟩ ?_
  unfold f_X8_isProject at h
  refine st_iload_n dX8_isProject_0 rfl rfl ?_
  refine st_i2l dX8_isProject_1 ?_
  refine st_lconst dX8_isProject_2 (v := 0) rfl ?_
  refine st_aload_n dX8_isProject_3 rfl rfl ?_
  refine gR8 dX8_isProject_4 (by decide) rfl 5 (by decide) fl_RX8_19 rfl 64 rfl ?_
  refine st_iconst dX8_isProject_7 (v := 0) rfl ?_
  obtain ⟨v1, e_v1, h⟩ := bnd h
  refine st_iald dX8_isProject_8 (by decide) rfl v1 e_v1 ?_
  refine st_iconst dX8_isProject_9 (v := 1) rfl ?_
  refine st_isub dX8_isProject_10 ?_
  refine st_i2l dX8_isProject_11 ?_
  obtain ⟨v2, e_v2, h⟩ := bnd h
  refine st_callS [.long x1.toInt64, .long 0, .long (v1 - 1).toInt64] dX8_isProject_12 co_X8_in sm_X8_in ml_RX8_72 rfl (S := []) rfl (Nat.le_of_ble_eq_true rfl) (k_X8_in (by omega) x1.toInt64 0 (v1 - 1).toInt64 H _ e_v2 ?_)
  show V (D + 1) RX8 mdX8_isProject 15 [.ref 60, .int x1] [.int v2] H post
  obtain ⟨rfl, hz⟩ := zr_some h
  exact st_zret dX8_isProject_15 rfl hz hp
def f_X8_isGiving (x1 : Int32) (x2 : Int32) (H : Hp) : Option (Int32) :=
  (f_X8_isGiver x1 H).bind fun v1 =>
  Option.bind (
    if v1 = 0 then
      some 0
    else
      (f_X8_isProject x2 H).bind fun v2 =>
      if v2 = 0 then
        some 0
      else
        some 1) fun j3 =>
  zr j3
set_option maxHeartbeats 4000000 in
set_option maxRecDepth 100000 in
theorem k_X8_isGiving {D : Nat} (hD : 2 ≤ D) (x1 : Int32) (x2 : Int32) (H : Hp) (q : Int32) (h : f_X8_isGiving x1 x2 H = some q) {post : Option Value → Hp → Prop} (hp : post (some (.int q)) H) : Sem D mdX8_isGiving [.ref 60, .int x1, .int x2] H post := by
  obtain ⟨D, rfl⟩ : ∃ E, D = E + 1 := ⟨D - 1, by omega⟩
  refine sem_of (own := RX8) rfl pn_RX8 (Nat.le_of_ble_eq_true rfl) [.ref 60, .int x1, .int x2] ⟨Or.inr rfl, Or.inr rfl, Or.inr rfl, trivial⟩ ?_
  unfold f_X8_isGiving at h
  refine st_aload_n dX8_isGiving_0 rfl rfl ?_
  refine st_iload_n dX8_isGiving_1 rfl rfl ?_
  obtain ⟨v1, e_v1, h⟩ := bnd h
  refine st_callV [.int x1] dX8_isGiving_2 co_X8_isGiver im_X8_isGiver se_X8_isGiver ml_RX8_235 rfl (by decide) rfl (rfl : classes[8]? = some (RX8, TX8, 30)) rfl (S := []) rfl (Nat.le_of_ble_eq_true rfl) (k_X8_isGiver (by omega) x1 H _ e_v1 ?_)
  show V (D + 1) RX8 mdX8_isGiving 5 [.ref 60, .int x1, .int x2] [.int v1] H post
  obtain ⟨j3, e_j3, h⟩ := bnd h
  have kj4 : V (D + 1) RX8 mdX8_isGiving 21 [.null, .null, .null] [.int j3] H post := by
    obtain ⟨rfl, hz⟩ := zr_some h
    exact st_zret dX8_isGiving_21 rfl hz hp
  refine st_if_eq dX8_isGiving_5 20 (by decide) (fun c5 => ?_) (fun c5 => ?_)
  · replace e_j3 := (if_pos c5).symm.trans e_j3
    refine st_iconst dX8_isGiving_20 (v := 0) rfl ?_
    obtain rfl := Option.some.inj e_j3
    exact st_sub [.null, .null, .null] ⟨Or.inl rfl, Or.inl rfl, Or.inl rfl, trivial⟩ kj4
  · replace e_j3 := (if_neg c5).symm.trans e_j3
    refine st_aload_n dX8_isGiving_8 rfl rfl ?_
    refine st_iload_n dX8_isGiving_9 rfl rfl ?_
    obtain ⟨v2, e_v2, e_j3⟩ := bnd e_j3
    refine st_callV [.int x2] dX8_isGiving_10 co_X8_isProject im_X8_isProject se_X8_isProject ml_RX8_238 rfl (by decide) rfl (rfl : classes[8]? = some (RX8, TX8, 30)) rfl (S := []) rfl (Nat.le_of_ble_eq_true rfl) (k_X8_isProject (by omega) x2 H _ e_v2 ?_)
    show V (D + 1) RX8 mdX8_isGiving 13 [.ref 60, .int x1, .int x2] [.int v2] H post
    refine st_if_eq dX8_isGiving_13 20 (by decide) (fun c6 => ?_) (fun c6 => ?_)
    · replace e_j3 := (if_pos c6).symm.trans e_j3
      refine st_iconst dX8_isGiving_20 (v := 0) rfl ?_
      obtain rfl := Option.some.inj e_j3
      exact st_sub [.null, .null, .null] ⟨Or.inl rfl, Or.inl rfl, Or.inl rfl, trivial⟩ kj4
    · replace e_j3 := (if_neg c6).symm.trans e_j3
      refine st_iconst dX8_isGiving_16 (v := 1) rfl ?_
      refine st_goto dX8_isGiving_17 21 (by decide) ?_
      obtain rfl := Option.some.inj e_j3
      exact st_sub [.null, .null, .null] ⟨Or.inl rfl, Or.inl rfl, Or.inl rfl, trivial⟩ kj4
def f_X8_keep_l11 : Nat → Int32 → Hp → Option (Hp)
  | 0, _, _ => none
  | n + 1, x1, H =>
    if 1840 ≤ x1 then
      some H
    else
      (ag H 67 1920 (x1 + 80)).bind fun v1 =>
      (as H 67 1920 x1 v1).bind fun H2 =>
      f_X8_keep_l11 n (x1 + 1) H2
def f_X8_keep_l51 : Nat → Int32 → Hp → Option (Hp)
  | 0, _, _ => none
  | n + 1, x1, H =>
    if 80 ≤ x1 then
      some H
    else
      (ag H 64 80 x1).bind fun v7 =>
      (as H 67 1920 ((80 * (H 60 9)) + x1) v7).bind fun H8 =>
      f_X8_keep_l51 n (x1 + 1) H8
def f_X8_keep (H : Hp) : Option (Hp) :=
  Option.bind (
    if (H 60 9) = 24 then
      (f_X8_keep_l11 fuel 0 H).bind fun l4 =>
      (pf l4 60 9 ((l4 60 9) - 1)).bind fun H5 =>
      some H5
    else
      some H) fun j6 =>
  (f_X8_keep_l51 fuel 0 j6).bind fun l10 =>
  (pf l10 60 9 ((l10 60 9) + 1)).bind fun H11 =>
  some H11
set_option maxHeartbeats 4000000 in
set_option maxRecDepth 100000 in
theorem k_X8_keep_l11 {D : Nat} (hD : 0 ≤ D) {post : Option Value → Hp → Prop} : ∀ (n : Nat) (x1 : Int32) (H : Hp) (q : Hp), f_X8_keep_l11 n x1 H = some q → V D RX8 mdX8_keep 39 [.ref 60, .null] [] q post → V D RX8 mdX8_keep 11 [.ref 60, .int x1] [] H post := by
  intro n
  induction n with
  | zero => intro x1 H q h; simp [f_X8_keep_l11] at h
  | succ n ih =>
    intro x1 H q h k1
    rw [f_X8_keep_l11] at h
    refine st_iload_n dX8_keep_11 rfl rfl ?_
    refine st_sipush dX8_keep_12 (v := 1840) (by decide) ?_
    refine st_ic_ge dX8_keep_15 39 (by decide) (fun c3 => ?_) (fun c3 => ?_)
    · replace h := (if_pos c3).symm.trans h
      obtain rfl := Option.some.inj h
      exact st_sub [.ref 60, .null] ⟨Or.inr rfl, Or.inl rfl, trivial⟩ k1
    · replace h := (if_neg c3).symm.trans h
      refine st_aload_n dX8_keep_18 rfl rfl ?_
      refine gR8 dX8_keep_19 (by decide) rfl 8 (by decide) fl_RX8_28 rfl 67 rfl ?_
      refine st_iload_n dX8_keep_22 rfl rfl ?_
      refine st_aload_n dX8_keep_23 rfl rfl ?_
      refine gR8 dX8_keep_24 (by decide) rfl 8 (by decide) fl_RX8_28 rfl 67 rfl ?_
      refine st_iload_n dX8_keep_27 rfl rfl ?_
      refine st_bipush dX8_keep_28 (v := 80) (by decide) ?_
      refine st_iadd dX8_keep_30 ?_
      obtain ⟨v1, e_v1, h⟩ := bnd h
      refine st_iald dX8_keep_31 (by decide) rfl v1 e_v1 ?_
      obtain ⟨H2, e_H2, h⟩ := bnd h
      refine st_iast dX8_keep_32 (by decide) rfl H2 e_H2 ?_
      refine st_iinc dX8_keep_33 rfl (v := (x1 + 1)) rfl (by decide) [.ref 60, .int (x1 + 1)] rfl ?_
      refine st_goto dX8_keep_36 11 (by decide) ?_
      exact ih (x1 + 1) H2 q h k1
set_option maxHeartbeats 4000000 in
set_option maxRecDepth 100000 in
theorem k_X8_keep_l51 {D : Nat} (hD : 0 ≤ D) {post : Option Value → Hp → Prop} : ∀ (n : Nat) (x1 : Int32) (H : Hp) (q : Hp), f_X8_keep_l51 n x1 H = some q → V D RX8 mdX8_keep 83 [.ref 60, .null] [] q post → V D RX8 mdX8_keep 51 [.ref 60, .int x1] [] H post := by
  intro n
  induction n with
  | zero => intro x1 H q h; simp [f_X8_keep_l51] at h
  | succ n ih =>
    intro x1 H q h k1
    rw [f_X8_keep_l51] at h
    refine st_iload_n dX8_keep_51 rfl rfl ?_
    refine st_bipush dX8_keep_52 (v := 80) (by decide) ?_
    refine st_ic_ge dX8_keep_54 83 (by decide) (fun c9 => ?_) (fun c9 => ?_)
    · replace h := (if_pos c9).symm.trans h
      obtain rfl := Option.some.inj h
      exact st_sub [.ref 60, .null] ⟨Or.inr rfl, Or.inl rfl, trivial⟩ k1
    · replace h := (if_neg c9).symm.trans h
      refine st_aload_n dX8_keep_57 rfl rfl ?_
      refine gR8 dX8_keep_58 (by decide) rfl 8 (by decide) fl_RX8_28 rfl 67 rfl ?_
      refine st_bipush dX8_keep_61 (v := 80) (by decide) ?_
      refine st_aload_n dX8_keep_63 rfl rfl ?_
      refine gI8 dX8_keep_64 (by decide) rfl 9 (by decide) fl_RX8_171 rfl rfl ?_
      refine st_imul dX8_keep_67 ?_
      refine st_iload_n dX8_keep_68 rfl rfl ?_
      refine st_iadd dX8_keep_69 ?_
      refine st_aload_n dX8_keep_70 rfl rfl ?_
      refine gR8 dX8_keep_71 (by decide) rfl 5 (by decide) fl_RX8_19 rfl 64 rfl ?_
      refine st_iload_n dX8_keep_74 rfl rfl ?_
      obtain ⟨v7, e_v7, h⟩ := bnd h
      refine st_iald dX8_keep_75 (by decide) rfl v7 e_v7 ?_
      obtain ⟨H8, e_H8, h⟩ := bnd h
      refine st_iast dX8_keep_76 (by decide) rfl H8 e_H8 ?_
      refine st_iinc dX8_keep_77 rfl (v := (x1 + 1)) rfl (by decide) [.ref 60, .int (x1 + 1)] rfl ?_
      refine st_goto dX8_keep_80 51 (by decide) ?_
      exact ih (x1 + 1) H8 q h k1
set_option maxHeartbeats 4000000 in
set_option maxRecDepth 100000 in
theorem k_X8_keep {D : Nat} (hD : 0 ≤ D) (H : Hp) (q : Hp) (h : f_X8_keep H = some q) {post : Option Value → Hp → Prop} (hp : post none q) : Sem D mdX8_keep [.ref 60] H post := by
  refine sem_of (own := RX8) rfl pn_RX8 (Nat.le_of_ble_eq_true rfl) [.ref 60, .null] ⟨Or.inr rfl, rfl, trivial⟩ ?_
  unfold f_X8_keep at h
  refine st_aload_n dX8_keep_0 rfl rfl ?_
  refine gI8 dX8_keep_1 (by decide) rfl 9 (by decide) fl_RX8_171 rfl rfl ?_
  refine st_bipush dX8_keep_4 (v := 24) (by decide) ?_
  obtain ⟨j6, e_j6, h⟩ := bnd h
  have kj12 : V D RX8 mdX8_keep 49 [.ref 60, .null] [] j6 post := by
    refine st_iconst dX8_keep_49 (v := 0) rfl ?_
    refine st_istore_n dX8_keep_50 rfl (by decide) [.ref 60, .int 0] rfl ?_
    obtain ⟨l10, e_l10, h⟩ := bnd h
    refine k_X8_keep_l51 (by omega) fuel 0 j6 _ e_l10 ?_
    refine st_aload_n dX8_keep_83 rfl rfl ?_
    refine st_dup dX8_keep_84 rfl ?_
    refine gI8 dX8_keep_85 (by decide) rfl 9 (by decide) fl_RX8_171 rfl rfl ?_
    refine st_iconst dX8_keep_88 (v := 1) rfl ?_
    refine st_iadd dX8_keep_89 ?_
    obtain ⟨H11, e_H11, h⟩ := bnd h
    refine pI8 dX8_keep_90 (by decide) rfl 9 (by decide) fl_RX8_171 rfl rfl rfl rfl e_H11 ?_
    obtain rfl := Option.some.inj h
    exact st_vret dX8_keep_93 rfl hp
  refine st_ic_ne dX8_keep_6 49 (by decide) (fun c13 => ?_) (fun c13 => ?_)
  · replace e_j6 := (if_neg c13).symm.trans e_j6
    obtain rfl := Option.some.inj e_j6
    exact kj12
  · replace e_j6 := (if_pos c13).symm.trans e_j6
    refine st_iconst dX8_keep_9 (v := 0) rfl ?_
    refine st_istore_n dX8_keep_10 rfl (by decide) [.ref 60, .int 0] rfl ?_
    obtain ⟨l4, e_l4, e_j6⟩ := bnd e_j6
    refine k_X8_keep_l11 (by omega) fuel 0 H _ e_l4 ?_
    refine st_aload_n dX8_keep_39 rfl rfl ?_
    refine st_dup dX8_keep_40 rfl ?_
    refine gI8 dX8_keep_41 (by decide) rfl 9 (by decide) fl_RX8_171 rfl rfl ?_
    refine st_iconst dX8_keep_44 (v := 1) rfl ?_
    refine st_isub dX8_keep_45 ?_
    obtain ⟨H5, e_H5, e_j6⟩ := bnd e_j6
    refine pI8 dX8_keep_46 (by decide) rfl 9 (by decide) fl_RX8_171 rfl rfl rfl rfl e_H5 ?_
    obtain rfl := Option.some.inj e_j6
    exact kj12
def f_X8_give (x1 : Int32) (x2 : Int32) (x3 : Int32) (H : Hp) : Option (Int32 × Hp) :=
  (pf H 60 0 0).bind fun H1 =>
  (f_X8_isGiving x1 x2 H1).bind fun v2 =>
  if v2 = 0 then
    some ((-1000001), H1)
  else
    (f_X8_in x3.toInt64 1 99).bind fun v3 =>
    if v3 = 0 then
      some ((-1000001), H1)
    else
      (ag H1 64 80 3).bind fun v4 =>
      if v4 = 20 then
        some ((-1000003), H1)
      else
        (f_X8_keep H1).bind fun H5 =>
        (f_X8_put 64 x1 x2 x3 H5).bind fun H6 =>
        (ag H6 64 80 3).bind fun v7 =>
        some (v7, H6)
set_option maxHeartbeats 4000000 in
set_option maxRecDepth 100000 in
theorem k_X8_give {D : Nat} (hD : 3 ≤ D) (x1 : Int32) (x2 : Int32) (x3 : Int32) (H : Hp) (q : Int32 × Hp) (h : f_X8_give x1 x2 x3 H = some q) {post : Option Value → Hp → Prop} (hp : post (some (.int q.1)) q.2) : Sem D mdX8_give [.ref 60, .int x1, .int x2, .int x3] H post := by
  obtain ⟨D, rfl⟩ : ∃ E, D = E + 1 := ⟨D - 1, by omega⟩
  refine sem_of (own := RX8) rfl pn_RX8 (Nat.le_of_ble_eq_true rfl) [.ref 60, .int x1, .int x2, .int x3] ⟨Or.inr rfl, Or.inr rfl, Or.inr rfl, Or.inr rfl, trivial⟩ ?_
  unfold f_X8_give at h
  refine st_aload_n dX8_give_0 rfl rfl ?_
  refine st_iconst dX8_give_1 (v := 0) rfl ?_
  obtain ⟨H1, e_H1, h⟩ := bnd h
  refine pI8 dX8_give_2 (by decide) rfl 0 (by decide) fl_RX8_62 rfl rfl rfl rfl e_H1 ?_
  refine st_aload_n dX8_give_5 rfl rfl ?_
  refine st_iload_n dX8_give_6 rfl rfl ?_
  refine st_iload_n dX8_give_7 rfl rfl ?_
  obtain ⟨v2, e_v2, h⟩ := bnd h
  refine st_callV [.int x1, .int x2] dX8_give_8 co_X8_isGiving im_X8_isGiving se_X8_isGiving ml_RX8_241 rfl (by decide) rfl (rfl : classes[8]? = some (RX8, TX8, 30)) rfl (S := []) rfl (Nat.le_of_ble_eq_true rfl) (k_X8_isGiving (by omega) x1 x2 H1 _ e_v2 ?_)
  show V (D + 1) RX8 mdX8_give 11 [.ref 60, .int x1, .int x2, .int x3] [.int v2] H1 post
  refine st_if_eq dX8_give_11 26 (by decide) (fun c8 => ?_) (fun c8 => ?_)
  · replace h := (if_pos c8).symm.trans h
    refine st_ldc dX8_give_26 cn_RX8_82 ?_
    obtain rfl := Option.some.inj h
    exact st_iret dX8_give_28 rfl hp
  · replace h := (if_neg c8).symm.trans h
    refine st_iload_n dX8_give_14 rfl rfl ?_
    refine st_i2l dX8_give_15 ?_
    refine st_lconst dX8_give_16 (v := 1) rfl ?_
    refine st_ldc2 dX8_give_17 cl_RX8_245 ?_
    obtain ⟨v3, e_v3, h⟩ := bnd h
    refine st_callS [.long x3.toInt64, .long 1, .long 99] dX8_give_20 co_X8_in sm_X8_in ml_RX8_72 rfl (S := []) rfl (Nat.le_of_ble_eq_true rfl) (k_X8_in (by omega) x3.toInt64 1 99 H1 _ e_v3 ?_)
    show V (D + 1) RX8 mdX8_give 23 [.ref 60, .int x1, .int x2, .int x3] [.int v3] H1 post
    refine st_if_ne dX8_give_23 29 (by decide) (fun c9 => ?_) (fun c9 => ?_)
    · replace h := (if_neg c9).symm.trans h
      refine st_aload_n dX8_give_29 rfl rfl ?_
      refine gR8 dX8_give_30 (by decide) rfl 5 (by decide) fl_RX8_19 rfl 64 rfl ?_
      refine st_iconst dX8_give_33 (v := 3) rfl ?_
      obtain ⟨v4, e_v4, h⟩ := bnd h
      refine st_iald dX8_give_34 (by decide) rfl v4 e_v4 ?_
      refine st_bipush dX8_give_35 (v := 20) (by decide) ?_
      refine st_ic_ne dX8_give_37 43 (by decide) (fun c10 => ?_) (fun c10 => ?_)
      · replace h := (if_neg c10).symm.trans h
        refine st_aload_n dX8_give_43 rfl rfl ?_
        obtain ⟨H5, e_H5, h⟩ := bnd h
        refine st_callV [] dX8_give_44 co_X8_keep im_X8_keep se_X8_keep ml_RX8_247 rfl (by decide) rfl (rfl : classes[8]? = some (RX8, TX8, 30)) rfl (S := []) rfl (Nat.le_of_ble_eq_true rfl) (k_X8_keep (by omega) H1 _ e_H5 ?_)
        show V (D + 1) RX8 mdX8_give 47 [.ref 60, .int x1, .int x2, .int x3] [] H5 post
        refine st_aload_n dX8_give_47 rfl rfl ?_
        refine gR8 dX8_give_48 (by decide) rfl 5 (by decide) fl_RX8_19 rfl 64 rfl ?_
        refine st_iload_n dX8_give_51 rfl rfl ?_
        refine st_iload_n dX8_give_52 rfl rfl ?_
        refine st_iload_n dX8_give_53 rfl rfl ?_
        obtain ⟨H6, e_H6, h⟩ := bnd h
        refine st_callS [.ref 64, .int x1, .int x2, .int x3] dX8_give_54 co_X8_put sm_X8_put ml_RX8_144 rfl (S := []) rfl (Nat.le_of_ble_eq_true rfl) (k_X8_put (by omega) RC64 x1 x2 x3 H5 _ e_H6 ?_)
        show V (D + 1) RX8 mdX8_give 57 [.ref 60, .int x1, .int x2, .int x3] [] H6 post
        refine st_aload_n dX8_give_57 rfl rfl ?_
        refine gR8 dX8_give_58 (by decide) rfl 5 (by decide) fl_RX8_19 rfl 64 rfl ?_
        refine st_iconst dX8_give_61 (v := 3) rfl ?_
        obtain ⟨v7, e_v7, h⟩ := bnd h
        refine st_iald dX8_give_62 (by decide) rfl v7 e_v7 ?_
        obtain rfl := Option.some.inj h
        exact st_iret dX8_give_63 rfl hp
      · replace h := (if_pos c10).symm.trans h
        refine st_ldc dX8_give_40 cn_RX8_92 ?_
        obtain rfl := Option.some.inj h
        exact st_iret dX8_give_42 rfl hp
    · replace h := (if_pos c9).symm.trans h
      refine st_ldc dX8_give_26 cn_RX8_82 ?_
      obtain rfl := Option.some.inj h
      exact st_iret dX8_give_28 rfl hp
def f_X8_isGiftAt (x1 : Int32) (H : Hp) : Option (Int32) :=
  (ag H 64 80 3).bind fun v1 =>
  (f_X8_in x1.toInt64 0 (v1 - 1).toInt64).bind fun v2 =>
  zr v2
set_option maxHeartbeats 4000000 in
set_option maxRecDepth 100000 in
theorem k_X8_isGiftAt {D : Nat} (hD : 1 ≤ D) (x1 : Int32) (H : Hp) (q : Int32) (h : f_X8_isGiftAt x1 H = some q) {post : Option Value → Hp → Prop} (hp : post (some (.int q)) H) : Sem D mdX8_isGiftAt [.ref 60, .int x1] H post := by
  obtain ⟨D, rfl⟩ : ∃ E, D = E + 1 := ⟨D - 1, by omega⟩
  refine sem_of (own := RX8) rfl pn_RX8 (Nat.le_of_ble_eq_true rfl) [.ref 60, .int x1] ⟨Or.inr rfl, Or.inr rfl, trivial⟩ ?_
  unfold f_X8_isGiftAt at h
  refine st_iload_n dX8_isGiftAt_0 rfl rfl ?_
  refine st_i2l dX8_isGiftAt_1 ?_
  refine st_lconst dX8_isGiftAt_2 (v := 0) rfl ?_
  refine st_aload_n dX8_isGiftAt_3 rfl rfl ?_
  refine gR8 dX8_isGiftAt_4 (by decide) rfl 5 (by decide) fl_RX8_19 rfl 64 rfl ?_
  refine st_iconst dX8_isGiftAt_7 (v := 3) rfl ?_
  obtain ⟨v1, e_v1, h⟩ := bnd h
  refine st_iald dX8_isGiftAt_8 (by decide) rfl v1 e_v1 ?_
  refine st_iconst dX8_isGiftAt_9 (v := 1) rfl ?_
  refine st_isub dX8_isGiftAt_10 ?_
  refine st_i2l dX8_isGiftAt_11 ?_
  obtain ⟨v2, e_v2, h⟩ := bnd h
  refine st_callS [.long x1.toInt64, .long 0, .long (v1 - 1).toInt64] dX8_isGiftAt_12 co_X8_in sm_X8_in ml_RX8_72 rfl (S := []) rfl (Nat.le_of_ble_eq_true rfl) (k_X8_in (by omega) x1.toInt64 0 (v1 - 1).toInt64 H _ e_v2 ?_)
  show V (D + 1) RX8 mdX8_isGiftAt 15 [.ref 60, .int x1] [.int v2] H post
  obtain ⟨rfl, hz⟩ := zr_some h
  exact st_zret dX8_isGiftAt_15 rfl hz hp
def f_X8_of (r : Nat) (x1 : Int32) (x2 : Int32) (H : Hp) : Option (Int32) :=
  (ag H r 80 ((10 + (3 * x1)) + x2)).bind fun v1 =>
  some v1
set_option maxHeartbeats 4000000 in
set_option maxRecDepth 100000 in
theorem k_X8_of {D : Nat} (hD : 0 ≤ D) {r : Nat} (hr : RC r) (x1 : Int32) (x2 : Int32) (H : Hp) (q : Int32) (h : f_X8_of r x1 x2 H = some q) {post : Option Value → Hp → Prop} (hp : post (some (.int q)) H) : Sem D mdX8_of [.ref r, .int x1, .int x2] H post := by
  refine sem_of (own := RX8) rfl pn_RX8 (Nat.le_of_ble_eq_true rfl) [.ref r, .int x1, .int x2] ⟨Or.inr rfl, Or.inr rfl, Or.inr rfl, trivial⟩ ?_
  unfold f_X8_of at h
  refine st_aload_n dX8_of_0 rfl rfl ?_
  refine st_bipush dX8_of_1 (v := 10) (by decide) ?_
  refine st_iconst dX8_of_3 (v := 3) rfl ?_
  refine st_iload_n dX8_of_4 rfl rfl ?_
  refine st_imul dX8_of_5 ?_
  refine st_iadd dX8_of_6 ?_
  refine st_iload_n dX8_of_7 rfl rfl ?_
  refine st_iadd dX8_of_8 ?_
  obtain ⟨v1, e_v1, h⟩ := bnd h
  refine st_iald dX8_of_9 hr.1 hr.2 v1 e_v1 ?_
  obtain rfl := Option.some.inj h
  exact st_iret dX8_of_10 rfl hp
def f_X8_back_l42 : Nat → Int32 → Hp → Option (Hp)
  | 0, _, _ => none
  | n + 1, x3, H =>
    (ag H 64 80 3).bind fun v7 =>
    if v7 ≤ x3 then
      some H
    else
      (f_X8_of 64 (x3 + 1) 0 H).bind fun v8 =>
      (f_X8_of 64 (x3 + 1) 1 H).bind fun v9 =>
      (f_X8_of 64 (x3 + 1) 2 H).bind fun v10 =>
      (f_X8_lay 64 x3 v8 v9 v10 H).bind fun H11 =>
      f_X8_back_l42 n (x3 + 1) H11
def f_X8_back (x1 : Int32) (H : Hp) : Option (Int32 × Hp) :=
  (pf H 60 0 0).bind fun H1 =>
  (f_X8_isGiftAt x1 H1).bind fun v2 =>
  if v2 = 0 then
    some ((-1000001), H1)
  else
    (f_X8_keep H1).bind fun H3 =>
    (f_X8_of 64 x1 2 H3).bind fun v4 =>
    (ag H3 64 80 3).bind fun v5 =>
    (as H3 64 80 3 (v5 - 1)).bind fun H6 =>
    (f_X8_back_l42 fuel x1 H6).bind fun l13 =>
    (ag l13 64 80 3).bind fun v14 =>
    (f_X8_lay 64 v14 0 0 0 l13).bind fun H15 =>
    some (v4, H15)
set_option maxHeartbeats 4000000 in
set_option maxRecDepth 100000 in
theorem k_X8_back_l42 {D : Nat} (hD : 2 ≤ (D + 1)) (x2 : Int32) {post : Option Value → Hp → Prop} : ∀ (n : Nat) (x3 : Int32) (H : Hp) (q : Hp), f_X8_back_l42 n x3 H = some q → V (D + 1) RX8 mdX8_back 99 [.ref 60, .null, .int x2, .null] [] q post → V (D + 1) RX8 mdX8_back 42 [.ref 60, .null, .int x2, .int x3] [] H post := by
  intro n
  induction n with
  | zero => intro x3 H q h; simp [f_X8_back_l42] at h
  | succ n ih =>
    intro x3 H q h k1
    rw [f_X8_back_l42] at h
    refine st_iload_n dX8_back_42 rfl rfl ?_
    refine st_aload_n dX8_back_43 rfl rfl ?_
    refine gR8 dX8_back_44 (by decide) rfl 5 (by decide) fl_RX8_19 rfl 64 rfl ?_
    refine st_iconst dX8_back_47 (v := 3) rfl ?_
    obtain ⟨v7, e_v7, h⟩ := bnd h
    refine st_iald dX8_back_48 (by decide) rfl v7 e_v7 ?_
    refine st_ic_ge dX8_back_49 99 (by decide) (fun c12 => ?_) (fun c12 => ?_)
    · replace h := (if_pos c12).symm.trans h
      obtain rfl := Option.some.inj h
      exact st_sub [.ref 60, .null, .int x2, .null] ⟨Or.inr rfl, Or.inl rfl, Or.inr rfl, Or.inl rfl, trivial⟩ k1
    · replace h := (if_neg c12).symm.trans h
      refine st_aload_n dX8_back_52 rfl rfl ?_
      refine gR8 dX8_back_53 (by decide) rfl 5 (by decide) fl_RX8_19 rfl 64 rfl ?_
      refine st_iload_n dX8_back_56 rfl rfl ?_
      refine st_aload_n dX8_back_57 rfl rfl ?_
      refine gR8 dX8_back_58 (by decide) rfl 5 (by decide) fl_RX8_19 rfl 64 rfl ?_
      refine st_iload_n dX8_back_61 rfl rfl ?_
      refine st_iconst dX8_back_62 (v := 1) rfl ?_
      refine st_iadd dX8_back_63 ?_
      refine st_iconst dX8_back_64 (v := 0) rfl ?_
      obtain ⟨v8, e_v8, h⟩ := bnd h
      refine st_callS [.ref 64, .int (x3 + 1), .int 0] dX8_back_65 co_X8_of sm_X8_of ml_RX8_183 rfl (S := [.int x3, .ref 64]) rfl (Nat.le_of_ble_eq_true rfl) (k_X8_of (by omega) RC64 (x3 + 1) 0 H _ e_v8 ?_)
      show V (D + 1) RX8 mdX8_back 68 [.ref 60, .null, .int x2, .int x3] [.int v8, .int x3, .ref 64] H post
      refine st_aload_n dX8_back_68 rfl rfl ?_
      refine gR8 dX8_back_69 (by decide) rfl 5 (by decide) fl_RX8_19 rfl 64 rfl ?_
      refine st_iload_n dX8_back_72 rfl rfl ?_
      refine st_iconst dX8_back_73 (v := 1) rfl ?_
      refine st_iadd dX8_back_74 ?_
      refine st_iconst dX8_back_75 (v := 1) rfl ?_
      obtain ⟨v9, e_v9, h⟩ := bnd h
      refine st_callS [.ref 64, .int (x3 + 1), .int 1] dX8_back_76 co_X8_of sm_X8_of ml_RX8_183 rfl (S := [.int v8, .int x3, .ref 64]) rfl (Nat.le_of_ble_eq_true rfl) (k_X8_of (by omega) RC64 (x3 + 1) 1 H _ e_v9 ?_)
      show V (D + 1) RX8 mdX8_back 79 [.ref 60, .null, .int x2, .int x3] [.int v9, .int v8, .int x3, .ref 64] H post
      refine st_aload_n dX8_back_79 rfl rfl ?_
      refine gR8 dX8_back_80 (by decide) rfl 5 (by decide) fl_RX8_19 rfl 64 rfl ?_
      refine st_iload_n dX8_back_83 rfl rfl ?_
      refine st_iconst dX8_back_84 (v := 1) rfl ?_
      refine st_iadd dX8_back_85 ?_
      refine st_iconst dX8_back_86 (v := 2) rfl ?_
      obtain ⟨v10, e_v10, h⟩ := bnd h
      refine st_callS [.ref 64, .int (x3 + 1), .int 2] dX8_back_87 co_X8_of sm_X8_of ml_RX8_183 rfl (S := [.int v9, .int v8, .int x3, .ref 64]) rfl (Nat.le_of_ble_eq_true rfl) (k_X8_of (by omega) RC64 (x3 + 1) 2 H _ e_v10 ?_)
      show V (D + 1) RX8 mdX8_back 90 [.ref 60, .null, .int x2, .int x3] [.int v10, .int v9, .int v8, .int x3, .ref 64] H post
      obtain ⟨H11, e_H11, h⟩ := bnd h
      refine st_callS [.ref 64, .int x3, .int v8, .int v9, .int v10] dX8_back_90 co_X8_lay sm_X8_lay ml_RX8_179 rfl (S := []) rfl (Nat.le_of_ble_eq_true rfl) (k_X8_lay (by omega) RC64 x3 v8 v9 v10 H _ e_H11 ?_)
      show V (D + 1) RX8 mdX8_back 93 [.ref 60, .null, .int x2, .int x3] [] H11 post
      refine st_iinc dX8_back_93 rfl (v := (x3 + 1)) rfl (by decide) [.ref 60, .null, .int x2, .int (x3 + 1)] rfl ?_
      refine st_goto dX8_back_96 42 (by decide) ?_
      exact ih (x3 + 1) H11 q h k1
set_option maxHeartbeats 4000000 in
set_option maxRecDepth 100000 in
theorem k_X8_back {D : Nat} (hD : 2 ≤ D) (x1 : Int32) (H : Hp) (q : Int32 × Hp) (h : f_X8_back x1 H = some q) {post : Option Value → Hp → Prop} (hp : post (some (.int q.1)) q.2) : Sem D mdX8_back [.ref 60, .int x1] H post := by
  obtain ⟨D, rfl⟩ : ∃ E, D = E + 1 := ⟨D - 1, by omega⟩
  refine sem_of (own := RX8) rfl pn_RX8 (Nat.le_of_ble_eq_true rfl) [.ref 60, .int x1, .null, .null] ⟨Or.inr rfl, Or.inr rfl, rfl, rfl, trivial⟩ ?_
  unfold f_X8_back at h
  refine st_aload_n dX8_back_0 rfl rfl ?_
  refine st_iconst dX8_back_1 (v := 0) rfl ?_
  obtain ⟨H1, e_H1, h⟩ := bnd h
  refine pI8 dX8_back_2 (by decide) rfl 0 (by decide) fl_RX8_62 rfl rfl rfl rfl e_H1 ?_
  refine st_aload_n dX8_back_5 rfl rfl ?_
  refine st_iload_n dX8_back_6 rfl rfl ?_
  obtain ⟨v2, e_v2, h⟩ := bnd h
  refine st_callV [.int x1] dX8_back_7 co_X8_isGiftAt im_X8_isGiftAt se_X8_isGiftAt ml_RX8_250 rfl (by decide) rfl (rfl : classes[8]? = some (RX8, TX8, 30)) rfl (S := []) rfl (Nat.le_of_ble_eq_true rfl) (k_X8_isGiftAt (by omega) x1 H1 _ e_v2 ?_)
  show V (D + 1) RX8 mdX8_back 10 [.ref 60, .int x1, .null, .null] [.int v2] H1 post
  refine st_if_ne dX8_back_10 16 (by decide) (fun c16 => ?_) (fun c16 => ?_)
  · replace h := (if_neg c16).symm.trans h
    refine st_aload_n dX8_back_16 rfl rfl ?_
    obtain ⟨H3, e_H3, h⟩ := bnd h
    refine st_callV [] dX8_back_17 co_X8_keep im_X8_keep se_X8_keep ml_RX8_247 rfl (by decide) rfl (rfl : classes[8]? = some (RX8, TX8, 30)) rfl (S := []) rfl (Nat.le_of_ble_eq_true rfl) (k_X8_keep (by omega) H1 _ e_H3 ?_)
    show V (D + 1) RX8 mdX8_back 20 [.ref 60, .int x1, .null, .null] [] H3 post
    refine st_aload_n dX8_back_20 rfl rfl ?_
    refine gR8 dX8_back_21 (by decide) rfl 5 (by decide) fl_RX8_19 rfl 64 rfl ?_
    refine st_iload_n dX8_back_24 rfl rfl ?_
    refine st_iconst dX8_back_25 (v := 2) rfl ?_
    obtain ⟨v4, e_v4, h⟩ := bnd h
    refine st_callS [.ref 64, .int x1, .int 2] dX8_back_26 co_X8_of sm_X8_of ml_RX8_183 rfl (S := []) rfl (Nat.le_of_ble_eq_true rfl) (k_X8_of (by omega) RC64 x1 2 H3 _ e_v4 ?_)
    show V (D + 1) RX8 mdX8_back 29 [.ref 60, .int x1, .null, .null] [.int v4] H3 post
    refine st_istore_n dX8_back_29 rfl (by decide) [.ref 60, .int x1, .int v4, .null] rfl ?_
    refine st_aload_n dX8_back_30 rfl rfl ?_
    refine gR8 dX8_back_31 (by decide) rfl 5 (by decide) fl_RX8_19 rfl 64 rfl ?_
    refine st_iconst dX8_back_34 (v := 3) rfl ?_
    refine st_dup2 dX8_back_35 rfl rfl ?_
    obtain ⟨v5, e_v5, h⟩ := bnd h
    refine st_iald dX8_back_36 (by decide) rfl v5 e_v5 ?_
    refine st_iconst dX8_back_37 (v := 1) rfl ?_
    refine st_isub dX8_back_38 ?_
    obtain ⟨H6, e_H6, h⟩ := bnd h
    refine st_iast dX8_back_39 (by decide) rfl H6 e_H6 ?_
    refine st_iload_n dX8_back_40 rfl rfl ?_
    refine st_istore_n dX8_back_41 rfl (by decide) [.ref 60, .int x1, .int v4, .int x1] rfl ?_
    refine st_sub [.ref 60, .null, .int v4, .int x1] ⟨Or.inr rfl, Or.inl rfl, Or.inr rfl, Or.inr rfl, trivial⟩ ?_
    obtain ⟨l13, e_l13, h⟩ := bnd h
    refine k_X8_back_l42 (by omega) v4 fuel x1 H6 _ e_l13 ?_
    refine st_aload_n dX8_back_99 rfl rfl ?_
    refine gR8 dX8_back_100 (by decide) rfl 5 (by decide) fl_RX8_19 rfl 64 rfl ?_
    refine st_aload_n dX8_back_103 rfl rfl ?_
    refine gR8 dX8_back_104 (by decide) rfl 5 (by decide) fl_RX8_19 rfl 64 rfl ?_
    refine st_iconst dX8_back_107 (v := 3) rfl ?_
    obtain ⟨v14, e_v14, h⟩ := bnd h
    refine st_iald dX8_back_108 (by decide) rfl v14 e_v14 ?_
    refine st_iconst dX8_back_109 (v := 0) rfl ?_
    refine st_iconst dX8_back_110 (v := 0) rfl ?_
    refine st_iconst dX8_back_111 (v := 0) rfl ?_
    obtain ⟨H15, e_H15, h⟩ := bnd h
    refine st_callS [.ref 64, .int v14, .int 0, .int 0, .int 0] dX8_back_112 co_X8_lay sm_X8_lay ml_RX8_179 rfl (S := []) rfl (Nat.le_of_ble_eq_true rfl) (k_X8_lay (by omega) RC64 v14 0 0 0 l13 _ e_H15 ?_)
    show V (D + 1) RX8 mdX8_back 115 [.ref 60, .null, .int v4, .null] [] H15 post
    refine st_iload_n dX8_back_115 rfl rfl ?_
    obtain rfl := Option.some.inj h
    exact st_iret dX8_back_116 rfl hp
  · replace h := (if_pos c16).symm.trans h
    refine st_ldc dX8_back_13 cn_RX8_82 ?_
    obtain rfl := Option.some.inj h
    exact st_iret dX8_back_15 rfl hp
def f_X8_pot (x1 : Int32) (H : Hp) : Option (Int32 × Hp) :=
  (pf H 60 0 0).bind fun H1 =>
  (f_X8_isThere H1).bind fun v2 =>
  if v2 = 0 then
    some ((-1000002), H1)
  else
    (f_X8_in x1.toInt64 0 999).bind fun v3 =>
    if v3 = 0 then
      some ((-1000001), H1)
    else
      (f_X8_keep H1).bind fun H4 =>
      (ag H4 64 80 1).bind fun v5 =>
      (as H4 64 80 1 x1).bind fun H6 =>
      some (v5, H6)
set_option maxHeartbeats 4000000 in
set_option maxRecDepth 100000 in
theorem k_X8_pot {D : Nat} (hD : 1 ≤ D) (x1 : Int32) (H : Hp) (q : Int32 × Hp) (h : f_X8_pot x1 H = some q) {post : Option Value → Hp → Prop} (hp : post (some (.int q.1)) q.2) : Sem D mdX8_pot [.ref 60, .int x1] H post := by
  obtain ⟨D, rfl⟩ : ∃ E, D = E + 1 := ⟨D - 1, by omega⟩
  refine sem_of (own := RX8) rfl pn_RX8 (Nat.le_of_ble_eq_true rfl) [.ref 60, .int x1, .null] ⟨Or.inr rfl, Or.inr rfl, rfl, trivial⟩ ?_
  unfold f_X8_pot at h
  refine st_aload_n dX8_pot_0 rfl rfl ?_
  refine st_iconst dX8_pot_1 (v := 0) rfl ?_
  obtain ⟨H1, e_H1, h⟩ := bnd h
  refine pI8 dX8_pot_2 (by decide) rfl 0 (by decide) fl_RX8_62 rfl rfl rfl rfl e_H1 ?_
  refine st_aload_n dX8_pot_5 rfl rfl ?_
  obtain ⟨v2, e_v2, h⟩ := bnd h
  refine st_callV [] dX8_pot_6 co_X8_isThere im_X8_isThere se_X8_isThere ml_RX8_174 rfl (by decide) rfl (rfl : classes[8]? = some (RX8, TX8, 30)) rfl (S := []) rfl (Nat.le_of_ble_eq_true rfl) (k_X8_isThere (by omega) H1 _ e_v2 ?_)
  show V (D + 1) RX8 mdX8_pot 9 [.ref 60, .int x1, .null] [.int v2] H1 post
  refine st_if_ne dX8_pot_9 15 (by decide) (fun c7 => ?_) (fun c7 => ?_)
  · replace h := (if_neg c7).symm.trans h
    refine st_iload_n dX8_pot_15 rfl rfl ?_
    refine st_i2l dX8_pot_16 ?_
    refine st_lconst dX8_pot_17 (v := 0) rfl ?_
    refine st_ldc2 dX8_pot_18 cl_RX8_254 ?_
    obtain ⟨v3, e_v3, h⟩ := bnd h
    refine st_callS [.long x1.toInt64, .long 0, .long 999] dX8_pot_21 co_X8_in sm_X8_in ml_RX8_72 rfl (S := []) rfl (Nat.le_of_ble_eq_true rfl) (k_X8_in (by omega) x1.toInt64 0 999 H1 _ e_v3 ?_)
    show V (D + 1) RX8 mdX8_pot 24 [.ref 60, .int x1, .null] [.int v3] H1 post
    refine st_if_ne dX8_pot_24 30 (by decide) (fun c8 => ?_) (fun c8 => ?_)
    · replace h := (if_neg c8).symm.trans h
      refine st_aload_n dX8_pot_30 rfl rfl ?_
      obtain ⟨H4, e_H4, h⟩ := bnd h
      refine st_callV [] dX8_pot_31 co_X8_keep im_X8_keep se_X8_keep ml_RX8_247 rfl (by decide) rfl (rfl : classes[8]? = some (RX8, TX8, 30)) rfl (S := []) rfl (Nat.le_of_ble_eq_true rfl) (k_X8_keep (by omega) H1 _ e_H4 ?_)
      show V (D + 1) RX8 mdX8_pot 34 [.ref 60, .int x1, .null] [] H4 post
      refine st_aload_n dX8_pot_34 rfl rfl ?_
      refine gR8 dX8_pot_35 (by decide) rfl 5 (by decide) fl_RX8_19 rfl 64 rfl ?_
      refine st_iconst dX8_pot_38 (v := 1) rfl ?_
      obtain ⟨v5, e_v5, h⟩ := bnd h
      refine st_iald dX8_pot_39 (by decide) rfl v5 e_v5 ?_
      refine st_istore_n dX8_pot_40 rfl (by decide) [.ref 60, .int x1, .int v5] rfl ?_
      refine st_aload_n dX8_pot_41 rfl rfl ?_
      refine gR8 dX8_pot_42 (by decide) rfl 5 (by decide) fl_RX8_19 rfl 64 rfl ?_
      refine st_iconst dX8_pot_45 (v := 1) rfl ?_
      refine st_iload_n dX8_pot_46 rfl rfl ?_
      obtain ⟨H6, e_H6, h⟩ := bnd h
      refine st_iast dX8_pot_47 (by decide) rfl H6 e_H6 ?_
      refine st_iload_n dX8_pot_48 rfl rfl ?_
      obtain rfl := Option.some.inj h
      exact st_iret dX8_pot_49 rfl hp
    · replace h := (if_pos c8).symm.trans h
      refine st_ldc dX8_pot_27 cn_RX8_82 ?_
      obtain rfl := Option.some.inj h
      exact st_iret dX8_pot_29 rfl hp
  · replace h := (if_pos c7).symm.trans h
    refine st_ldc dX8_pot_12 cn_RX8_253 ?_
    obtain rfl := Option.some.inj h
    exact st_iret dX8_pot_14 rfl hp
def f_X8_become (x1 : Int32) (x2 : Int32) (H : Hp) : Option (Int32 × Hp) :=
  (pf H 60 0 0).bind fun H1 =>
  (f_X8_isProject x1 H1).bind fun v2 =>
  if v2 = 0 then
    some ((-1000001), H1)
  else
    (f_X8_in x2.toInt64 1 5).bind fun v3 =>
    if v3 = 0 then
      some ((-1000001), H1)
    else
      (ag H1 64 80 (4 + x1)).bind fun v4 =>
      if v4 = x2 then
        some ((-1000002), H1)
      else
        (f_X8_keep H1).bind fun H5 =>
        (as H5 64 80 (4 + x1) x2).bind fun H6 =>
        some (v4, H6)
set_option maxHeartbeats 4000000 in
set_option maxRecDepth 100000 in
theorem k_X8_become {D : Nat} (hD : 2 ≤ D) (x1 : Int32) (x2 : Int32) (H : Hp) (q : Int32 × Hp) (h : f_X8_become x1 x2 H = some q) {post : Option Value → Hp → Prop} (hp : post (some (.int q.1)) q.2) : Sem D mdX8_become [.ref 60, .int x1, .int x2] H post := by
  obtain ⟨D, rfl⟩ : ∃ E, D = E + 1 := ⟨D - 1, by omega⟩
  refine sem_of (own := RX8) rfl pn_RX8 (Nat.le_of_ble_eq_true rfl) [.ref 60, .int x1, .int x2, .null] ⟨Or.inr rfl, Or.inr rfl, Or.inr rfl, rfl, trivial⟩ ?_
  unfold f_X8_become at h
  refine st_aload_n dX8_become_0 rfl rfl ?_
  refine st_iconst dX8_become_1 (v := 0) rfl ?_
  obtain ⟨H1, e_H1, h⟩ := bnd h
  refine pI8 dX8_become_2 (by decide) rfl 0 (by decide) fl_RX8_62 rfl rfl rfl rfl e_H1 ?_
  refine st_aload_n dX8_become_5 rfl rfl ?_
  refine st_iload_n dX8_become_6 rfl rfl ?_
  obtain ⟨v2, e_v2, h⟩ := bnd h
  refine st_callV [.int x1] dX8_become_7 co_X8_isProject im_X8_isProject se_X8_isProject ml_RX8_238 rfl (by decide) rfl (rfl : classes[8]? = some (RX8, TX8, 30)) rfl (S := []) rfl (Nat.le_of_ble_eq_true rfl) (k_X8_isProject (by omega) x1 H1 _ e_v2 ?_)
  show V (D + 1) RX8 mdX8_become 10 [.ref 60, .int x1, .int x2, .null] [.int v2] H1 post
  refine st_if_eq dX8_become_10 25 (by decide) (fun c7 => ?_) (fun c7 => ?_)
  · replace h := (if_pos c7).symm.trans h
    refine st_ldc dX8_become_25 cn_RX8_82 ?_
    obtain rfl := Option.some.inj h
    exact st_iret dX8_become_27 rfl hp
  · replace h := (if_neg c7).symm.trans h
    refine st_iload_n dX8_become_13 rfl rfl ?_
    refine st_i2l dX8_become_14 ?_
    refine st_lconst dX8_become_15 (v := 1) rfl ?_
    refine st_ldc2 dX8_become_16 cl_RX8_256 ?_
    obtain ⟨v3, e_v3, h⟩ := bnd h
    refine st_callS [.long x2.toInt64, .long 1, .long 5] dX8_become_19 co_X8_in sm_X8_in ml_RX8_72 rfl (S := []) rfl (Nat.le_of_ble_eq_true rfl) (k_X8_in (by omega) x2.toInt64 1 5 H1 _ e_v3 ?_)
    show V (D + 1) RX8 mdX8_become 22 [.ref 60, .int x1, .int x2, .null] [.int v3] H1 post
    refine st_if_ne dX8_become_22 28 (by decide) (fun c8 => ?_) (fun c8 => ?_)
    · replace h := (if_neg c8).symm.trans h
      refine st_aload_n dX8_become_28 rfl rfl ?_
      refine gR8 dX8_become_29 (by decide) rfl 5 (by decide) fl_RX8_19 rfl 64 rfl ?_
      refine st_iconst dX8_become_32 (v := 4) rfl ?_
      refine st_iload_n dX8_become_33 rfl rfl ?_
      refine st_iadd dX8_become_34 ?_
      obtain ⟨v4, e_v4, h⟩ := bnd h
      refine st_iald dX8_become_35 (by decide) rfl v4 e_v4 ?_
      refine st_istore_n dX8_become_36 rfl (by decide) [.ref 60, .int x1, .int x2, .int v4] rfl ?_
      refine st_iload_n dX8_become_37 rfl rfl ?_
      refine st_iload_n dX8_become_38 rfl rfl ?_
      refine st_ic_ne dX8_become_39 45 (by decide) (fun c9 => ?_) (fun c9 => ?_)
      · replace h := (if_neg c9).symm.trans h
        refine st_aload_n dX8_become_45 rfl rfl ?_
        obtain ⟨H5, e_H5, h⟩ := bnd h
        refine st_callV [] dX8_become_46 co_X8_keep im_X8_keep se_X8_keep ml_RX8_247 rfl (by decide) rfl (rfl : classes[8]? = some (RX8, TX8, 30)) rfl (S := []) rfl (Nat.le_of_ble_eq_true rfl) (k_X8_keep (by omega) H1 _ e_H5 ?_)
        show V (D + 1) RX8 mdX8_become 49 [.ref 60, .int x1, .int x2, .int v4] [] H5 post
        refine st_aload_n dX8_become_49 rfl rfl ?_
        refine gR8 dX8_become_50 (by decide) rfl 5 (by decide) fl_RX8_19 rfl 64 rfl ?_
        refine st_iconst dX8_become_53 (v := 4) rfl ?_
        refine st_iload_n dX8_become_54 rfl rfl ?_
        refine st_iadd dX8_become_55 ?_
        refine st_iload_n dX8_become_56 rfl rfl ?_
        obtain ⟨H6, e_H6, h⟩ := bnd h
        refine st_iast dX8_become_57 (by decide) rfl H6 e_H6 ?_
        refine st_iload_n dX8_become_58 rfl rfl ?_
        obtain rfl := Option.some.inj h
        exact st_iret dX8_become_59 rfl hp
      · replace h := (if_pos c9).symm.trans h
        refine st_ldc dX8_become_42 cn_RX8_253 ?_
        obtain rfl := Option.some.inj h
        exact st_iret dX8_become_44 rfl hp
    · replace h := (if_pos c8).symm.trans h
      refine st_ldc dX8_become_25 cn_RX8_82 ?_
      obtain rfl := Option.some.inj h
      exact st_iret dX8_become_27 rfl hp
def f_X8_one_l84 (x3 : Int32) (x4 : Int32) : Nat → Int32 → Hp → Option (Hp)
  | 0, _, _ => none
  | n + 1, x5, H =>
    if 10 ≤ x5 then
      some H
    else
      (ag H 64 80 (70 + x5)).bind fun v8 =>
      Option.bind (
        if v8 = x3 then
          some x4
        else
          (ag H 64 80 (70 + x5)).bind fun v9 =>
          some v9) fun j10 =>
      (as H 64 80 (70 + x5) j10).bind fun H11 =>
      f_X8_one_l84 x3 x4 n (x5 + 1) H11
def f_X8_one (x1 : Int32) (x2 : Int32) (H : Hp) : Option (Int32 × Hp) :=
  (pf H 60 0 0).bind fun H1 =>
  (f_X8_isThere H1).bind fun v2 =>
  if v2 = 0 then
    some ((-1000002), H1)
  else
    (f_X8_in x1.toInt64 0 9).bind fun v3 =>
    if v3 = 0 then
      some ((-1000001), H1)
    else
      (f_X8_in x2.toInt64 0 9).bind fun v4 =>
      if v4 = 0 then
        some ((-1000001), H1)
      else
        if x1 = x2 then
          some ((-1000001), H1)
        else
          (ag H1 64 80 (70 + x1)).bind fun v5 =>
          (ag H1 64 80 (70 + x2)).bind fun v6 =>
          if v5 = v6 then
            some ((-1000002), H1)
          else
            (f_X8_keep H1).bind fun H7 =>
            (f_X8_one_l84 v5 v6 fuel 0 H7).bind fun l15 =>
            some (v6, l15)
set_option maxHeartbeats 4000000 in
set_option maxRecDepth 100000 in
theorem k_X8_one_l84 {D : Nat} (hD : 1 ≤ (D + 1)) (x3 : Int32) (x4 : Int32) {post : Option Value → Hp → Prop} : ∀ (n : Nat) (x5 : Int32) (H : Hp) (q : Hp), f_X8_one_l84 x3 x4 n x5 H = some q → V (D + 1) RX8 mdX8_one 136 [.null, .null, .null, .null, .int x4, .null] [] q post → V (D + 1) RX8 mdX8_one 84 [.ref 60, .null, .null, .int x3, .int x4, .int x5] [] H post := by
  intro n
  induction n with
  | zero => intro x5 H q h; simp [f_X8_one_l84] at h
  | succ n ih =>
    intro x5 H q h k1
    rw [f_X8_one_l84] at h
    refine st_iload dX8_one_84 rfl ?_
    refine st_bipush dX8_one_86 (v := 10) (by decide) ?_
    refine st_ic_ge dX8_one_88 136 (by decide) (fun c12 => ?_) (fun c12 => ?_)
    · replace h := (if_pos c12).symm.trans h
      obtain rfl := Option.some.inj h
      exact st_sub [.null, .null, .null, .null, .int x4, .null] ⟨Or.inl rfl, Or.inl rfl, Or.inl rfl, Or.inl rfl, Or.inr rfl, Or.inl rfl, trivial⟩ k1
    · replace h := (if_neg c12).symm.trans h
      refine st_aload_n dX8_one_91 rfl rfl ?_
      refine gR8 dX8_one_92 (by decide) rfl 5 (by decide) fl_RX8_19 rfl 64 rfl ?_
      refine st_bipush dX8_one_95 (v := 70) (by decide) ?_
      refine st_iload dX8_one_97 rfl ?_
      refine st_iadd dX8_one_99 ?_
      refine st_aload_n dX8_one_100 rfl rfl ?_
      refine gR8 dX8_one_101 (by decide) rfl 5 (by decide) fl_RX8_19 rfl 64 rfl ?_
      refine st_bipush dX8_one_104 (v := 70) (by decide) ?_
      refine st_iload dX8_one_106 rfl ?_
      refine st_iadd dX8_one_108 ?_
      obtain ⟨v8, e_v8, h⟩ := bnd h
      refine st_iald dX8_one_109 (by decide) rfl v8 e_v8 ?_
      refine st_iload_n dX8_one_110 rfl rfl ?_
      obtain ⟨j10, e_j10, h⟩ := bnd h
      have kj13 : V (D + 1) RX8 mdX8_one 129 [.ref 60, .null, .null, .int x3, .int x4, .int x5] [.int j10, .int (70 + x5), .ref 64] H post := by
        obtain ⟨H11, e_H11, h⟩ := bnd h
        refine st_iast dX8_one_129 (by decide) rfl H11 e_H11 ?_
        refine st_iinc dX8_one_130 rfl (v := (x5 + 1)) rfl (by decide) [.ref 60, .null, .null, .int x3, .int x4, .int (x5 + 1)] rfl ?_
        refine st_goto dX8_one_133 84 (by decide) ?_
        exact ih (x5 + 1) H11 q h k1
      refine st_ic_ne dX8_one_111 119 (by decide) (fun c14 => ?_) (fun c14 => ?_)
      · replace e_j10 := (if_neg c14).symm.trans e_j10
        refine st_aload_n dX8_one_119 rfl rfl ?_
        refine gR8 dX8_one_120 (by decide) rfl 5 (by decide) fl_RX8_19 rfl 64 rfl ?_
        refine st_bipush dX8_one_123 (v := 70) (by decide) ?_
        refine st_iload dX8_one_125 rfl ?_
        refine st_iadd dX8_one_127 ?_
        obtain ⟨v9, e_v9, e_j10⟩ := bnd e_j10
        refine st_iald dX8_one_128 (by decide) rfl v9 e_v9 ?_
        obtain rfl := Option.some.inj e_j10
        exact kj13
      · replace e_j10 := (if_pos c14).symm.trans e_j10
        refine st_iload dX8_one_114 rfl ?_
        refine st_goto dX8_one_116 129 (by decide) ?_
        obtain rfl := Option.some.inj e_j10
        exact kj13
set_option maxHeartbeats 4000000 in
set_option maxRecDepth 100000 in
theorem k_X8_one {D : Nat} (hD : 1 ≤ D) (x1 : Int32) (x2 : Int32) (H : Hp) (q : Int32 × Hp) (h : f_X8_one x1 x2 H = some q) {post : Option Value → Hp → Prop} (hp : post (some (.int q.1)) q.2) : Sem D mdX8_one [.ref 60, .int x1, .int x2] H post := by
  obtain ⟨D, rfl⟩ : ∃ E, D = E + 1 := ⟨D - 1, by omega⟩
  refine sem_of (own := RX8) rfl pn_RX8 (Nat.le_of_ble_eq_true rfl) [.ref 60, .int x1, .int x2, .null, .null, .null] ⟨Or.inr rfl, Or.inr rfl, Or.inr rfl, rfl, rfl, rfl, trivial⟩ ?_
  unfold f_X8_one at h
  refine st_aload_n dX8_one_0 rfl rfl ?_
  refine st_iconst dX8_one_1 (v := 0) rfl ?_
  obtain ⟨H1, e_H1, h⟩ := bnd h
  refine pI8 dX8_one_2 (by decide) rfl 0 (by decide) fl_RX8_62 rfl rfl rfl rfl e_H1 ?_
  refine st_aload_n dX8_one_5 rfl rfl ?_
  obtain ⟨v2, e_v2, h⟩ := bnd h
  refine st_callV [] dX8_one_6 co_X8_isThere im_X8_isThere se_X8_isThere ml_RX8_174 rfl (by decide) rfl (rfl : classes[8]? = some (RX8, TX8, 30)) rfl (S := []) rfl (Nat.le_of_ble_eq_true rfl) (k_X8_isThere (by omega) H1 _ e_v2 ?_)
  show V (D + 1) RX8 mdX8_one 9 [.ref 60, .int x1, .int x2, .null, .null, .null] [.int v2] H1 post
  refine st_if_ne dX8_one_9 15 (by decide) (fun c16 => ?_) (fun c16 => ?_)
  · replace h := (if_neg c16).symm.trans h
    refine st_iload_n dX8_one_15 rfl rfl ?_
    refine st_i2l dX8_one_16 ?_
    refine st_lconst dX8_one_17 (v := 0) rfl ?_
    refine st_ldc2 dX8_one_18 cl_RX8_177 ?_
    obtain ⟨v3, e_v3, h⟩ := bnd h
    refine st_callS [.long x1.toInt64, .long 0, .long 9] dX8_one_21 co_X8_in sm_X8_in ml_RX8_72 rfl (S := []) rfl (Nat.le_of_ble_eq_true rfl) (k_X8_in (by omega) x1.toInt64 0 9 H1 _ e_v3 ?_)
    show V (D + 1) RX8 mdX8_one 24 [.ref 60, .int x1, .int x2, .null, .null, .null] [.int v3] H1 post
    refine st_if_eq dX8_one_24 44 (by decide) (fun c17 => ?_) (fun c17 => ?_)
    · replace h := (if_pos c17).symm.trans h
      refine st_ldc dX8_one_44 cn_RX8_82 ?_
      obtain rfl := Option.some.inj h
      exact st_iret dX8_one_46 rfl hp
    · replace h := (if_neg c17).symm.trans h
      refine st_iload_n dX8_one_27 rfl rfl ?_
      refine st_i2l dX8_one_28 ?_
      refine st_lconst dX8_one_29 (v := 0) rfl ?_
      refine st_ldc2 dX8_one_30 cl_RX8_177 ?_
      obtain ⟨v4, e_v4, h⟩ := bnd h
      refine st_callS [.long x2.toInt64, .long 0, .long 9] dX8_one_33 co_X8_in sm_X8_in ml_RX8_72 rfl (S := []) rfl (Nat.le_of_ble_eq_true rfl) (k_X8_in (by omega) x2.toInt64 0 9 H1 _ e_v4 ?_)
      show V (D + 1) RX8 mdX8_one 36 [.ref 60, .int x1, .int x2, .null, .null, .null] [.int v4] H1 post
      refine st_if_eq dX8_one_36 44 (by decide) (fun c18 => ?_) (fun c18 => ?_)
      · replace h := (if_pos c18).symm.trans h
        refine st_ldc dX8_one_44 cn_RX8_82 ?_
        obtain rfl := Option.some.inj h
        exact st_iret dX8_one_46 rfl hp
      · replace h := (if_neg c18).symm.trans h
        refine st_iload_n dX8_one_39 rfl rfl ?_
        refine st_iload_n dX8_one_40 rfl rfl ?_
        refine st_ic_ne dX8_one_41 47 (by decide) (fun c19 => ?_) (fun c19 => ?_)
        · replace h := (if_neg c19).symm.trans h
          refine st_aload_n dX8_one_47 rfl rfl ?_
          refine gR8 dX8_one_48 (by decide) rfl 5 (by decide) fl_RX8_19 rfl 64 rfl ?_
          refine st_bipush dX8_one_51 (v := 70) (by decide) ?_
          refine st_iload_n dX8_one_53 rfl rfl ?_
          refine st_iadd dX8_one_54 ?_
          obtain ⟨v5, e_v5, h⟩ := bnd h
          refine st_iald dX8_one_55 (by decide) rfl v5 e_v5 ?_
          refine st_istore_n dX8_one_56 rfl (by decide) [.ref 60, .int x1, .int x2, .int v5, .null, .null] rfl ?_
          refine st_aload_n dX8_one_57 rfl rfl ?_
          refine gR8 dX8_one_58 (by decide) rfl 5 (by decide) fl_RX8_19 rfl 64 rfl ?_
          refine st_bipush dX8_one_61 (v := 70) (by decide) ?_
          refine st_iload_n dX8_one_63 rfl rfl ?_
          refine st_iadd dX8_one_64 ?_
          obtain ⟨v6, e_v6, h⟩ := bnd h
          refine st_iald dX8_one_65 (by decide) rfl v6 e_v6 ?_
          refine st_istore dX8_one_66 (by decide) [.ref 60, .int x1, .int x2, .int v5, .int v6, .null] rfl ?_
          refine st_iload_n dX8_one_68 rfl rfl ?_
          refine st_iload dX8_one_69 rfl ?_
          refine st_ic_ne dX8_one_71 77 (by decide) (fun c20 => ?_) (fun c20 => ?_)
          · replace h := (if_neg c20).symm.trans h
            refine st_aload_n dX8_one_77 rfl rfl ?_
            obtain ⟨H7, e_H7, h⟩ := bnd h
            refine st_callV [] dX8_one_78 co_X8_keep im_X8_keep se_X8_keep ml_RX8_247 rfl (by decide) rfl (rfl : classes[8]? = some (RX8, TX8, 30)) rfl (S := []) rfl (Nat.le_of_ble_eq_true rfl) (k_X8_keep (by omega) H1 _ e_H7 ?_)
            show V (D + 1) RX8 mdX8_one 81 [.ref 60, .int x1, .int x2, .int v5, .int v6, .null] [] H7 post
            refine st_iconst dX8_one_81 (v := 0) rfl ?_
            refine st_istore dX8_one_82 (by decide) [.ref 60, .int x1, .int x2, .int v5, .int v6, .int 0] rfl ?_
            refine st_sub [.ref 60, .null, .null, .int v5, .int v6, .int 0] ⟨Or.inr rfl, Or.inl rfl, Or.inl rfl, Or.inr rfl, Or.inr rfl, Or.inr rfl, trivial⟩ ?_
            obtain ⟨l15, e_l15, h⟩ := bnd h
            refine k_X8_one_l84 (by omega) v5 v6 fuel 0 H7 _ e_l15 ?_
            refine st_iload dX8_one_136 rfl ?_
            obtain rfl := Option.some.inj h
            exact st_iret dX8_one_138 rfl hp
          · replace h := (if_pos c20).symm.trans h
            refine st_ldc dX8_one_74 cn_RX8_253 ?_
            obtain rfl := Option.some.inj h
            exact st_iret dX8_one_76 rfl hp
        · replace h := (if_pos c19).symm.trans h
          refine st_ldc dX8_one_44 cn_RX8_82 ?_
          obtain rfl := Option.some.inj h
          exact st_iret dX8_one_46 rfl hp
  · replace h := (if_pos c16).symm.trans h
    refine st_ldc dX8_one_12 cn_RX8_253 ?_
    obtain rfl := Option.some.inj h
    exact st_iret dX8_one_14 rfl hp
def f_X8_undo_l27 : Nat → Int32 → Hp → Option (Hp)
  | 0, _, _ => none
  | n + 1, x1, H =>
    if 80 ≤ x1 then
      some H
    else
      (ag H 67 1920 ((80 * (H 60 9)) + x1)).bind fun v3 =>
      (as H 64 80 x1 v3).bind fun H4 =>
      f_X8_undo_l27 n (x1 + 1) H4
def f_X8_undo (H : Hp) : Option (Int32 × Hp) :=
  (pf H 60 0 0).bind fun H1 =>
  if (H1 60 9) = 0 then
    some ((-1000002), H1)
  else
    (pf H1 60 9 ((H1 60 9) - 1)).bind fun H2 =>
    (f_X8_undo_l27 fuel 0 H2).bind fun l6 =>
    some ((l6 60 9), l6)
set_option maxHeartbeats 4000000 in
set_option maxRecDepth 100000 in
theorem k_X8_undo_l27 {D : Nat} (hD : 0 ≤ D) {post : Option Value → Hp → Prop} : ∀ (n : Nat) (x1 : Int32) (H : Hp) (q : Hp), f_X8_undo_l27 n x1 H = some q → V D RX8 mdX8_undo 59 [.ref 60, .null] [] q post → V D RX8 mdX8_undo 27 [.ref 60, .int x1] [] H post := by
  intro n
  induction n with
  | zero => intro x1 H q h; simp [f_X8_undo_l27] at h
  | succ n ih =>
    intro x1 H q h k1
    rw [f_X8_undo_l27] at h
    refine st_iload_n dX8_undo_27 rfl rfl ?_
    refine st_bipush dX8_undo_28 (v := 80) (by decide) ?_
    refine st_ic_ge dX8_undo_30 59 (by decide) (fun c5 => ?_) (fun c5 => ?_)
    · replace h := (if_pos c5).symm.trans h
      obtain rfl := Option.some.inj h
      exact st_sub [.ref 60, .null] ⟨Or.inr rfl, Or.inl rfl, trivial⟩ k1
    · replace h := (if_neg c5).symm.trans h
      refine st_aload_n dX8_undo_33 rfl rfl ?_
      refine gR8 dX8_undo_34 (by decide) rfl 5 (by decide) fl_RX8_19 rfl 64 rfl ?_
      refine st_iload_n dX8_undo_37 rfl rfl ?_
      refine st_aload_n dX8_undo_38 rfl rfl ?_
      refine gR8 dX8_undo_39 (by decide) rfl 8 (by decide) fl_RX8_28 rfl 67 rfl ?_
      refine st_bipush dX8_undo_42 (v := 80) (by decide) ?_
      refine st_aload_n dX8_undo_44 rfl rfl ?_
      refine gI8 dX8_undo_45 (by decide) rfl 9 (by decide) fl_RX8_171 rfl rfl ?_
      refine st_imul dX8_undo_48 ?_
      refine st_iload_n dX8_undo_49 rfl rfl ?_
      refine st_iadd dX8_undo_50 ?_
      obtain ⟨v3, e_v3, h⟩ := bnd h
      refine st_iald dX8_undo_51 (by decide) rfl v3 e_v3 ?_
      obtain ⟨H4, e_H4, h⟩ := bnd h
      refine st_iast dX8_undo_52 (by decide) rfl H4 e_H4 ?_
      refine st_iinc dX8_undo_53 rfl (v := (x1 + 1)) rfl (by decide) [.ref 60, .int (x1 + 1)] rfl ?_
      refine st_goto dX8_undo_56 27 (by decide) ?_
      exact ih (x1 + 1) H4 q h k1
set_option maxHeartbeats 4000000 in
set_option maxRecDepth 100000 in
theorem k_X8_undo {D : Nat} (hD : 0 ≤ D) (H : Hp) (q : Int32 × Hp) (h : f_X8_undo H = some q) {post : Option Value → Hp → Prop} (hp : post (some (.int q.1)) q.2) : Sem D mdX8_undo [.ref 60] H post := by
  refine sem_of (own := RX8) rfl pn_RX8 (Nat.le_of_ble_eq_true rfl) [.ref 60, .null] ⟨Or.inr rfl, rfl, trivial⟩ ?_
  unfold f_X8_undo at h
  refine st_aload_n dX8_undo_0 rfl rfl ?_
  refine st_iconst dX8_undo_1 (v := 0) rfl ?_
  obtain ⟨H1, e_H1, h⟩ := bnd h
  refine pI8 dX8_undo_2 (by decide) rfl 0 (by decide) fl_RX8_62 rfl rfl rfl rfl e_H1 ?_
  refine st_aload_n dX8_undo_5 rfl rfl ?_
  refine gI8 dX8_undo_6 (by decide) rfl 9 (by decide) fl_RX8_171 rfl rfl ?_
  refine st_if_ne dX8_undo_9 15 (by decide) (fun c7 => ?_) (fun c7 => ?_)
  · replace h := (if_neg c7).symm.trans h
    refine st_aload_n dX8_undo_15 rfl rfl ?_
    refine st_dup dX8_undo_16 rfl ?_
    refine gI8 dX8_undo_17 (by decide) rfl 9 (by decide) fl_RX8_171 rfl rfl ?_
    refine st_iconst dX8_undo_20 (v := 1) rfl ?_
    refine st_isub dX8_undo_21 ?_
    obtain ⟨H2, e_H2, h⟩ := bnd h
    refine pI8 dX8_undo_22 (by decide) rfl 9 (by decide) fl_RX8_171 rfl rfl rfl rfl e_H2 ?_
    refine st_iconst dX8_undo_25 (v := 0) rfl ?_
    refine st_istore_n dX8_undo_26 rfl (by decide) [.ref 60, .int 0] rfl ?_
    obtain ⟨l6, e_l6, h⟩ := bnd h
    refine k_X8_undo_l27 (by omega) fuel 0 H2 _ e_l6 ?_
    refine st_aload_n dX8_undo_59 rfl rfl ?_
    refine gI8 dX8_undo_60 (by decide) rfl 9 (by decide) fl_RX8_171 rfl rfl ?_
    obtain rfl := Option.some.inj h
    exact st_iret dX8_undo_63 rfl hp
  · replace h := (if_pos c7).symm.trans h
    refine st_ldc dX8_undo_12 cn_RX8_253 ?_
    obtain rfl := Option.some.inj h
    exact st_iret dX8_undo_14 rfl hp
def f_X8_gift (x1 : Int32) (x2 : Int32) (H : Hp) : Option (Int32 × Hp) :=
  (pf H 60 0 0).bind fun H1 =>
  (f_X8_isGiftAt x1 H1).bind fun v2 =>
  Option.bind (
    if v2 = 0 then
      some (-1000001)
    else
      (f_X8_in x2.toInt64 0 2).bind fun v3 =>
      if v3 = 0 then
        some (-1000001)
      else
        (f_X8_of 64 x1 x2 H1).bind fun v4 =>
        some v4) fun j5 =>
  some (j5, H1)
set_option maxHeartbeats 4000000 in
set_option maxRecDepth 100000 in
theorem k_X8_gift {D : Nat} (hD : 2 ≤ D) (x1 : Int32) (x2 : Int32) (H : Hp) (q : Int32 × Hp) (h : f_X8_gift x1 x2 H = some q) {post : Option Value → Hp → Prop} (hp : post (some (.int q.1)) q.2) : Sem D mdX8_gift [.ref 60, .int x1, .int x2] H post := by
  obtain ⟨D, rfl⟩ : ∃ E, D = E + 1 := ⟨D - 1, by omega⟩
  refine sem_of (own := RX8) rfl pn_RX8 (Nat.le_of_ble_eq_true rfl) [.ref 60, .int x1, .int x2] ⟨Or.inr rfl, Or.inr rfl, Or.inr rfl, trivial⟩ ?_
  unfold f_X8_gift at h
  refine st_aload_n dX8_gift_0 rfl rfl ?_
  refine st_iconst dX8_gift_1 (v := 0) rfl ?_
  obtain ⟨H1, e_H1, h⟩ := bnd h
  refine pI8 dX8_gift_2 (by decide) rfl 0 (by decide) fl_RX8_62 rfl rfl rfl rfl e_H1 ?_
  refine st_aload_n dX8_gift_5 rfl rfl ?_
  refine st_iload_n dX8_gift_6 rfl rfl ?_
  obtain ⟨v2, e_v2, h⟩ := bnd h
  refine st_callV [.int x1] dX8_gift_7 co_X8_isGiftAt im_X8_isGiftAt se_X8_isGiftAt ml_RX8_250 rfl (by decide) rfl (rfl : classes[8]? = some (RX8, TX8, 30)) rfl (S := []) rfl (Nat.le_of_ble_eq_true rfl) (k_X8_isGiftAt (by omega) x1 H1 _ e_v2 ?_)
  show V (D + 1) RX8 mdX8_gift 10 [.ref 60, .int x1, .int x2] [.int v2] H1 post
  obtain ⟨j5, e_j5, h⟩ := bnd h
  have kj6 : V (D + 1) RX8 mdX8_gift 39 [.null, .null, .null] [.int j5] H1 post := by
    obtain rfl := Option.some.inj h
    exact st_iret dX8_gift_39 rfl hp
  refine st_if_eq dX8_gift_10 37 (by decide) (fun c7 => ?_) (fun c7 => ?_)
  · replace e_j5 := (if_pos c7).symm.trans e_j5
    refine st_ldc dX8_gift_37 cn_RX8_82 ?_
    obtain rfl := Option.some.inj e_j5
    exact st_sub [.null, .null, .null] ⟨Or.inl rfl, Or.inl rfl, Or.inl rfl, trivial⟩ kj6
  · replace e_j5 := (if_neg c7).symm.trans e_j5
    refine st_iload_n dX8_gift_13 rfl rfl ?_
    refine st_i2l dX8_gift_14 ?_
    refine st_lconst dX8_gift_15 (v := 0) rfl ?_
    refine st_ldc2 dX8_gift_16 cl_RX8_80 ?_
    obtain ⟨v3, e_v3, e_j5⟩ := bnd e_j5
    refine st_callS [.long x2.toInt64, .long 0, .long 2] dX8_gift_19 co_X8_in sm_X8_in ml_RX8_72 rfl (S := []) rfl (Nat.le_of_ble_eq_true rfl) (k_X8_in (by omega) x2.toInt64 0 2 H1 _ e_v3 ?_)
    show V (D + 1) RX8 mdX8_gift 22 [.ref 60, .int x1, .int x2] [.int v3] H1 post
    refine st_if_eq dX8_gift_22 37 (by decide) (fun c8 => ?_) (fun c8 => ?_)
    · replace e_j5 := (if_pos c8).symm.trans e_j5
      refine st_ldc dX8_gift_37 cn_RX8_82 ?_
      obtain rfl := Option.some.inj e_j5
      exact st_sub [.null, .null, .null] ⟨Or.inl rfl, Or.inl rfl, Or.inl rfl, trivial⟩ kj6
    · replace e_j5 := (if_neg c8).symm.trans e_j5
      refine st_aload_n dX8_gift_25 rfl rfl ?_
      refine gR8 dX8_gift_26 (by decide) rfl 5 (by decide) fl_RX8_19 rfl 64 rfl ?_
      refine st_iload_n dX8_gift_29 rfl rfl ?_
      refine st_iload_n dX8_gift_30 rfl rfl ?_
      obtain ⟨v4, e_v4, e_j5⟩ := bnd e_j5
      refine st_callS [.ref 64, .int x1, .int x2] dX8_gift_31 co_X8_of sm_X8_of ml_RX8_183 rfl (S := []) rfl (Nat.le_of_ble_eq_true rfl) (k_X8_of (by omega) RC64 x1 x2 H1 _ e_v4 ?_)
      show V (D + 1) RX8 mdX8_gift 34 [.ref 60, .int x1, .int x2] [.int v4] H1 post
      refine st_goto dX8_gift_34 39 (by decide) ?_
      obtain rfl := Option.some.inj e_j5
      exact st_sub [.null, .null, .null] ⟨Or.inl rfl, Or.inl rfl, Or.inl rfl, trivial⟩ kj6
def f_X8_nameOf (x1 : Int32) (H : Hp) : Option (Int32 × Hp) :=
  (pf H 60 0 0).bind fun H1 =>
  (f_X8_isThere H1).bind fun v2 =>
  if v2 = 0 then
    some ((-1000002), H1)
  else
    (f_X8_in x1.toInt64 0 9).bind fun v3 =>
    Option.bind (
      if v3 = 0 then
        some (-1000001)
      else
        (ag H1 64 80 (70 + x1)).bind fun v4 =>
        some v4) fun j5 =>
    some (j5, H1)
set_option maxHeartbeats 4000000 in
set_option maxRecDepth 100000 in
theorem k_X8_nameOf {D : Nat} (hD : 1 ≤ D) (x1 : Int32) (H : Hp) (q : Int32 × Hp) (h : f_X8_nameOf x1 H = some q) {post : Option Value → Hp → Prop} (hp : post (some (.int q.1)) q.2) : Sem D mdX8_nameOf [.ref 60, .int x1] H post := by
  obtain ⟨D, rfl⟩ : ∃ E, D = E + 1 := ⟨D - 1, by omega⟩
  refine sem_of (own := RX8) rfl pn_RX8 (Nat.le_of_ble_eq_true rfl) [.ref 60, .int x1] ⟨Or.inr rfl, Or.inr rfl, trivial⟩ ?_
  unfold f_X8_nameOf at h
  refine st_aload_n dX8_nameOf_0 rfl rfl ?_
  refine st_iconst dX8_nameOf_1 (v := 0) rfl ?_
  obtain ⟨H1, e_H1, h⟩ := bnd h
  refine pI8 dX8_nameOf_2 (by decide) rfl 0 (by decide) fl_RX8_62 rfl rfl rfl rfl e_H1 ?_
  refine st_aload_n dX8_nameOf_5 rfl rfl ?_
  obtain ⟨v2, e_v2, h⟩ := bnd h
  refine st_callV [] dX8_nameOf_6 co_X8_isThere im_X8_isThere se_X8_isThere ml_RX8_174 rfl (by decide) rfl (rfl : classes[8]? = some (RX8, TX8, 30)) rfl (S := []) rfl (Nat.le_of_ble_eq_true rfl) (k_X8_isThere (by omega) H1 _ e_v2 ?_)
  show V (D + 1) RX8 mdX8_nameOf 9 [.ref 60, .int x1] [.int v2] H1 post
  refine st_if_ne dX8_nameOf_9 15 (by decide) (fun c6 => ?_) (fun c6 => ?_)
  · replace h := (if_neg c6).symm.trans h
    refine st_iload_n dX8_nameOf_15 rfl rfl ?_
    refine st_i2l dX8_nameOf_16 ?_
    refine st_lconst dX8_nameOf_17 (v := 0) rfl ?_
    refine st_ldc2 dX8_nameOf_18 cl_RX8_177 ?_
    obtain ⟨v3, e_v3, h⟩ := bnd h
    refine st_callS [.long x1.toInt64, .long 0, .long 9] dX8_nameOf_21 co_X8_in sm_X8_in ml_RX8_72 rfl (S := []) rfl (Nat.le_of_ble_eq_true rfl) (k_X8_in (by omega) x1.toInt64 0 9 H1 _ e_v3 ?_)
    show V (D + 1) RX8 mdX8_nameOf 24 [.ref 60, .int x1] [.int v3] H1 post
    obtain ⟨j5, e_j5, h⟩ := bnd h
    have kj7 : V (D + 1) RX8 mdX8_nameOf 41 [.null, .null] [.int j5] H1 post := by
      obtain rfl := Option.some.inj h
      exact st_iret dX8_nameOf_41 rfl hp
    refine st_if_eq dX8_nameOf_24 39 (by decide) (fun c8 => ?_) (fun c8 => ?_)
    · replace e_j5 := (if_pos c8).symm.trans e_j5
      refine st_ldc dX8_nameOf_39 cn_RX8_82 ?_
      obtain rfl := Option.some.inj e_j5
      exact st_sub [.null, .null] ⟨Or.inl rfl, Or.inl rfl, trivial⟩ kj7
    · replace e_j5 := (if_neg c8).symm.trans e_j5
      refine st_aload_n dX8_nameOf_27 rfl rfl ?_
      refine gR8 dX8_nameOf_28 (by decide) rfl 5 (by decide) fl_RX8_19 rfl 64 rfl ?_
      refine st_bipush dX8_nameOf_31 (v := 70) (by decide) ?_
      refine st_iload_n dX8_nameOf_33 rfl rfl ?_
      refine st_iadd dX8_nameOf_34 ?_
      obtain ⟨v4, e_v4, e_j5⟩ := bnd e_j5
      refine st_iald dX8_nameOf_35 (by decide) rfl v4 e_v4 ?_
      refine st_goto dX8_nameOf_36 41 (by decide) ?_
      obtain rfl := Option.some.inj e_j5
      exact st_sub [.null, .null] ⟨Or.inl rfl, Or.inl rfl, trivial⟩ kj7
  · replace h := (if_pos c6).symm.trans h
    refine st_ldc dX8_nameOf_12 cn_RX8_253 ?_
    obtain rfl := Option.some.inj h
    exact st_iret dX8_nameOf_14 rfl hp
def f_X8_rootOf_l6 (x0 : Int32) : Nat → Int32 → Int32 → Option (Int32)
  | 0, _, _ => none
  | n + 1, x1, x2 =>
    if (x2 - x1) ≤ 1 then
      some x1
    else
      f_X8_rootOf_l6 x0 n (if (10000 * x0) < (((x1 + x2) / 2) * ((x1 + x2) / 2)) then x1 else ((x1 + x2) / 2)) (if (10000 * x0) < (((x1 + x2) / 2) * ((x1 + x2) / 2)) then ((x1 + x2) / 2) else x2)
def f_X8_rootOf (x0 : Int32) : Option (Int32) :=
  (f_X8_rootOf_l6 x0 fuel 0 4450).bind fun l6 =>
  some l6
set_option maxHeartbeats 4000000 in
set_option maxRecDepth 100000 in
theorem k_X8_rootOf_l6 {D : Nat} (hD : 0 ≤ D) (H : Hp) (x0 : Int32) {post : Option Value → Hp → Prop} : ∀ (n : Nat) (x1 : Int32) (x2 : Int32) (q : Int32), f_X8_rootOf_l6 x0 n x1 x2 = some q → V D RX8 mdX8_rootOf 40 [.null, .int q, .null, .null] [] H post → V D RX8 mdX8_rootOf 6 [.int x0, .int x1, .int x2, .null] [] H post := by
  intro n
  induction n with
  | zero => intro x1 x2 q h; simp [f_X8_rootOf_l6] at h
  | succ n ih =>
    intro x1 x2 q h k1
    rw [f_X8_rootOf_l6] at h
    refine st_iload_n dX8_rootOf_6 rfl rfl ?_
    refine st_iload_n dX8_rootOf_7 rfl rfl ?_
    refine st_isub dX8_rootOf_8 ?_
    refine st_iconst dX8_rootOf_9 (v := 1) rfl ?_
    refine st_ic_le dX8_rootOf_10 40 (by decide) (fun c1 => ?_) (fun c1 => ?_)
    · replace h := (if_pos c1).symm.trans h
      obtain rfl := Option.some.inj h
      exact st_sub [.null, .int x1, .null, .null] ⟨Or.inl rfl, Or.inr rfl, Or.inl rfl, Or.inl rfl, trivial⟩ k1
    · replace h := (if_neg c1).symm.trans h
      refine st_iload_n dX8_rootOf_13 rfl rfl ?_
      refine st_iload_n dX8_rootOf_14 rfl rfl ?_
      refine st_iadd dX8_rootOf_15 ?_
      refine st_iconst dX8_rootOf_16 (v := 2) rfl ?_
      refine st_idiv dX8_rootOf_17 (by decide) ?_
      refine st_istore_n dX8_rootOf_18 rfl (by decide) [.int x0, .int x1, .int x2, .int ((x1 + x2) / 2)] rfl ?_
      refine st_iload_n dX8_rootOf_19 rfl rfl ?_
      refine st_iload_n dX8_rootOf_20 rfl rfl ?_
      refine st_imul dX8_rootOf_21 ?_
      refine st_sipush dX8_rootOf_22 (v := 10000) (by decide) ?_
      refine st_iload_n dX8_rootOf_25 rfl rfl ?_
      refine st_imul dX8_rootOf_26 ?_
      have kj4 : ∀ z2 : Int32, z2 = (if (10000 * x0) < (((x1 + x2) / 2) * ((x1 + x2) / 2)) then x1 else ((x1 + x2) / 2)) → ∀ z3 : Int32, z3 = (if (10000 * x0) < (((x1 + x2) / 2) * ((x1 + x2) / 2)) then ((x1 + x2) / 2) else x2) → V D RX8 mdX8_rootOf 37 [.int x0, .int z2, .int z3, .null] [] H post := by
        intro z2 ez2 z3 ez3
        subst ez2
        subst ez3
        refine st_goto dX8_rootOf_37 6 (by decide) ?_
        exact ih (if (10000 * x0) < (((x1 + x2) / 2) * ((x1 + x2) / 2)) then x1 else ((x1 + x2) / 2)) (if (10000 * x0) < (((x1 + x2) / 2) * ((x1 + x2) / 2)) then ((x1 + x2) / 2) else x2) q h k1
      refine st_ic_gt dX8_rootOf_27 35 (by decide) (fun c5 => ?_) (fun c5 => ?_)
      · refine st_iload_n dX8_rootOf_35 rfl rfl ?_
        refine st_istore_n dX8_rootOf_36 rfl (by decide) [.int x0, .int x1, .int ((x1 + x2) / 2), .int ((x1 + x2) / 2)] rfl ?_
        exact st_sub [.int x0, .int x1, .int ((x1 + x2) / 2), .null] ⟨Or.inr rfl, Or.inr rfl, Or.inr rfl, Or.inl rfl, trivial⟩ (kj4 _ (Eq.symm (if_pos c5)) _ (Eq.symm (if_pos c5)))
      · refine st_iload_n dX8_rootOf_30 rfl rfl ?_
        refine st_istore_n dX8_rootOf_31 rfl (by decide) [.int x0, .int ((x1 + x2) / 2), .int x2, .int ((x1 + x2) / 2)] rfl ?_
        refine st_goto dX8_rootOf_32 37 (by decide) ?_
        exact st_sub [.int x0, .int ((x1 + x2) / 2), .int x2, .null] ⟨Or.inr rfl, Or.inr rfl, Or.inr rfl, Or.inl rfl, trivial⟩ (kj4 _ (Eq.symm (if_neg c5)) _ (Eq.symm (if_neg c5)))
set_option maxHeartbeats 4000000 in
set_option maxRecDepth 100000 in
theorem k_X8_rootOf {D : Nat} (hD : 0 ≤ D) (x0 : Int32) (H : Hp) (q : Int32) (h : f_X8_rootOf x0 = some q) {post : Option Value → Hp → Prop} (hp : post (some (.int q)) H) : Sem D mdX8_rootOf [.int x0] H post := by
  refine sem_of (own := RX8) rfl pn_RX8 (Nat.le_of_ble_eq_true rfl) [.int x0, .null, .null, .null] ⟨Or.inr rfl, rfl, rfl, rfl, trivial⟩ ?_
  unfold f_X8_rootOf at h
  refine st_iconst dX8_rootOf_0 (v := 0) rfl ?_
  refine st_istore_n dX8_rootOf_1 rfl (by decide) [.int x0, .int 0, .null, .null] rfl ?_
  refine st_sipush dX8_rootOf_2 (v := 4450) (by decide) ?_
  refine st_istore_n dX8_rootOf_5 rfl (by decide) [.int x0, .int 0, .int 4450, .null] rfl ?_
  obtain ⟨l6, e_l6, h⟩ := bnd h
  refine k_X8_rootOf_l6 (by omega) H x0 fuel 0 4450 _ e_l6 ?_
  refine st_iload_n dX8_rootOf_40 rfl rfl ?_
  obtain rfl := Option.some.inj h
  exact st_iret dX8_rootOf_41 rfl hp
def f_X8_root (x1 : Int32) (H : Hp) : Option (Int32 × Hp) :=
  (pf H 60 0 0).bind fun H1 =>
  (f_X8_in x1.toInt64 0 1980).bind fun v2 =>
  Option.bind (
    if v2 = 0 then
      some (-1000001)
    else
      (f_X8_rootOf x1).bind fun v3 =>
      some v3) fun j4 =>
  some (j4, H1)
set_option maxHeartbeats 4000000 in
set_option maxRecDepth 100000 in
theorem k_X8_root {D : Nat} (hD : 1 ≤ D) (x1 : Int32) (H : Hp) (q : Int32 × Hp) (h : f_X8_root x1 H = some q) {post : Option Value → Hp → Prop} (hp : post (some (.int q.1)) q.2) : Sem D mdX8_root [.ref 60, .int x1] H post := by
  obtain ⟨D, rfl⟩ : ∃ E, D = E + 1 := ⟨D - 1, by omega⟩
  refine sem_of (own := RX8) rfl pn_RX8 (Nat.le_of_ble_eq_true rfl) [.ref 60, .int x1] ⟨Or.inr rfl, Or.inr rfl, trivial⟩ ?_
  unfold f_X8_root at h
  refine st_aload_n dX8_root_0 rfl rfl ?_
  refine st_iconst dX8_root_1 (v := 0) rfl ?_
  obtain ⟨H1, e_H1, h⟩ := bnd h
  refine pI8 dX8_root_2 (by decide) rfl 0 (by decide) fl_RX8_62 rfl rfl rfl rfl e_H1 ?_
  refine st_iload_n dX8_root_5 rfl rfl ?_
  refine st_i2l dX8_root_6 ?_
  refine st_lconst dX8_root_7 (v := 0) rfl ?_
  refine st_ldc2 dX8_root_8 cl_RX8_258 ?_
  obtain ⟨v2, e_v2, h⟩ := bnd h
  refine st_callS [.long x1.toInt64, .long 0, .long 1980] dX8_root_11 co_X8_in sm_X8_in ml_RX8_72 rfl (S := []) rfl (Nat.le_of_ble_eq_true rfl) (k_X8_in (by omega) x1.toInt64 0 1980 H1 _ e_v2 ?_)
  show V (D + 1) RX8 mdX8_root 14 [.ref 60, .int x1] [.int v2] H1 post
  obtain ⟨j4, e_j4, h⟩ := bnd h
  have kj5 : V (D + 1) RX8 mdX8_root 26 [.null, .null] [.int j4] H1 post := by
    obtain rfl := Option.some.inj h
    exact st_iret dX8_root_26 rfl hp
  refine st_if_eq dX8_root_14 24 (by decide) (fun c6 => ?_) (fun c6 => ?_)
  · replace e_j4 := (if_pos c6).symm.trans e_j4
    refine st_ldc dX8_root_24 cn_RX8_82 ?_
    obtain rfl := Option.some.inj e_j4
    exact st_sub [.null, .null] ⟨Or.inl rfl, Or.inl rfl, trivial⟩ kj5
  · replace e_j4 := (if_neg c6).symm.trans e_j4
    refine st_iload_n dX8_root_17 rfl rfl ?_
    obtain ⟨v3, e_v3, e_j4⟩ := bnd e_j4
    refine st_callS [.int x1] dX8_root_18 co_X8_rootOf sm_X8_rootOf ml_RX8_187 rfl (S := []) rfl (Nat.le_of_ble_eq_true rfl) (k_X8_rootOf (by omega) x1 H1 _ e_v3 ?_)
    show V (D + 1) RX8 mdX8_root 21 [.ref 60, .int x1] [.int v3] H1 post
    refine st_goto dX8_root_21 26 (by decide) ?_
    obtain rfl := Option.some.inj e_j4
    exact st_sub [.null, .null] ⟨Or.inl rfl, Or.inl rfl, trivial⟩ kj5
def f_X8_lookAt_l2 (r : Nat) : Nat → Int32 → Hp → Option (Hp)
  | 0, _, _ => none
  | n + 1, x2, H =>
    if 60 ≤ x2 then
      some H
    else
      (as H 69 60 x2 0).bind fun H1 =>
      f_X8_lookAt_l2 r n (x2 + 1) H1
def f_X8_lookAt_l23 (r : Nat) : Nat → Int32 → Hp → Option (Hp)
  | 0, _, _ => none
  | n + 1, x2, H =>
    (ag H r 80 3).bind fun v4 =>
    if v4 ≤ x2 then
      some H
    else
      (f_X8_of r x2 0 H).bind fun v5 =>
      (ag H r 80 (70 + v5)).bind fun v6 =>
      (f_X8_of r x2 1 H).bind fun v7 =>
      (ag H 69 60 ((6 * v6) + v7)).bind fun v8 =>
      (f_X8_of r x2 2 H).bind fun v9 =>
      (as H 69 60 ((6 * v6) + v7) (v8 + v9)).bind fun H10 =>
      f_X8_lookAt_l23 r n (x2 + 1) H10
def f_X8_lookAt_l73 (r : Nat) : Nat → Int32 → Hp → Option (Hp)
  | 0, _, _ => none
  | n + 1, x2, H =>
    if 60 ≤ x2 then
      some H
    else
      (ag H 69 60 x2).bind fun v13 =>
      Option.bind (
        if v13 = 0 then
          some 0
        else
          (ag H 69 60 x2).bind fun v14 =>
          (f_X8_rootOf v14).bind fun v15 =>
          some v15) fun j16 =>
      (as H 70 60 x2 j16).bind fun H17 =>
      f_X8_lookAt_l73 r n (x2 + 1) H17
def f_X8_lookAt_l135 (r : Nat) (H : Hp) (x2 : Int32) (x3 : Int32) : Nat → Int32 → Int32 → Option (Int32)
  | 0, _, _ => none
  | n + 1, x4, x5 =>
    if 6 ≤ x5 then
      some x4
    else
      (ag H 70 60 ((6 * x2) + x5)).bind fun v22 =>
      (ag H 70 60 ((6 * x3) + x5)).bind fun v23 =>
      f_X8_lookAt_l135 r H x2 x3 n (x4 + (v22 * v23)) (x5 + 1)
def f_X8_lookAt_l123 (r : Nat) (x2 : Int32) : Nat → Int32 → Hp → Option (Hp)
  | 0, _, _ => none
  | n + 1, x3, H =>
    if 10 ≤ x3 then
      some H
    else
      (f_X8_lookAt_l135 r H x2 x3 fuel 0 0).bind fun l25 =>
      (as H 71 100 ((10 * x2) + x3) (l25 / 10000)).bind fun H26 =>
      f_X8_lookAt_l123 r x2 n (x3 + 1) H26
def f_X8_lookAt_l115 (r : Nat) : Nat → Int32 → Hp → Option (Hp)
  | 0, _, _ => none
  | n + 1, x2, H =>
    if 10 ≤ x2 then
      some H
    else
      (f_X8_lookAt_l123 r x2 fuel 0 H).bind fun l28 =>
      f_X8_lookAt_l115 r n (x2 + 1) l28
def f_X8_lookAt (r : Nat) (H : Hp) : Option (Hp) :=
  (f_X8_lookAt_l2 r fuel 0 H).bind fun l3 =>
  (f_X8_lookAt_l23 r fuel 0 l3).bind fun l12 =>
  (f_X8_lookAt_l73 r fuel 0 l12).bind fun l21 =>
  (f_X8_lookAt_l115 r fuel 0 l21).bind fun l30 =>
  some l30
set_option maxHeartbeats 4000000 in
set_option maxRecDepth 100000 in
theorem k_X8_lookAt_l2 {D : Nat} (hD : 1 ≤ (D + 1)) {r : Nat} (hr : RC r) {post : Option Value → Hp → Prop} : ∀ (n : Nat) (x2 : Int32) (H : Hp) (q : Hp), f_X8_lookAt_l2 r n x2 H = some q → V (D + 1) RX8 mdX8_lookAt 21 [.ref 60, .ref r, .null, .null, .null, .null] [] q post → V (D + 1) RX8 mdX8_lookAt 2 [.ref 60, .ref r, .int x2, .null, .null, .null] [] H post := by
  intro n
  induction n with
  | zero => intro x2 H q h; simp [f_X8_lookAt_l2] at h
  | succ n ih =>
    intro x2 H q h k1
    rw [f_X8_lookAt_l2] at h
    refine st_iload_n dX8_lookAt_2 rfl rfl ?_
    refine st_bipush dX8_lookAt_3 (v := 60) (by decide) ?_
    refine st_ic_ge dX8_lookAt_5 21 (by decide) (fun c2 => ?_) (fun c2 => ?_)
    · replace h := (if_pos c2).symm.trans h
      obtain rfl := Option.some.inj h
      exact st_sub [.ref 60, .ref r, .null, .null, .null, .null] ⟨Or.inr rfl, Or.inr rfl, Or.inl rfl, Or.inl rfl, Or.inl rfl, Or.inl rfl, trivial⟩ k1
    · replace h := (if_neg c2).symm.trans h
      refine st_aload_n dX8_lookAt_8 rfl rfl ?_
      refine gR8 dX8_lookAt_9 (by decide) rfl 19 (by decide) fl_RX8_34 rfl 69 rfl ?_
      refine st_iload_n dX8_lookAt_12 rfl rfl ?_
      refine st_iconst dX8_lookAt_13 (v := 0) rfl ?_
      obtain ⟨H1, e_H1, h⟩ := bnd h
      refine st_iast dX8_lookAt_14 (by decide) rfl H1 e_H1 ?_
      refine st_iinc dX8_lookAt_15 rfl (v := (x2 + 1)) rfl (by decide) [.ref 60, .ref r, .int (x2 + 1), .null, .null, .null] rfl ?_
      refine st_goto dX8_lookAt_18 2 (by decide) ?_
      exact ih (x2 + 1) H1 q h k1
set_option maxHeartbeats 4000000 in
set_option maxRecDepth 100000 in
theorem k_X8_lookAt_l23 {D : Nat} (hD : 1 ≤ (D + 1)) {r : Nat} (hr : RC r) {post : Option Value → Hp → Prop} : ∀ (n : Nat) (x2 : Int32) (H : Hp) (q : Hp), f_X8_lookAt_l23 r n x2 H = some q → V (D + 1) RX8 mdX8_lookAt 71 [.ref 60, .null, .null, .null, .null, .null] [] q post → V (D + 1) RX8 mdX8_lookAt 23 [.ref 60, .ref r, .int x2, .null, .null, .null] [] H post := by
  intro n
  induction n with
  | zero => intro x2 H q h; simp [f_X8_lookAt_l23] at h
  | succ n ih =>
    intro x2 H q h k1
    rw [f_X8_lookAt_l23] at h
    refine st_iload_n dX8_lookAt_23 rfl rfl ?_
    refine st_aload_n dX8_lookAt_24 rfl rfl ?_
    refine st_iconst dX8_lookAt_25 (v := 3) rfl ?_
    obtain ⟨v4, e_v4, h⟩ := bnd h
    refine st_iald dX8_lookAt_26 hr.1 hr.2 v4 e_v4 ?_
    refine st_ic_ge dX8_lookAt_27 71 (by decide) (fun c11 => ?_) (fun c11 => ?_)
    · replace h := (if_pos c11).symm.trans h
      obtain rfl := Option.some.inj h
      exact st_sub [.ref 60, .null, .null, .null, .null, .null] ⟨Or.inr rfl, Or.inl rfl, Or.inl rfl, Or.inl rfl, Or.inl rfl, Or.inl rfl, trivial⟩ k1
    · replace h := (if_neg c11).symm.trans h
      refine st_aload_n dX8_lookAt_30 rfl rfl ?_
      refine gR8 dX8_lookAt_31 (by decide) rfl 19 (by decide) fl_RX8_34 rfl 69 rfl ?_
      refine st_bipush dX8_lookAt_34 (v := 6) (by decide) ?_
      refine st_aload_n dX8_lookAt_36 rfl rfl ?_
      refine st_bipush dX8_lookAt_37 (v := 70) (by decide) ?_
      refine st_aload_n dX8_lookAt_39 rfl rfl ?_
      refine st_iload_n dX8_lookAt_40 rfl rfl ?_
      refine st_iconst dX8_lookAt_41 (v := 0) rfl ?_
      obtain ⟨v5, e_v5, h⟩ := bnd h
      refine st_callS [.ref r, .int x2, .int 0] dX8_lookAt_42 co_X8_of sm_X8_of ml_RX8_183 rfl (S := [.int 70, .ref r, .int 6, .ref 69]) rfl (Nat.le_of_ble_eq_true rfl) (k_X8_of (by omega) hr x2 0 H _ e_v5 ?_)
      show V (D + 1) RX8 mdX8_lookAt 45 [.ref 60, .ref r, .int x2, .null, .null, .null] [.int v5, .int 70, .ref r, .int 6, .ref 69] H post
      refine st_iadd dX8_lookAt_45 ?_
      obtain ⟨v6, e_v6, h⟩ := bnd h
      refine st_iald dX8_lookAt_46 hr.1 hr.2 v6 e_v6 ?_
      refine st_imul dX8_lookAt_47 ?_
      refine st_aload_n dX8_lookAt_48 rfl rfl ?_
      refine st_iload_n dX8_lookAt_49 rfl rfl ?_
      refine st_iconst dX8_lookAt_50 (v := 1) rfl ?_
      obtain ⟨v7, e_v7, h⟩ := bnd h
      refine st_callS [.ref r, .int x2, .int 1] dX8_lookAt_51 co_X8_of sm_X8_of ml_RX8_183 rfl (S := [.int (6 * v6), .ref 69]) rfl (Nat.le_of_ble_eq_true rfl) (k_X8_of (by omega) hr x2 1 H _ e_v7 ?_)
      show V (D + 1) RX8 mdX8_lookAt 54 [.ref 60, .ref r, .int x2, .null, .null, .null] [.int v7, .int (6 * v6), .ref 69] H post
      refine st_iadd dX8_lookAt_54 ?_
      refine st_dup2 dX8_lookAt_55 rfl rfl ?_
      obtain ⟨v8, e_v8, h⟩ := bnd h
      refine st_iald dX8_lookAt_56 (by decide) rfl v8 e_v8 ?_
      refine st_aload_n dX8_lookAt_57 rfl rfl ?_
      refine st_iload_n dX8_lookAt_58 rfl rfl ?_
      refine st_iconst dX8_lookAt_59 (v := 2) rfl ?_
      obtain ⟨v9, e_v9, h⟩ := bnd h
      refine st_callS [.ref r, .int x2, .int 2] dX8_lookAt_60 co_X8_of sm_X8_of ml_RX8_183 rfl (S := [.int v8, .int ((6 * v6) + v7), .ref 69]) rfl (Nat.le_of_ble_eq_true rfl) (k_X8_of (by omega) hr x2 2 H _ e_v9 ?_)
      show V (D + 1) RX8 mdX8_lookAt 63 [.ref 60, .ref r, .int x2, .null, .null, .null] [.int v9, .int v8, .int ((6 * v6) + v7), .ref 69] H post
      refine st_iadd dX8_lookAt_63 ?_
      obtain ⟨H10, e_H10, h⟩ := bnd h
      refine st_iast dX8_lookAt_64 (by decide) rfl H10 e_H10 ?_
      refine st_iinc dX8_lookAt_65 rfl (v := (x2 + 1)) rfl (by decide) [.ref 60, .ref r, .int (x2 + 1), .null, .null, .null] rfl ?_
      refine st_goto dX8_lookAt_68 23 (by decide) ?_
      exact ih (x2 + 1) H10 q h k1
set_option maxHeartbeats 4000000 in
set_option maxRecDepth 100000 in
theorem k_X8_lookAt_l73 {D : Nat} (hD : 1 ≤ (D + 1)) {r : Nat} (hr : RC r) {post : Option Value → Hp → Prop} : ∀ (n : Nat) (x2 : Int32) (H : Hp) (q : Hp), f_X8_lookAt_l73 r n x2 H = some q → V (D + 1) RX8 mdX8_lookAt 113 [.ref 60, .null, .null, .null, .null, .null] [] q post → V (D + 1) RX8 mdX8_lookAt 73 [.ref 60, .null, .int x2, .null, .null, .null] [] H post := by
  intro n
  induction n with
  | zero => intro x2 H q h; simp [f_X8_lookAt_l73] at h
  | succ n ih =>
    intro x2 H q h k1
    rw [f_X8_lookAt_l73] at h
    refine st_iload_n dX8_lookAt_73 rfl rfl ?_
    refine st_bipush dX8_lookAt_74 (v := 60) (by decide) ?_
    refine st_ic_ge dX8_lookAt_76 113 (by decide) (fun c18 => ?_) (fun c18 => ?_)
    · replace h := (if_pos c18).symm.trans h
      obtain rfl := Option.some.inj h
      exact st_sub [.ref 60, .null, .null, .null, .null, .null] ⟨Or.inr rfl, Or.inl rfl, Or.inl rfl, Or.inl rfl, Or.inl rfl, Or.inl rfl, trivial⟩ k1
    · replace h := (if_neg c18).symm.trans h
      refine st_aload_n dX8_lookAt_79 rfl rfl ?_
      refine gR8 dX8_lookAt_80 (by decide) rfl 20 (by decide) fl_RX8_37 rfl 70 rfl ?_
      refine st_iload_n dX8_lookAt_83 rfl rfl ?_
      refine st_aload_n dX8_lookAt_84 rfl rfl ?_
      refine gR8 dX8_lookAt_85 (by decide) rfl 19 (by decide) fl_RX8_34 rfl 69 rfl ?_
      refine st_iload_n dX8_lookAt_88 rfl rfl ?_
      obtain ⟨v13, e_v13, h⟩ := bnd h
      refine st_iald dX8_lookAt_89 (by decide) rfl v13 e_v13 ?_
      obtain ⟨j16, e_j16, h⟩ := bnd h
      have kj19 : V (D + 1) RX8 mdX8_lookAt 106 [.ref 60, .null, .int x2, .null, .null, .null] [.int j16, .int x2, .ref 70] H post := by
        obtain ⟨H17, e_H17, h⟩ := bnd h
        refine st_iast dX8_lookAt_106 (by decide) rfl H17 e_H17 ?_
        refine st_iinc dX8_lookAt_107 rfl (v := (x2 + 1)) rfl (by decide) [.ref 60, .null, .int (x2 + 1), .null, .null, .null] rfl ?_
        refine st_goto dX8_lookAt_110 73 (by decide) ?_
        exact ih (x2 + 1) H17 q h k1
      refine st_if_ne dX8_lookAt_90 97 (by decide) (fun c20 => ?_) (fun c20 => ?_)
      · replace e_j16 := (if_neg c20).symm.trans e_j16
        refine st_aload_n dX8_lookAt_97 rfl rfl ?_
        refine gR8 dX8_lookAt_98 (by decide) rfl 19 (by decide) fl_RX8_34 rfl 69 rfl ?_
        refine st_iload_n dX8_lookAt_101 rfl rfl ?_
        obtain ⟨v14, e_v14, e_j16⟩ := bnd e_j16
        refine st_iald dX8_lookAt_102 (by decide) rfl v14 e_v14 ?_
        obtain ⟨v15, e_v15, e_j16⟩ := bnd e_j16
        refine st_callS [.int v14] dX8_lookAt_103 co_X8_rootOf sm_X8_rootOf ml_RX8_187 rfl (S := [.int x2, .ref 70]) rfl (Nat.le_of_ble_eq_true rfl) (k_X8_rootOf (by omega) v14 H _ e_v15 ?_)
        show V (D + 1) RX8 mdX8_lookAt 106 [.ref 60, .null, .int x2, .null, .null, .null] [.int v15, .int x2, .ref 70] H post
        obtain rfl := Option.some.inj e_j16
        exact kj19
      · replace e_j16 := (if_pos c20).symm.trans e_j16
        refine st_iconst dX8_lookAt_93 (v := 0) rfl ?_
        refine st_goto dX8_lookAt_94 106 (by decide) ?_
        obtain rfl := Option.some.inj e_j16
        exact kj19
set_option maxHeartbeats 4000000 in
set_option maxRecDepth 100000 in
theorem k_X8_lookAt_l135 {D : Nat} (hD : 1 ≤ (D + 1)) {r : Nat} (hr : RC r) (H : Hp) (x2 : Int32) (x3 : Int32) {post : Option Value → Hp → Prop} : ∀ (n : Nat) (x4 : Int32) (x5 : Int32) (q : Int32), f_X8_lookAt_l135 r H x2 x3 n x4 x5 = some q → V (D + 1) RX8 mdX8_lookAt 178 [.ref 60, .null, .int x2, .int x3, .int q, .null] [] H post → V (D + 1) RX8 mdX8_lookAt 135 [.ref 60, .null, .int x2, .int x3, .int x4, .int x5] [] H post := by
  intro n
  induction n with
  | zero => intro x4 x5 q h; simp [f_X8_lookAt_l135] at h
  | succ n ih =>
    intro x4 x5 q h k1
    rw [f_X8_lookAt_l135] at h
    refine st_iload dX8_lookAt_135 rfl ?_
    refine st_bipush dX8_lookAt_137 (v := 6) (by decide) ?_
    refine st_ic_ge dX8_lookAt_139 178 (by decide) (fun c24 => ?_) (fun c24 => ?_)
    · replace h := (if_pos c24).symm.trans h
      obtain rfl := Option.some.inj h
      exact st_sub [.ref 60, .null, .int x2, .int x3, .int x4, .null] ⟨Or.inr rfl, Or.inl rfl, Or.inr rfl, Or.inr rfl, Or.inr rfl, Or.inl rfl, trivial⟩ k1
    · replace h := (if_neg c24).symm.trans h
      refine st_iload dX8_lookAt_142 rfl ?_
      refine st_aload_n dX8_lookAt_144 rfl rfl ?_
      refine gR8 dX8_lookAt_145 (by decide) rfl 20 (by decide) fl_RX8_37 rfl 70 rfl ?_
      refine st_bipush dX8_lookAt_148 (v := 6) (by decide) ?_
      refine st_iload_n dX8_lookAt_150 rfl rfl ?_
      refine st_imul dX8_lookAt_151 ?_
      refine st_iload dX8_lookAt_152 rfl ?_
      refine st_iadd dX8_lookAt_154 ?_
      obtain ⟨v22, e_v22, h⟩ := bnd h
      refine st_iald dX8_lookAt_155 (by decide) rfl v22 e_v22 ?_
      refine st_aload_n dX8_lookAt_156 rfl rfl ?_
      refine gR8 dX8_lookAt_157 (by decide) rfl 20 (by decide) fl_RX8_37 rfl 70 rfl ?_
      refine st_bipush dX8_lookAt_160 (v := 6) (by decide) ?_
      refine st_iload_n dX8_lookAt_162 rfl rfl ?_
      refine st_imul dX8_lookAt_163 ?_
      refine st_iload dX8_lookAt_164 rfl ?_
      refine st_iadd dX8_lookAt_166 ?_
      obtain ⟨v23, e_v23, h⟩ := bnd h
      refine st_iald dX8_lookAt_167 (by decide) rfl v23 e_v23 ?_
      refine st_imul dX8_lookAt_168 ?_
      refine st_iadd dX8_lookAt_169 ?_
      refine st_istore dX8_lookAt_170 (by decide) [.ref 60, .null, .int x2, .int x3, .int (x4 + (v22 * v23)), .int x5] rfl ?_
      refine st_iinc dX8_lookAt_172 rfl (v := (x5 + 1)) rfl (by decide) [.ref 60, .null, .int x2, .int x3, .int (x4 + (v22 * v23)), .int (x5 + 1)] rfl ?_
      refine st_goto dX8_lookAt_175 135 (by decide) ?_
      exact ih (x4 + (v22 * v23)) (x5 + 1) q h k1
set_option maxHeartbeats 4000000 in
set_option maxRecDepth 100000 in
theorem k_X8_lookAt_l123 {D : Nat} (hD : 1 ≤ (D + 1)) {r : Nat} (hr : RC r) (x2 : Int32) {post : Option Value → Hp → Prop} : ∀ (n : Nat) (x3 : Int32) (H : Hp) (q : Hp), f_X8_lookAt_l123 r x2 n x3 H = some q → V (D + 1) RX8 mdX8_lookAt 201 [.ref 60, .null, .int x2, .null, .null, .null] [] q post → V (D + 1) RX8 mdX8_lookAt 123 [.ref 60, .null, .int x2, .int x3, .null, .null] [] H post := by
  intro n
  induction n with
  | zero => intro x3 H q h; simp [f_X8_lookAt_l123] at h
  | succ n ih =>
    intro x3 H q h k1
    rw [f_X8_lookAt_l123] at h
    refine st_iload_n dX8_lookAt_123 rfl rfl ?_
    refine st_bipush dX8_lookAt_124 (v := 10) (by decide) ?_
    refine st_ic_ge dX8_lookAt_126 201 (by decide) (fun c27 => ?_) (fun c27 => ?_)
    · replace h := (if_pos c27).symm.trans h
      obtain rfl := Option.some.inj h
      exact st_sub [.ref 60, .null, .int x2, .null, .null, .null] ⟨Or.inr rfl, Or.inl rfl, Or.inr rfl, Or.inl rfl, Or.inl rfl, Or.inl rfl, trivial⟩ k1
    · replace h := (if_neg c27).symm.trans h
      refine st_iconst dX8_lookAt_129 (v := 0) rfl ?_
      refine st_istore dX8_lookAt_130 (by decide) [.ref 60, .null, .int x2, .int x3, .int 0, .null] rfl ?_
      refine st_iconst dX8_lookAt_132 (v := 0) rfl ?_
      refine st_istore dX8_lookAt_133 (by decide) [.ref 60, .null, .int x2, .int x3, .int 0, .int 0] rfl ?_
      obtain ⟨l25, e_l25, h⟩ := bnd h
      refine k_X8_lookAt_l135 (by omega) hr H x2 x3 fuel 0 0 _ e_l25 ?_
      refine st_aload_n dX8_lookAt_178 rfl rfl ?_
      refine gR8 dX8_lookAt_179 (by decide) rfl 21 (by decide) fl_RX8_40 rfl 71 rfl ?_
      refine st_bipush dX8_lookAt_182 (v := 10) (by decide) ?_
      refine st_iload_n dX8_lookAt_184 rfl rfl ?_
      refine st_imul dX8_lookAt_185 ?_
      refine st_iload_n dX8_lookAt_186 rfl rfl ?_
      refine st_iadd dX8_lookAt_187 ?_
      refine st_iload dX8_lookAt_188 rfl ?_
      refine st_sipush dX8_lookAt_190 (v := 10000) (by decide) ?_
      refine st_idiv dX8_lookAt_193 (by decide) ?_
      obtain ⟨H26, e_H26, h⟩ := bnd h
      refine st_iast dX8_lookAt_194 (by decide) rfl H26 e_H26 ?_
      refine st_iinc dX8_lookAt_195 rfl (v := (x3 + 1)) rfl (by decide) [.ref 60, .null, .int x2, .int (x3 + 1), .int l25, .null] rfl ?_
      refine st_goto dX8_lookAt_198 123 (by decide) ?_
      exact st_sub [.ref 60, .null, .int x2, .int (x3 + 1), .null, .null] ⟨Or.inr rfl, Or.inl rfl, Or.inr rfl, Or.inr rfl, Or.inl rfl, Or.inl rfl, trivial⟩ (ih (x3 + 1) H26 q h k1)
set_option maxHeartbeats 4000000 in
set_option maxRecDepth 100000 in
theorem k_X8_lookAt_l115 {D : Nat} (hD : 1 ≤ (D + 1)) {r : Nat} (hr : RC r) {post : Option Value → Hp → Prop} : ∀ (n : Nat) (x2 : Int32) (H : Hp) (q : Hp), f_X8_lookAt_l115 r n x2 H = some q → V (D + 1) RX8 mdX8_lookAt 207 [.null, .null, .null, .null, .null, .null] [] q post → V (D + 1) RX8 mdX8_lookAt 115 [.ref 60, .null, .int x2, .null, .null, .null] [] H post := by
  intro n
  induction n with
  | zero => intro x2 H q h; simp [f_X8_lookAt_l115] at h
  | succ n ih =>
    intro x2 H q h k1
    rw [f_X8_lookAt_l115] at h
    refine st_iload_n dX8_lookAt_115 rfl rfl ?_
    refine st_bipush dX8_lookAt_116 (v := 10) (by decide) ?_
    refine st_ic_ge dX8_lookAt_118 207 (by decide) (fun c29 => ?_) (fun c29 => ?_)
    · replace h := (if_pos c29).symm.trans h
      obtain rfl := Option.some.inj h
      exact st_sub [.null, .null, .null, .null, .null, .null] ⟨Or.inl rfl, Or.inl rfl, Or.inl rfl, Or.inl rfl, Or.inl rfl, Or.inl rfl, trivial⟩ k1
    · replace h := (if_neg c29).symm.trans h
      refine st_iconst dX8_lookAt_121 (v := 0) rfl ?_
      refine st_istore_n dX8_lookAt_122 rfl (by decide) [.ref 60, .null, .int x2, .int 0, .null, .null] rfl ?_
      obtain ⟨l28, e_l28, h⟩ := bnd h
      refine k_X8_lookAt_l123 (by omega) hr x2 fuel 0 H _ e_l28 ?_
      refine st_iinc dX8_lookAt_201 rfl (v := (x2 + 1)) rfl (by decide) [.ref 60, .null, .int (x2 + 1), .null, .null, .null] rfl ?_
      refine st_goto dX8_lookAt_204 115 (by decide) ?_
      exact ih (x2 + 1) l28 q h k1
set_option maxHeartbeats 4000000 in
set_option maxRecDepth 100000 in
theorem k_X8_lookAt {D : Nat} (hD : 1 ≤ D) {r : Nat} (hr : RC r) (H : Hp) (q : Hp) (h : f_X8_lookAt r H = some q) {post : Option Value → Hp → Prop} (hp : post none q) : Sem D mdX8_lookAt [.ref 60, .ref r] H post := by
  obtain ⟨D, rfl⟩ : ∃ E, D = E + 1 := ⟨D - 1, by omega⟩
  refine sem_of (own := RX8) rfl pn_RX8 (Nat.le_of_ble_eq_true rfl) [.ref 60, .ref r, .null, .null, .null, .null] ⟨Or.inr rfl, Or.inr rfl, rfl, rfl, rfl, rfl, trivial⟩ ?_
  unfold f_X8_lookAt at h
  refine st_iconst dX8_lookAt_0 (v := 0) rfl ?_
  refine st_istore_n dX8_lookAt_1 rfl (by decide) [.ref 60, .ref r, .int 0, .null, .null, .null] rfl ?_
  obtain ⟨l3, e_l3, h⟩ := bnd h
  refine k_X8_lookAt_l2 (by omega) hr fuel 0 H _ e_l3 ?_
  refine st_iconst dX8_lookAt_21 (v := 0) rfl ?_
  refine st_istore_n dX8_lookAt_22 rfl (by decide) [.ref 60, .ref r, .int 0, .null, .null, .null] rfl ?_
  obtain ⟨l12, e_l12, h⟩ := bnd h
  refine k_X8_lookAt_l23 (by omega) hr fuel 0 l3 _ e_l12 ?_
  refine st_iconst dX8_lookAt_71 (v := 0) rfl ?_
  refine st_istore_n dX8_lookAt_72 rfl (by decide) [.ref 60, .null, .int 0, .null, .null, .null] rfl ?_
  obtain ⟨l21, e_l21, h⟩ := bnd h
  refine k_X8_lookAt_l73 (by omega) hr fuel 0 l12 _ e_l21 ?_
  refine st_iconst dX8_lookAt_113 (v := 0) rfl ?_
  refine st_istore_n dX8_lookAt_114 rfl (by decide) [.ref 60, .null, .int 0, .null, .null, .null] rfl ?_
  obtain ⟨l30, e_l30, h⟩ := bnd h
  refine k_X8_lookAt_l115 (by omega) hr fuel 0 l21 _ e_l30 ?_
  obtain rfl := Option.some.inj h
  exact st_vret dX8_lookAt_207 rfl hp
