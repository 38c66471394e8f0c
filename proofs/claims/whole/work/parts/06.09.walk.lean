def f_X8_givers_l9 (r : Nat) (H : Hp) : Nat → Int32 → Int32 → Option (Int32)
  | 0, _, _ => none
  | n + 1, x2, x3 =>
    (ag H r 80 0).bind fun v2 =>
    if v2 ≤ x3 then
      some x2
    else
      (f_X8_giversOf x3 H).bind fun v3 =>
      f_X8_givers_l9 r H n (x2 ||| v3) (x3 + 1)
def f_X8_givers (r : Nat) (H : Hp) : Option (Int32 × Hp) :=
  (f_X8_lookAt r H).bind fun H1 =>
  (f_X8_givers_l9 r H1 fuel 0 0).bind fun l5 =>
  some (l5, H1)
set_option maxHeartbeats 4000000 in
set_option maxRecDepth 100000 in
theorem k_X8_givers_l9 {D : Nat} (hD : 2 ≤ (D + 1)) {r : Nat} (hr : RC r) (H : Hp) {post : Option Value → Hp → Prop} : ∀ (n : Nat) (x2 : Int32) (x3 : Int32) (q : Int32), f_X8_givers_l9 r H n x2 x3 = some q → V (D + 1) RX8 mdX8_givers 30 [.null, .null, .int q, .null] [] H post → V (D + 1) RX8 mdX8_givers 9 [.ref 60, .ref r, .int x2, .int x3] [] H post := by
  intro n
  induction n with
  | zero => intro x2 x3 q h; simp [f_X8_givers_l9] at h
  | succ n ih =>
    intro x2 x3 q h k1
    rw [f_X8_givers_l9] at h
    refine st_iload_n dX8_givers_9 rfl rfl ?_
    refine st_aload_n dX8_givers_10 rfl rfl ?_
    refine st_iconst dX8_givers_11 (v := 0) rfl ?_
    obtain ⟨v2, e_v2, h⟩ := bnd h
    refine st_iald dX8_givers_12 hr.1 hr.2 v2 e_v2 ?_
    refine st_ic_ge dX8_givers_13 30 (by decide) (fun c4 => ?_) (fun c4 => ?_)
    · replace h := (if_pos c4).symm.trans h
      obtain rfl := Option.some.inj h
      exact st_sub [.null, .null, .int x2, .null] ⟨Or.inl rfl, Or.inl rfl, Or.inr rfl, Or.inl rfl, trivial⟩ k1
    · replace h := (if_neg c4).symm.trans h
      refine st_iload_n dX8_givers_16 rfl rfl ?_
      refine st_aload_n dX8_givers_17 rfl rfl ?_
      refine st_iload_n dX8_givers_18 rfl rfl ?_
      obtain ⟨v3, e_v3, h⟩ := bnd h
      refine st_callV [.int x3] dX8_givers_19 co_X8_giversOf im_X8_giversOf se_X8_giversOf ml_RX8_199 rfl (by decide) rfl (rfl : classes[8]? = some (RX8, TX8, 30)) rfl (S := [.int x2]) rfl (Nat.le_of_ble_eq_true rfl) (k_X8_giversOf (by omega) x3 H _ e_v3 ?_)
      show V (D + 1) RX8 mdX8_givers 22 [.ref 60, .ref r, .int x2, .int x3] [.int v3, .int x2] H post
      refine st_ior dX8_givers_22 ?_
      refine st_istore_n dX8_givers_23 rfl (by decide) [.ref 60, .ref r, .int (x2 ||| v3), .int x3] rfl ?_
      refine st_iinc dX8_givers_24 rfl (v := (x3 + 1)) rfl (by decide) [.ref 60, .ref r, .int (x2 ||| v3), .int (x3 + 1)] rfl ?_
      refine st_goto dX8_givers_27 9 (by decide) ?_
      exact ih (x2 ||| v3) (x3 + 1) q h k1
set_option maxHeartbeats 4000000 in
set_option maxRecDepth 100000 in
theorem k_X8_givers {D : Nat} (hD : 2 ≤ D) {r : Nat} (hr : RC r) (H : Hp) (q : Int32 × Hp) (h : f_X8_givers r H = some q) {post : Option Value → Hp → Prop} (hp : post (some (.int q.1)) q.2) : Sem D mdX8_givers [.ref 60, .ref r] H post := by
  obtain ⟨D, rfl⟩ : ∃ E, D = E + 1 := ⟨D - 1, by omega⟩
  refine sem_of (own := RX8) rfl pn_RX8 (Nat.le_of_ble_eq_true rfl) [.ref 60, .ref r, .null, .null] ⟨Or.inr rfl, Or.inr rfl, rfl, rfl, trivial⟩ ?_
  unfold f_X8_givers at h
  refine st_aload_n dX8_givers_0 rfl rfl ?_
  refine st_aload_n dX8_givers_1 rfl rfl ?_
  obtain ⟨H1, e_H1, h⟩ := bnd h
  refine st_callV [.ref r] dX8_givers_2 co_X8_lookAt im_X8_lookAt se_X8_lookAt ml_RX8_219 rfl (by decide) rfl (rfl : classes[8]? = some (RX8, TX8, 30)) rfl (S := []) rfl (Nat.le_of_ble_eq_true rfl) (k_X8_lookAt (by omega) hr H _ e_H1 ?_)
  show V (D + 1) RX8 mdX8_givers 5 [.ref 60, .ref r, .null, .null] [] H1 post
  refine st_iconst dX8_givers_5 (v := 0) rfl ?_
  refine st_istore_n dX8_givers_6 rfl (by decide) [.ref 60, .ref r, .int 0, .null] rfl ?_
  refine st_iconst dX8_givers_7 (v := 0) rfl ?_
  refine st_istore_n dX8_givers_8 rfl (by decide) [.ref 60, .ref r, .int 0, .int 0] rfl ?_
  obtain ⟨l5, e_l5, h⟩ := bnd h
  refine k_X8_givers_l9 (by omega) hr H1 fuel 0 0 _ e_l5 ?_
  refine st_iload_n dX8_givers_30 rfl rfl ?_
  obtain rfl := Option.some.inj h
  exact st_iret dX8_givers_31 rfl hp
def f_X8_has (x0 : Int32) (x1 : Int32) : Option (Int32) :=
  some ((if ((x0 >>> (x1 &&& 31)) &&& 1) = 1 then 1 else 0) : Int32)
set_option maxHeartbeats 4000000 in
set_option maxRecDepth 100000 in
theorem k_X8_has {D : Nat} (hD : 0 ≤ D) (x0 : Int32) (x1 : Int32) (H : Hp) (q : Int32) (h : f_X8_has x0 x1 = some q) {post : Option Value → Hp → Prop} (hp : post (some (.int q)) H) : Sem D mdX8_has [.int x0, .int x1] H post := by
  refine sem_of (own := RX8) rfl pn_RX8 (Nat.le_of_ble_eq_true rfl) [.int x0, .int x1] ⟨Or.inr rfl, Or.inr rfl, trivial⟩ ?_
  unfold f_X8_has at h
  refine st_iload_n dX8_has_0 rfl rfl ?_
  refine st_iload_n dX8_has_1 rfl rfl ?_
  refine st_ishr dX8_has_2 ?_
  refine st_iconst dX8_has_3 (v := 1) rfl ?_
  refine st_iand dX8_has_4 ?_
  refine st_iconst dX8_has_5 (v := 1) rfl ?_
  have kj2 : ∀ z1 : Int32, z1 = ((if ((x0 >>> (x1 &&& 31)) &&& 1) = 1 then 1 else 0) : Int32) → V D RX8 mdX8_has 14 [.null, .null] [.int z1] H post := by
    intro z1 ez1
    subst ez1
    obtain rfl := Option.some.inj h
    exact st_zret dX8_has_14 rfl (by first | rfl | (split <;> rfl) | (repeat (first | rfl | split))) hp
  refine st_ic_ne dX8_has_6 13 (by decide) (fun c3 => ?_) (fun c3 => ?_)
  · refine st_iconst dX8_has_13 (v := 0) rfl ?_
    exact st_sub [.null, .null] ⟨Or.inl rfl, Or.inl rfl, trivial⟩ (kj2 _ (Eq.symm (if_neg c3)))
  · refine st_iconst dX8_has_9 (v := 1) rfl ?_
    refine st_goto dX8_has_10 14 (by decide) ?_
    exact st_sub [.null, .null] ⟨Or.inl rfl, Or.inl rfl, trivial⟩ (kj2 _ (Eq.symm (if_pos c3)))
def f_X8_layWithout_l13 (x1 : Int32) : Nat → Int32 → Hp → Option (Hp)
  | 0, _, _ => none
  | n + 1, x2, H =>
    (ag H 64 80 3).bind fun v3 =>
    if v3 ≤ x2 then
      some H
    else
      (f_X8_of 64 x2 0 H).bind fun v4 =>
      (ag H 64 80 (70 + v4)).bind fun v5 =>
      (f_X8_has x1 v5).bind fun v6 =>
      Option.bind (
        if v6 = 0 then
          (f_X8_of 64 x2 0 H).bind fun v7 =>
          (f_X8_of 64 x2 1 H).bind fun v8 =>
          (f_X8_of 64 x2 2 H).bind fun v9 =>
          (f_X8_put 66 v7 v8 v9 H).bind fun H10 =>
          some H10
        else
          some H) fun j11 =>
      f_X8_layWithout_l13 x1 n (x2 + 1) j11
def f_X8_layWithout (x1 : Int32) (H : Hp) : Option (Hp) :=
  (f_X8_layThen H).bind fun H1 =>
  (as H1 66 80 3 0).bind fun H2 =>
  (f_X8_layWithout_l13 x1 fuel 0 H2).bind fun l15 =>
  (f_X8_reckon 66 l15).bind fun H16 =>
  some H16
set_option maxHeartbeats 4000000 in
set_option maxRecDepth 100000 in
theorem k_X8_layWithout_l13 {D : Nat} (hD : 4 ≤ (D + 1)) (x1 : Int32) {post : Option Value → Hp → Prop} : ∀ (n : Nat) (x2 : Int32) (H : Hp) (q : Hp), f_X8_layWithout_l13 x1 n x2 H = some q → V (D + 1) RX8 mdX8_layWithout 87 [.ref 60, .null, .null] [] q post → V (D + 1) RX8 mdX8_layWithout 13 [.ref 60, .int x1, .int x2] [] H post := by
  intro n
  induction n with
  | zero => intro x2 H q h; simp [f_X8_layWithout_l13] at h
  | succ n ih =>
    intro x2 H q h k1
    rw [f_X8_layWithout_l13] at h
    refine st_iload_n dX8_layWithout_13 rfl rfl ?_
    refine st_aload_n dX8_layWithout_14 rfl rfl ?_
    refine gR8 dX8_layWithout_15 (by decide) rfl 5 (by decide) fl_RX8_19 rfl 64 rfl ?_
    refine st_iconst dX8_layWithout_18 (v := 3) rfl ?_
    obtain ⟨v3, e_v3, h⟩ := bnd h
    refine st_iald dX8_layWithout_19 (by decide) rfl v3 e_v3 ?_
    refine st_ic_ge dX8_layWithout_20 87 (by decide) (fun c12 => ?_) (fun c12 => ?_)
    · replace h := (if_pos c12).symm.trans h
      obtain rfl := Option.some.inj h
      exact st_sub [.ref 60, .null, .null] ⟨Or.inr rfl, Or.inl rfl, Or.inl rfl, trivial⟩ k1
    · replace h := (if_neg c12).symm.trans h
      refine st_iload_n dX8_layWithout_23 rfl rfl ?_
      refine st_aload_n dX8_layWithout_24 rfl rfl ?_
      refine gR8 dX8_layWithout_25 (by decide) rfl 5 (by decide) fl_RX8_19 rfl 64 rfl ?_
      refine st_bipush dX8_layWithout_28 (v := 70) (by decide) ?_
      refine st_aload_n dX8_layWithout_30 rfl rfl ?_
      refine gR8 dX8_layWithout_31 (by decide) rfl 5 (by decide) fl_RX8_19 rfl 64 rfl ?_
      refine st_iload_n dX8_layWithout_34 rfl rfl ?_
      refine st_iconst dX8_layWithout_35 (v := 0) rfl ?_
      obtain ⟨v4, e_v4, h⟩ := bnd h
      refine st_callS [.ref 64, .int x2, .int 0] dX8_layWithout_36 co_X8_of sm_X8_of ml_RX8_183 rfl (S := [.int 70, .ref 64, .int x1]) rfl (Nat.le_of_ble_eq_true rfl) (k_X8_of (by omega) RC64 x2 0 H _ e_v4 ?_)
      show V (D + 1) RX8 mdX8_layWithout 39 [.ref 60, .int x1, .int x2] [.int v4, .int 70, .ref 64, .int x1] H post
      refine st_iadd dX8_layWithout_39 ?_
      obtain ⟨v5, e_v5, h⟩ := bnd h
      refine st_iald dX8_layWithout_40 (by decide) rfl v5 e_v5 ?_
      obtain ⟨v6, e_v6, h⟩ := bnd h
      refine st_callS [.int x1, .int v5] dX8_layWithout_41 co_X8_has sm_X8_has ml_RX8_266 rfl (S := []) rfl (Nat.le_of_ble_eq_true rfl) (k_X8_has (by omega) x1 v5 H _ e_v6 ?_)
      show V (D + 1) RX8 mdX8_layWithout 44 [.ref 60, .int x1, .int x2] [.int v6] H post
      obtain ⟨j11, e_j11, h⟩ := bnd h
      have kj13 : V (D + 1) RX8 mdX8_layWithout 81 [.ref 60, .int x1, .int x2] [] j11 post := by
        refine st_iinc dX8_layWithout_81 rfl (v := (x2 + 1)) rfl (by decide) [.ref 60, .int x1, .int (x2 + 1)] rfl ?_
        refine st_goto dX8_layWithout_84 13 (by decide) ?_
        exact ih (x2 + 1) j11 q h k1
      refine st_if_ne dX8_layWithout_44 81 (by decide) (fun c14 => ?_) (fun c14 => ?_)
      · replace e_j11 := (if_neg c14).symm.trans e_j11
        obtain rfl := Option.some.inj e_j11
        exact kj13
      · replace e_j11 := (if_pos c14).symm.trans e_j11
        refine st_aload_n dX8_layWithout_47 rfl rfl ?_
        refine gR8 dX8_layWithout_48 (by decide) rfl 7 (by decide) fl_RX8_25 rfl 66 rfl ?_
        refine st_aload_n dX8_layWithout_51 rfl rfl ?_
        refine gR8 dX8_layWithout_52 (by decide) rfl 5 (by decide) fl_RX8_19 rfl 64 rfl ?_
        refine st_iload_n dX8_layWithout_55 rfl rfl ?_
        refine st_iconst dX8_layWithout_56 (v := 0) rfl ?_
        obtain ⟨v7, e_v7, e_j11⟩ := bnd e_j11
        refine st_callS [.ref 64, .int x2, .int 0] dX8_layWithout_57 co_X8_of sm_X8_of ml_RX8_183 rfl (S := [.ref 66]) rfl (Nat.le_of_ble_eq_true rfl) (k_X8_of (by omega) RC64 x2 0 H _ e_v7 ?_)
        show V (D + 1) RX8 mdX8_layWithout 60 [.ref 60, .int x1, .int x2] [.int v7, .ref 66] H post
        refine st_aload_n dX8_layWithout_60 rfl rfl ?_
        refine gR8 dX8_layWithout_61 (by decide) rfl 5 (by decide) fl_RX8_19 rfl 64 rfl ?_
        refine st_iload_n dX8_layWithout_64 rfl rfl ?_
        refine st_iconst dX8_layWithout_65 (v := 1) rfl ?_
        obtain ⟨v8, e_v8, e_j11⟩ := bnd e_j11
        refine st_callS [.ref 64, .int x2, .int 1] dX8_layWithout_66 co_X8_of sm_X8_of ml_RX8_183 rfl (S := [.int v7, .ref 66]) rfl (Nat.le_of_ble_eq_true rfl) (k_X8_of (by omega) RC64 x2 1 H _ e_v8 ?_)
        show V (D + 1) RX8 mdX8_layWithout 69 [.ref 60, .int x1, .int x2] [.int v8, .int v7, .ref 66] H post
        refine st_aload_n dX8_layWithout_69 rfl rfl ?_
        refine gR8 dX8_layWithout_70 (by decide) rfl 5 (by decide) fl_RX8_19 rfl 64 rfl ?_
        refine st_iload_n dX8_layWithout_73 rfl rfl ?_
        refine st_iconst dX8_layWithout_74 (v := 2) rfl ?_
        obtain ⟨v9, e_v9, e_j11⟩ := bnd e_j11
        refine st_callS [.ref 64, .int x2, .int 2] dX8_layWithout_75 co_X8_of sm_X8_of ml_RX8_183 rfl (S := [.int v8, .int v7, .ref 66]) rfl (Nat.le_of_ble_eq_true rfl) (k_X8_of (by omega) RC64 x2 2 H _ e_v9 ?_)
        show V (D + 1) RX8 mdX8_layWithout 78 [.ref 60, .int x1, .int x2] [.int v9, .int v8, .int v7, .ref 66] H post
        obtain ⟨H10, e_H10, e_j11⟩ := bnd e_j11
        refine st_callS [.ref 66, .int v7, .int v8, .int v9] dX8_layWithout_78 co_X8_put sm_X8_put ml_RX8_144 rfl (S := []) rfl (Nat.le_of_ble_eq_true rfl) (k_X8_put (by omega) RC66 v7 v8 v9 H _ e_H10 ?_)
        show V (D + 1) RX8 mdX8_layWithout 81 [.ref 60, .int x1, .int x2] [] H10 post
        obtain rfl := Option.some.inj e_j11
        exact kj13
set_option maxHeartbeats 4000000 in
set_option maxRecDepth 100000 in
theorem k_X8_layWithout {D : Nat} (hD : 4 ≤ D) (x1 : Int32) (H : Hp) (q : Hp) (h : f_X8_layWithout x1 H = some q) {post : Option Value → Hp → Prop} (hp : post none q) : Sem D mdX8_layWithout [.ref 60, .int x1] H post := by
  obtain ⟨D, rfl⟩ : ∃ E, D = E + 1 := ⟨D - 1, by omega⟩
  refine sem_of (own := RX8) rfl pn_RX8 (Nat.le_of_ble_eq_true rfl) [.ref 60, .int x1, .null] ⟨Or.inr rfl, Or.inr rfl, rfl, trivial⟩ ?_
  unfold f_X8_layWithout at h
  refine st_aload_n dX8_layWithout_0 rfl rfl ?_
  obtain ⟨H1, e_H1, h⟩ := bnd h
  refine st_callV [] dX8_layWithout_1 co_X8_layThen im_X8_layThen se_X8_layThen ml_RX8_229 rfl (by decide) rfl (rfl : classes[8]? = some (RX8, TX8, 30)) rfl (S := []) rfl (Nat.le_of_ble_eq_true rfl) (k_X8_layThen (by omega) H _ e_H1 ?_)
  show V (D + 1) RX8 mdX8_layWithout 4 [.ref 60, .int x1, .null] [] H1 post
  refine st_aload_n dX8_layWithout_4 rfl rfl ?_
  refine gR8 dX8_layWithout_5 (by decide) rfl 7 (by decide) fl_RX8_25 rfl 66 rfl ?_
  refine st_iconst dX8_layWithout_8 (v := 3) rfl ?_
  refine st_iconst dX8_layWithout_9 (v := 0) rfl ?_
  obtain ⟨H2, e_H2, h⟩ := bnd h
  refine st_iast dX8_layWithout_10 (by decide) rfl H2 e_H2 ?_
  refine st_iconst dX8_layWithout_11 (v := 0) rfl ?_
  refine st_istore_n dX8_layWithout_12 rfl (by decide) [.ref 60, .int x1, .int 0] rfl ?_
  obtain ⟨l15, e_l15, h⟩ := bnd h
  refine k_X8_layWithout_l13 (by omega) x1 fuel 0 H2 _ e_l15 ?_
  refine st_aload_n dX8_layWithout_87 rfl rfl ?_
  refine st_aload_n dX8_layWithout_88 rfl rfl ?_
  refine gR8 dX8_layWithout_89 (by decide) rfl 7 (by decide) fl_RX8_25 rfl 66 rfl ?_
  obtain ⟨H16, e_H16, h⟩ := bnd h
  refine st_callV [.ref 66] dX8_layWithout_92 co_X8_reckon im_X8_reckon se_X8_reckon ml_RX8_232 rfl (by decide) rfl (rfl : classes[8]? = some (RX8, TX8, 30)) rfl (S := []) rfl (Nat.le_of_ble_eq_true rfl) (k_X8_reckon (by omega) RC66 l15 _ e_H16 ?_)
  show V (D + 1) RX8 mdX8_layWithout 95 [.ref 60, .null, .null] [] H16 post
  obtain rfl := Option.some.inj h
  exact st_vret dX8_layWithout_95 rfl hp
def f_X8_missed_l46 (x1 : Int32) (x3 : Int32) : Nat → Int32 → Int32 → Int32 → Hp → Option (Int32 × Int32 × Hp)
  | 0, _, _, _, _ => none
  | n + 1, x4, x5, x6, H =>
    if 10 ≤ x6 then
      some (x4, x5, H)
    else
      (f_X8_has x3 x6).bind fun v5 =>
      Option.bind (
        if v5 = 0 then
          some (x4, x5, H)
        else
          (f_X8_layWithout ((1 : Int32) <<< (x6 &&& 31)) H).bind fun H6 =>
          if x4 = (-1000000) then
            (ag H6 73 6 x1).bind fun v7 =>
            some (x6, v7, H6)
          else
            (ag H6 73 6 x1).bind fun v8 =>
            if x5 ≤ v8 then
              some (x4, x5, H6)
            else
              (ag H6 73 6 x1).bind fun v9 =>
              some (x6, v9, H6)) fun j10 =>
      f_X8_missed_l46 x1 x3 n j10.1 j10.2.1 (x6 + 1) j10.2.2
def f_X8_missed (x1 : Int32) (x2 : Int32) (H : Hp) : Option (Int32 × Hp) :=
  (pf H 60 0 0).bind fun H1 =>
  (f_X8_isProject x1 H1).bind fun v2 =>
  if v2 = 0 then
    some ((-1000001), H1)
  else
    (f_X8_in x2.toInt64 0 1).bind fun v3 =>
    if v3 = 0 then
      some ((-1000001), H1)
    else
      (f_X8_givers 64 H1).bind fun q4 =>
      (f_X8_missed_l46 x1 q4.1 fuel (-1000000) (-1000000) 0 q4.2).bind fun l16 =>
      some ((if x2 = 0 then l16.1 else l16.2.1), l16.2.2)
set_option maxHeartbeats 4000000 in
set_option maxRecDepth 100000 in
theorem k_X8_missed_l46 {D : Nat} (hD : 5 ≤ (D + 1)) (x1 : Int32) (x3 : Int32) (x2 : Int32) {post : Option Value → Hp → Prop} : ∀ (n : Nat) (x4 : Int32) (x5 : Int32) (x6 : Int32) (H : Hp) (q : Int32 × Int32 × Hp), f_X8_missed_l46 x1 x3 n x4 x5 x6 H = some q → V (D + 1) RX8 mdX8_missed 106 [.null, .null, .int x2, .null, .int q.1, .int q.2.1, .null] [] q.2.2 post → V (D + 1) RX8 mdX8_missed 46 [.ref 60, .int x1, .int x2, .int x3, .int x4, .int x5, .int x6] [] H post := by
  intro n
  induction n with
  | zero => intro x4 x5 x6 H q h; simp [f_X8_missed_l46] at h
  | succ n ih =>
    intro x4 x5 x6 H q h k1
    rw [f_X8_missed_l46] at h
    refine st_iload dX8_missed_46 rfl ?_
    refine st_bipush dX8_missed_48 (v := 10) (by decide) ?_
    refine st_ic_ge dX8_missed_50 106 (by decide) (fun c11 => ?_) (fun c11 => ?_)
    · replace h := (if_pos c11).symm.trans h
      obtain rfl := Option.some.inj h
      exact st_sub [.null, .null, .int x2, .null, .int x4, .int x5, .null] ⟨Or.inl rfl, Or.inl rfl, Or.inr rfl, Or.inl rfl, Or.inr rfl, Or.inr rfl, Or.inl rfl, trivial⟩ k1
    · replace h := (if_neg c11).symm.trans h
      refine st_iload_n dX8_missed_53 rfl rfl ?_
      refine st_iload dX8_missed_54 rfl ?_
      obtain ⟨v5, e_v5, h⟩ := bnd h
      refine st_callS [.int x3, .int x6] dX8_missed_56 co_X8_has sm_X8_has ml_RX8_266 rfl (S := []) rfl (Nat.le_of_ble_eq_true rfl) (k_X8_has (by omega) x3 x6 H _ e_v5 ?_)
      show V (D + 1) RX8 mdX8_missed 59 [.ref 60, .int x1, .int x2, .int x3, .int x4, .int x5, .int x6] [.int v5] H post
      obtain ⟨j10, e_j10, h⟩ := bnd h
      have kj12 : V (D + 1) RX8 mdX8_missed 100 [.ref 60, .int x1, .int x2, .int x3, .int j10.1, .int j10.2.1, .int x6] [] j10.2.2 post := by
        refine st_iinc dX8_missed_100 rfl (v := (x6 + 1)) rfl (by decide) [.ref 60, .int x1, .int x2, .int x3, .int j10.1, .int j10.2.1, .int (x6 + 1)] rfl ?_
        refine st_goto dX8_missed_103 46 (by decide) ?_
        exact ih j10.1 j10.2.1 (x6 + 1) j10.2.2 q h k1
      refine st_if_eq dX8_missed_59 100 (by decide) (fun c13 => ?_) (fun c13 => ?_)
      · replace e_j10 := (if_pos c13).symm.trans e_j10
        obtain rfl := Option.some.inj e_j10
        exact kj12
      · replace e_j10 := (if_neg c13).symm.trans e_j10
        refine st_aload_n dX8_missed_62 rfl rfl ?_
        refine st_iconst dX8_missed_63 (v := 1) rfl ?_
        refine st_iload dX8_missed_64 rfl ?_
        refine st_ishl dX8_missed_66 ?_
        obtain ⟨H6, e_H6, e_j10⟩ := bnd e_j10
        refine st_callV [.int ((1 : Int32) <<< (x6 &&& 31))] dX8_missed_67 co_X8_layWithout im_X8_layWithout se_X8_layWithout ml_RX8_272 rfl (by decide) rfl (rfl : classes[8]? = some (RX8, TX8, 30)) rfl (S := []) rfl (Nat.le_of_ble_eq_true rfl) (k_X8_layWithout (by omega) ((1 : Int32) <<< (x6 &&& 31)) H _ e_H6 ?_)
        show V (D + 1) RX8 mdX8_missed 70 [.ref 60, .int x1, .int x2, .int x3, .int x4, .int x5, .int x6] [] H6 post
        refine st_iload dX8_missed_70 rfl ?_
        refine st_ldc dX8_missed_72 cn_RX8_105 ?_
        refine st_ic_eq dX8_missed_74 88 (by decide) (fun c14 => ?_) (fun c14 => ?_)
        · replace e_j10 := (if_pos c14).symm.trans e_j10
          refine st_iload dX8_missed_88 rfl ?_
          refine st_istore dX8_missed_90 (by decide) [.ref 60, .int x1, .int x2, .int x3, .int x6, .int x5, .int x6] rfl ?_
          refine st_aload_n dX8_missed_92 rfl rfl ?_
          refine gR8 dX8_missed_93 (by decide) rfl 23 (by decide) fl_RX8_46 rfl 73 rfl ?_
          refine st_iload_n dX8_missed_96 rfl rfl ?_
          obtain ⟨v7, e_v7, e_j10⟩ := bnd e_j10
          refine st_iald dX8_missed_97 (by decide) rfl v7 e_v7 ?_
          refine st_istore dX8_missed_98 (by decide) [.ref 60, .int x1, .int x2, .int x3, .int x6, .int v7, .int x6] rfl ?_
          obtain rfl := Option.some.inj e_j10
          exact kj12
        · replace e_j10 := (if_neg c14).symm.trans e_j10
          refine st_aload_n dX8_missed_77 rfl rfl ?_
          refine gR8 dX8_missed_78 (by decide) rfl 23 (by decide) fl_RX8_46 rfl 73 rfl ?_
          refine st_iload_n dX8_missed_81 rfl rfl ?_
          obtain ⟨v8, e_v8, e_j10⟩ := bnd e_j10
          refine st_iald dX8_missed_82 (by decide) rfl v8 e_v8 ?_
          refine st_iload dX8_missed_83 rfl ?_
          refine st_ic_ge dX8_missed_85 100 (by decide) (fun c15 => ?_) (fun c15 => ?_)
          · replace e_j10 := (if_pos c15).symm.trans e_j10
            obtain rfl := Option.some.inj e_j10
            exact kj12
          · replace e_j10 := (if_neg c15).symm.trans e_j10
            refine st_iload dX8_missed_88 rfl ?_
            refine st_istore dX8_missed_90 (by decide) [.ref 60, .int x1, .int x2, .int x3, .int x6, .int x5, .int x6] rfl ?_
            refine st_aload_n dX8_missed_92 rfl rfl ?_
            refine gR8 dX8_missed_93 (by decide) rfl 23 (by decide) fl_RX8_46 rfl 73 rfl ?_
            refine st_iload_n dX8_missed_96 rfl rfl ?_
            obtain ⟨v9, e_v9, e_j10⟩ := bnd e_j10
            refine st_iald dX8_missed_97 (by decide) rfl v9 e_v9 ?_
            refine st_istore dX8_missed_98 (by decide) [.ref 60, .int x1, .int x2, .int x3, .int x6, .int v9, .int x6] rfl ?_
            obtain rfl := Option.some.inj e_j10
            exact kj12
set_option maxHeartbeats 4000000 in
set_option maxRecDepth 100000 in
theorem k_X8_missed {D : Nat} (hD : 5 ≤ D) (x1 : Int32) (x2 : Int32) (H : Hp) (q : Int32 × Hp) (h : f_X8_missed x1 x2 H = some q) {post : Option Value → Hp → Prop} (hp : post (some (.int q.1)) q.2) : Sem D mdX8_missed [.ref 60, .int x1, .int x2] H post := by
  obtain ⟨D, rfl⟩ : ∃ E, D = E + 1 := ⟨D - 1, by omega⟩
  refine sem_of (own := RX8) rfl pn_RX8 (Nat.le_of_ble_eq_true rfl) [.ref 60, .int x1, .int x2, .null, .null, .null, .null] ⟨Or.inr rfl, Or.inr rfl, Or.inr rfl, rfl, rfl, rfl, rfl, trivial⟩ ?_
  unfold f_X8_missed at h
  refine st_aload_n dX8_missed_0 rfl rfl ?_
  refine st_iconst dX8_missed_1 (v := 0) rfl ?_
  obtain ⟨H1, e_H1, h⟩ := bnd h
  refine pI8 dX8_missed_2 (by decide) rfl 0 (by decide) fl_RX8_62 rfl rfl rfl rfl e_H1 ?_
  refine st_aload_n dX8_missed_5 rfl rfl ?_
  refine st_iload_n dX8_missed_6 rfl rfl ?_
  obtain ⟨v2, e_v2, h⟩ := bnd h
  refine st_callV [.int x1] dX8_missed_7 co_X8_isProject im_X8_isProject se_X8_isProject ml_RX8_238 rfl (by decide) rfl (rfl : classes[8]? = some (RX8, TX8, 30)) rfl (S := []) rfl (Nat.le_of_ble_eq_true rfl) (k_X8_isProject (by omega) x1 H1 _ e_v2 ?_)
  show V (D + 1) RX8 mdX8_missed 10 [.ref 60, .int x1, .int x2, .null, .null, .null, .null] [.int v2] H1 post
  refine st_if_eq dX8_missed_10 23 (by decide) (fun c17 => ?_) (fun c17 => ?_)
  · replace h := (if_pos c17).symm.trans h
    refine st_ldc dX8_missed_23 cn_RX8_82 ?_
    obtain rfl := Option.some.inj h
    exact st_iret dX8_missed_25 rfl hp
  · replace h := (if_neg c17).symm.trans h
    refine st_iload_n dX8_missed_13 rfl rfl ?_
    refine st_i2l dX8_missed_14 ?_
    refine st_lconst dX8_missed_15 (v := 0) rfl ?_
    refine st_lconst dX8_missed_16 (v := 1) rfl ?_
    obtain ⟨v3, e_v3, h⟩ := bnd h
    refine st_callS [.long x2.toInt64, .long 0, .long 1] dX8_missed_17 co_X8_in sm_X8_in ml_RX8_72 rfl (S := []) rfl (Nat.le_of_ble_eq_true rfl) (k_X8_in (by omega) x2.toInt64 0 1 H1 _ e_v3 ?_)
    show V (D + 1) RX8 mdX8_missed 20 [.ref 60, .int x1, .int x2, .null, .null, .null, .null] [.int v3] H1 post
    refine st_if_ne dX8_missed_20 26 (by decide) (fun c18 => ?_) (fun c18 => ?_)
    · replace h := (if_neg c18).symm.trans h
      refine st_aload_n dX8_missed_26 rfl rfl ?_
      refine st_aload_n dX8_missed_27 rfl rfl ?_
      refine gR8 dX8_missed_28 (by decide) rfl 5 (by decide) fl_RX8_19 rfl 64 rfl ?_
      obtain ⟨q4, e_q4, h⟩ := bnd h
      refine st_callV [.ref 64] dX8_missed_31 co_X8_givers im_X8_givers se_X8_givers ml_RX8_269 rfl (by decide) rfl (rfl : classes[8]? = some (RX8, TX8, 30)) rfl (S := []) rfl (Nat.le_of_ble_eq_true rfl) (k_X8_givers (by omega) RC64 H1 _ e_q4 ?_)
      show V (D + 1) RX8 mdX8_missed 34 [.ref 60, .int x1, .int x2, .null, .null, .null, .null] [.int q4.1] q4.2 post
      refine st_istore_n dX8_missed_34 rfl (by decide) [.ref 60, .int x1, .int x2, .int q4.1, .null, .null, .null] rfl ?_
      refine st_ldc dX8_missed_35 cn_RX8_105 ?_
      refine st_istore dX8_missed_37 (by decide) [.ref 60, .int x1, .int x2, .int q4.1, .int (-1000000), .null, .null] rfl ?_
      refine st_ldc dX8_missed_39 cn_RX8_105 ?_
      refine st_istore dX8_missed_41 (by decide) [.ref 60, .int x1, .int x2, .int q4.1, .int (-1000000), .int (-1000000), .null] rfl ?_
      refine st_iconst dX8_missed_43 (v := 0) rfl ?_
      refine st_istore dX8_missed_44 (by decide) [.ref 60, .int x1, .int x2, .int q4.1, .int (-1000000), .int (-1000000), .int 0] rfl ?_
      obtain ⟨l16, e_l16, h⟩ := bnd h
      refine k_X8_missed_l46 (by omega) x1 q4.1 x2 fuel (-1000000) (-1000000) 0 q4.2 _ e_l16 ?_
      refine st_iload_n dX8_missed_106 rfl rfl ?_
      have kj20 : ∀ z19 : Int32, z19 = (if x2 = 0 then l16.1 else l16.2.1) → V (D + 1) RX8 mdX8_missed 117 [.null, .null, .null, .null, .null, .null, .null] [.int z19] l16.2.2 post := by
        intro z19 ez19
        subst ez19
        obtain rfl := Option.some.inj h
        exact st_iret dX8_missed_117 rfl hp
      refine st_if_ne dX8_missed_107 115 (by decide) (fun c21 => ?_) (fun c21 => ?_)
      · refine st_iload dX8_missed_115 rfl ?_
        exact st_sub [.null, .null, .null, .null, .null, .null, .null] ⟨Or.inl rfl, Or.inl rfl, Or.inl rfl, Or.inl rfl, Or.inl rfl, Or.inl rfl, Or.inl rfl, trivial⟩ (kj20 _ (Eq.symm (if_neg c21)))
      · refine st_iload dX8_missed_110 rfl ?_
        refine st_goto dX8_missed_112 117 (by decide) ?_
        exact st_sub [.null, .null, .null, .null, .null, .null, .null] ⟨Or.inl rfl, Or.inl rfl, Or.inl rfl, Or.inl rfl, Or.inl rfl, Or.inl rfl, Or.inl rfl, trivial⟩ (kj20 _ (Eq.symm (if_pos c21)))
    · replace h := (if_pos c18).symm.trans h
      refine st_ldc dX8_missed_23 cn_RX8_82 ?_
      obtain rfl := Option.some.inj h
      exact st_iret dX8_missed_25 rfl hp
def f_X8_ring_l63 (H : Hp) (x5 : Int32) : Nat → Int32 → Int32 → Int32 → Int32 → Option (Int32 × Int32 × Int32)
  | 0, _, _, _, _ => none
  | n + 1, x2, x3, x4, x6 =>
    if 10 ≤ x6 then
      some (x2, x3, x4)
    else
      (ag H 71 100 ((10 * x5) + x6)).bind fun v5 =>
      Option.bind (
        if v5 ≤ x4 then
          some (x2, x3, x4)
        else
          (ag H 71 100 ((10 * x5) + x6)).bind fun v6 =>
          some (x5, x6, v6)) fun j7 =>
      f_X8_ring_l63 H x5 n j7.1 j7.2.1 j7.2.2 (x6 + 1)
def f_X8_ring_l50 (H : Hp) : Nat → Int32 → Int32 → Int32 → Int32 → Option (Int32 × Int32 × Int32)
  | 0, _, _, _, _ => none
  | n + 1, x2, x3, x4, x5 =>
    if 10 ≤ x5 then
      some (x2, x3, x4)
    else
      (f_X8_ring_l63 H x5 fuel x2 x3 x4 (x5 + 1)).bind fun l11 =>
      f_X8_ring_l50 H n l11.1 l11.2.1 l11.2.2 (x5 + 1)
def f_X8_ring (x1 : Int32) (H : Hp) : Option (Int32 × Hp) :=
  (pf H 60 0 0).bind fun H1 =>
  (f_X8_isThere H1).bind fun v2 =>
  if v2 = 0 then
    some ((-1000002), H1)
  else
    (f_X8_in x1.toInt64 0 2).bind fun v3 =>
    if v3 = 0 then
      some ((-1000001), H1)
    else
      (f_X8_lookAt 64 H1).bind fun H4 =>
      (f_X8_ring_l50 H4 fuel (-1000000) (-1000000) 0 0).bind fun l13 =>
      some ((if x1 = 0 then l13.1 else (if x1 = 1 then l13.2.1 else (if l13.2.2 = 0 then (-1000000) else l13.2.2))), H4)
set_option maxHeartbeats 4000000 in
set_option maxRecDepth 100000 in
theorem k_X8_ring_l63 {D : Nat} (hD : 2 ≤ (D + 1)) (H : Hp) (x5 : Int32) (x1 : Int32) {post : Option Value → Hp → Prop} : ∀ (n : Nat) (x2 : Int32) (x3 : Int32) (x4 : Int32) (x6 : Int32) (q : Int32 × Int32 × Int32), f_X8_ring_l63 H x5 n x2 x3 x4 x6 = some q → V (D + 1) RX8 mdX8_ring 115 [.ref 60, .int x1, .int q.1, .int q.2.1, .int q.2.2, .int x5, .null] [] H post → V (D + 1) RX8 mdX8_ring 63 [.ref 60, .int x1, .int x2, .int x3, .int x4, .int x5, .int x6] [] H post := by
  intro n
  induction n with
  | zero => intro x2 x3 x4 x6 q h; simp [f_X8_ring_l63] at h
  | succ n ih =>
    intro x2 x3 x4 x6 q h k1
    rw [f_X8_ring_l63] at h
    refine st_iload dX8_ring_63 rfl ?_
    refine st_bipush dX8_ring_65 (v := 10) (by decide) ?_
    refine st_ic_ge dX8_ring_67 115 (by decide) (fun c8 => ?_) (fun c8 => ?_)
    · replace h := (if_pos c8).symm.trans h
      obtain rfl := Option.some.inj h
      exact st_sub [.ref 60, .int x1, .int x2, .int x3, .int x4, .int x5, .null] ⟨Or.inr rfl, Or.inr rfl, Or.inr rfl, Or.inr rfl, Or.inr rfl, Or.inr rfl, Or.inl rfl, trivial⟩ k1
    · replace h := (if_neg c8).symm.trans h
      refine st_aload_n dX8_ring_70 rfl rfl ?_
      refine gR8 dX8_ring_71 (by decide) rfl 21 (by decide) fl_RX8_40 rfl 71 rfl ?_
      refine st_bipush dX8_ring_74 (v := 10) (by decide) ?_
      refine st_iload dX8_ring_76 rfl ?_
      refine st_imul dX8_ring_78 ?_
      refine st_iload dX8_ring_79 rfl ?_
      refine st_iadd dX8_ring_81 ?_
      obtain ⟨v5, e_v5, h⟩ := bnd h
      refine st_iald dX8_ring_82 (by decide) rfl v5 e_v5 ?_
      refine st_iload dX8_ring_83 rfl ?_
      obtain ⟨j7, e_j7, h⟩ := bnd h
      have kj9 : V (D + 1) RX8 mdX8_ring 109 [.ref 60, .int x1, .int j7.1, .int j7.2.1, .int j7.2.2, .int x5, .int x6] [] H post := by
        refine st_iinc dX8_ring_109 rfl (v := (x6 + 1)) rfl (by decide) [.ref 60, .int x1, .int j7.1, .int j7.2.1, .int j7.2.2, .int x5, .int (x6 + 1)] rfl ?_
        refine st_goto dX8_ring_112 63 (by decide) ?_
        exact ih j7.1 j7.2.1 j7.2.2 (x6 + 1) q h k1
      refine st_ic_le dX8_ring_85 109 (by decide) (fun c10 => ?_) (fun c10 => ?_)
      · replace e_j7 := (if_pos c10).symm.trans e_j7
        obtain rfl := Option.some.inj e_j7
        exact kj9
      · replace e_j7 := (if_neg c10).symm.trans e_j7
        refine st_iload dX8_ring_88 rfl ?_
        refine st_istore_n dX8_ring_90 rfl (by decide) [.ref 60, .int x1, .int x5, .int x3, .int x4, .int x5, .int x6] rfl ?_
        refine st_iload dX8_ring_91 rfl ?_
        refine st_istore_n dX8_ring_93 rfl (by decide) [.ref 60, .int x1, .int x5, .int x6, .int x4, .int x5, .int x6] rfl ?_
        refine st_aload_n dX8_ring_94 rfl rfl ?_
        refine gR8 dX8_ring_95 (by decide) rfl 21 (by decide) fl_RX8_40 rfl 71 rfl ?_
        refine st_bipush dX8_ring_98 (v := 10) (by decide) ?_
        refine st_iload dX8_ring_100 rfl ?_
        refine st_imul dX8_ring_102 ?_
        refine st_iload dX8_ring_103 rfl ?_
        refine st_iadd dX8_ring_105 ?_
        obtain ⟨v6, e_v6, e_j7⟩ := bnd e_j7
        refine st_iald dX8_ring_106 (by decide) rfl v6 e_v6 ?_
        refine st_istore dX8_ring_107 (by decide) [.ref 60, .int x1, .int x5, .int x6, .int v6, .int x5, .int x6] rfl ?_
        obtain rfl := Option.some.inj e_j7
        exact kj9
set_option maxHeartbeats 4000000 in
set_option maxRecDepth 100000 in
theorem k_X8_ring_l50 {D : Nat} (hD : 2 ≤ (D + 1)) (H : Hp) (x1 : Int32) {post : Option Value → Hp → Prop} : ∀ (n : Nat) (x2 : Int32) (x3 : Int32) (x4 : Int32) (x5 : Int32) (q : Int32 × Int32 × Int32), f_X8_ring_l50 H n x2 x3 x4 x5 = some q → V (D + 1) RX8 mdX8_ring 121 [.null, .int x1, .int q.1, .int q.2.1, .int q.2.2, .null, .null] [] H post → V (D + 1) RX8 mdX8_ring 50 [.ref 60, .int x1, .int x2, .int x3, .int x4, .int x5, .null] [] H post := by
  intro n
  induction n with
  | zero => intro x2 x3 x4 x5 q h; simp [f_X8_ring_l50] at h
  | succ n ih =>
    intro x2 x3 x4 x5 q h k1
    rw [f_X8_ring_l50] at h
    refine st_iload dX8_ring_50 rfl ?_
    refine st_bipush dX8_ring_52 (v := 10) (by decide) ?_
    refine st_ic_ge dX8_ring_54 121 (by decide) (fun c12 => ?_) (fun c12 => ?_)
    · replace h := (if_pos c12).symm.trans h
      obtain rfl := Option.some.inj h
      exact st_sub [.null, .int x1, .int x2, .int x3, .int x4, .null, .null] ⟨Or.inl rfl, Or.inr rfl, Or.inr rfl, Or.inr rfl, Or.inr rfl, Or.inl rfl, Or.inl rfl, trivial⟩ k1
    · replace h := (if_neg c12).symm.trans h
      refine st_iload dX8_ring_57 rfl ?_
      refine st_iconst dX8_ring_59 (v := 1) rfl ?_
      refine st_iadd dX8_ring_60 ?_
      refine st_istore dX8_ring_61 (by decide) [.ref 60, .int x1, .int x2, .int x3, .int x4, .int x5, .int (x5 + 1)] rfl ?_
      obtain ⟨l11, e_l11, h⟩ := bnd h
      refine k_X8_ring_l63 (by omega) H x5 x1 fuel x2 x3 x4 (x5 + 1) _ e_l11 ?_
      refine st_iinc dX8_ring_115 rfl (v := (x5 + 1)) rfl (by decide) [.ref 60, .int x1, .int l11.1, .int l11.2.1, .int l11.2.2, .int (x5 + 1), .null] rfl ?_
      refine st_goto dX8_ring_118 50 (by decide) ?_
      exact ih l11.1 l11.2.1 l11.2.2 (x5 + 1) q h k1
set_option maxHeartbeats 4000000 in
set_option maxRecDepth 100000 in
theorem k_X8_ring {D : Nat} (hD : 2 ≤ D) (x1 : Int32) (H : Hp) (q : Int32 × Hp) (h : f_X8_ring x1 H = some q) {post : Option Value → Hp → Prop} (hp : post (some (.int q.1)) q.2) : Sem D mdX8_ring [.ref 60, .int x1] H post := by
  obtain ⟨D, rfl⟩ : ∃ E, D = E + 1 := ⟨D - 1, by omega⟩
  refine sem_of (own := RX8) rfl pn_RX8 (Nat.le_of_ble_eq_true rfl) [.ref 60, .int x1, .null, .null, .null, .null, .null] ⟨Or.inr rfl, Or.inr rfl, rfl, rfl, rfl, rfl, rfl, trivial⟩ ?_
  unfold f_X8_ring at h
  refine st_aload_n dX8_ring_0 rfl rfl ?_
  refine st_iconst dX8_ring_1 (v := 0) rfl ?_
  obtain ⟨H1, e_H1, h⟩ := bnd h
  refine pI8 dX8_ring_2 (by decide) rfl 0 (by decide) fl_RX8_62 rfl rfl rfl rfl e_H1 ?_
  refine st_aload_n dX8_ring_5 rfl rfl ?_
  obtain ⟨v2, e_v2, h⟩ := bnd h
  refine st_callV [] dX8_ring_6 co_X8_isThere im_X8_isThere se_X8_isThere ml_RX8_174 rfl (by decide) rfl (rfl : classes[8]? = some (RX8, TX8, 30)) rfl (S := []) rfl (Nat.le_of_ble_eq_true rfl) (k_X8_isThere (by omega) H1 _ e_v2 ?_)
  show V (D + 1) RX8 mdX8_ring 9 [.ref 60, .int x1, .null, .null, .null, .null, .null] [.int v2] H1 post
  refine st_if_ne dX8_ring_9 15 (by decide) (fun c14 => ?_) (fun c14 => ?_)
  · replace h := (if_neg c14).symm.trans h
    refine st_iload_n dX8_ring_15 rfl rfl ?_
    refine st_i2l dX8_ring_16 ?_
    refine st_lconst dX8_ring_17 (v := 0) rfl ?_
    refine st_ldc2 dX8_ring_18 cl_RX8_80 ?_
    obtain ⟨v3, e_v3, h⟩ := bnd h
    refine st_callS [.long x1.toInt64, .long 0, .long 2] dX8_ring_21 co_X8_in sm_X8_in ml_RX8_72 rfl (S := []) rfl (Nat.le_of_ble_eq_true rfl) (k_X8_in (by omega) x1.toInt64 0 2 H1 _ e_v3 ?_)
    show V (D + 1) RX8 mdX8_ring 24 [.ref 60, .int x1, .null, .null, .null, .null, .null] [.int v3] H1 post
    refine st_if_ne dX8_ring_24 30 (by decide) (fun c15 => ?_) (fun c15 => ?_)
    · replace h := (if_neg c15).symm.trans h
      refine st_aload_n dX8_ring_30 rfl rfl ?_
      refine st_aload_n dX8_ring_31 rfl rfl ?_
      refine gR8 dX8_ring_32 (by decide) rfl 5 (by decide) fl_RX8_19 rfl 64 rfl ?_
      obtain ⟨H4, e_H4, h⟩ := bnd h
      refine st_callV [.ref 64] dX8_ring_35 co_X8_lookAt im_X8_lookAt se_X8_lookAt ml_RX8_219 rfl (by decide) rfl (rfl : classes[8]? = some (RX8, TX8, 30)) rfl (S := []) rfl (Nat.le_of_ble_eq_true rfl) (k_X8_lookAt (by omega) RC64 H1 _ e_H4 ?_)
      show V (D + 1) RX8 mdX8_ring 38 [.ref 60, .int x1, .null, .null, .null, .null, .null] [] H4 post
      refine st_ldc dX8_ring_38 cn_RX8_105 ?_
      refine st_istore_n dX8_ring_40 rfl (by decide) [.ref 60, .int x1, .int (-1000000), .null, .null, .null, .null] rfl ?_
      refine st_ldc dX8_ring_41 cn_RX8_105 ?_
      refine st_istore_n dX8_ring_43 rfl (by decide) [.ref 60, .int x1, .int (-1000000), .int (-1000000), .null, .null, .null] rfl ?_
      refine st_iconst dX8_ring_44 (v := 0) rfl ?_
      refine st_istore dX8_ring_45 (by decide) [.ref 60, .int x1, .int (-1000000), .int (-1000000), .int 0, .null, .null] rfl ?_
      refine st_iconst dX8_ring_47 (v := 0) rfl ?_
      refine st_istore dX8_ring_48 (by decide) [.ref 60, .int x1, .int (-1000000), .int (-1000000), .int 0, .int 0, .null] rfl ?_
      obtain ⟨l13, e_l13, h⟩ := bnd h
      refine k_X8_ring_l50 (by omega) H4 x1 fuel (-1000000) (-1000000) 0 0 _ e_l13 ?_
      refine st_iload_n dX8_ring_121 rfl rfl ?_
      have kj17 : ∀ z16 : Int32, z16 = (if x1 = 0 then l13.1 else (if x1 = 1 then l13.2.1 else (if l13.2.2 = 0 then (-1000000) else l13.2.2))) → V (D + 1) RX8 mdX8_ring 150 [.null, .null, .null, .null, .null, .null, .null] [.int z16] H4 post := by
        intro z16 ez16
        subst ez16
        obtain rfl := Option.some.inj h
        exact st_iret dX8_ring_150 rfl hp
      refine st_if_ne dX8_ring_122 129 (by decide) (fun c18 => ?_) (fun c18 => ?_)
      · refine st_iload_n dX8_ring_129 rfl rfl ?_
        refine st_iconst dX8_ring_130 (v := 1) rfl ?_
        refine st_ic_ne dX8_ring_131 138 (by decide) (fun c19 => ?_) (fun c19 => ?_)
        · refine st_iload dX8_ring_138 rfl ?_
          refine st_if_ne dX8_ring_140 148 (by decide) (fun c20 => ?_) (fun c20 => ?_)
          · refine st_iload dX8_ring_148 rfl ?_
            exact st_sub [.null, .null, .null, .null, .null, .null, .null] ⟨Or.inl rfl, Or.inl rfl, Or.inl rfl, Or.inl rfl, Or.inl rfl, Or.inl rfl, Or.inl rfl, trivial⟩ (kj17 _ (Eq.symm ((if_neg c18).trans ((if_neg c19).trans (if_neg c20)))))
          · refine st_ldc dX8_ring_143 cn_RX8_105 ?_
            refine st_goto dX8_ring_145 150 (by decide) ?_
            exact st_sub [.null, .null, .null, .null, .null, .null, .null] ⟨Or.inl rfl, Or.inl rfl, Or.inl rfl, Or.inl rfl, Or.inl rfl, Or.inl rfl, Or.inl rfl, trivial⟩ (kj17 _ (Eq.symm ((if_neg c18).trans ((if_neg c19).trans (if_pos c20)))))
        · refine st_iload_n dX8_ring_134 rfl rfl ?_
          refine st_goto dX8_ring_135 150 (by decide) ?_
          exact st_sub [.null, .null, .null, .null, .null, .null, .null] ⟨Or.inl rfl, Or.inl rfl, Or.inl rfl, Or.inl rfl, Or.inl rfl, Or.inl rfl, Or.inl rfl, trivial⟩ (kj17 _ (Eq.symm ((if_neg c18).trans (if_pos c19))))
      · refine st_iload_n dX8_ring_125 rfl rfl ?_
        refine st_goto dX8_ring_126 150 (by decide) ?_
        exact st_sub [.null, .null, .null, .null, .null, .null, .null] ⟨Or.inl rfl, Or.inl rfl, Or.inl rfl, Or.inl rfl, Or.inl rfl, Or.inl rfl, Or.inl rfl, trivial⟩ (kj17 _ (Eq.symm (if_pos c18)))
    · replace h := (if_pos c15).symm.trans h
      refine st_ldc dX8_ring_27 cn_RX8_82 ?_
      obtain rfl := Option.some.inj h
      exact st_iret dX8_ring_29 rfl hp
  · replace h := (if_pos c14).symm.trans h
    refine st_ldc dX8_ring_12 cn_RX8_253 ?_
    obtain rfl := Option.some.inj h
    exact st_iret dX8_ring_14 rfl hp
def f_X8_halves_l73 (x1 : Int32) (x2 : Int32) (x3 : Int32) (x4 : Int32) : Nat → Int32 → Int32 → Int32 → Hp → Option (Int32 × Int32 × Hp)
  | 0, _, _, _, _ => none
  | n + 1, x6, x7, x8, H =>
    if x2 < x8 then
      some (x6, x7, H)
    else
      (f_X8_layThen H).bind fun H7 =>
      Option.bind (
        if x8 ≤ 0 then
          some H7
        else
          (f_X8_put 66 x1 x3 x8 H7).bind fun H8 =>
          some H8) fun j9 =>
      Option.bind (
        if x2 ≤ x8 then
          some j9
        else
          (f_X8_put 66 x1 x4 (x2 - x8) j9).bind fun H10 =>
          some H10) fun j11 =>
      (f_X8_reckon 66 j11).bind fun H12 =>
      Option.bind (
        if x3 = x4 then
          (ag H12 73 6 x3).bind fun v13 =>
          some v13
        else
          (ag H12 73 6 x3).bind fun v14 =>
          (ag H12 73 6 x4).bind fun v15 =>
          some (v14 + v15)) fun j16 =>
      f_X8_halves_l73 x1 x2 x3 x4 n (if x6 = (-1000000) then x8 else (if j16 ≤ x7 then x6 else x8)) (if x6 = (-1000000) then j16 else (if j16 ≤ x7 then x7 else j16)) (x8 + 1) H12
def f_X8_halves (x1 : Int32) (x2 : Int32) (x3 : Int32) (x4 : Int32) (x5 : Int32) (H : Hp) : Option (Int32 × Hp) :=
  (pf H 60 0 0).bind fun H1 =>
  (f_X8_isGiving x1 x3 H1).bind fun v2 =>
  if v2 = 0 then
    some ((-1000001), H1)
  else
    (f_X8_in x2.toInt64 1 40).bind fun v3 =>
    if v3 = 0 then
      some ((-1000001), H1)
    else
      (f_X8_isProject x4 H1).bind fun v4 =>
      if v4 = 0 then
        some ((-1000001), H1)
      else
        (f_X8_in x5.toInt64 0 1).bind fun v5 =>
        if v5 = 0 then
          some ((-1000001), H1)
        else
          (ag H1 64 80 3).bind fun v6 =>
          if v6 ≤ 18 then
            (f_X8_halves_l73 x1 x2 x3 x4 fuel (-1000000) 0 0 H1).bind fun l29 =>
            some ((if x5 = 0 then l29.1 else l29.2.1), l29.2.2)
          else
            some ((-1000003), H1)
set_option maxHeartbeats 4000000 in
set_option maxRecDepth 100000 in
theorem k_X8_halves_l73 {D : Nat} (hD : 4 ≤ (D + 1)) (x1 : Int32) (x2 : Int32) (x3 : Int32) (x4 : Int32) (x5 : Int32) {post : Option Value → Hp → Prop} : ∀ (n : Nat) (x6 : Int32) (x7 : Int32) (x8 : Int32) (H : Hp) (q : Int32 × Int32 × Hp), f_X8_halves_l73 x1 x2 x3 x4 n x6 x7 x8 H = some q → V (D + 1) RX8 mdX8_halves 186 [.null, .null, .null, .null, .null, .int x5, .int q.1, .int q.2.1, .null, .null] [] q.2.2 post → V (D + 1) RX8 mdX8_halves 73 [.ref 60, .int x1, .int x2, .int x3, .int x4, .int x5, .int x6, .int x7, .int x8, .null] [] H post := by
  intro n
  induction n with
  | zero => intro x6 x7 x8 H q h; simp [f_X8_halves_l73] at h
  | succ n ih =>
    intro x6 x7 x8 H q h k1
    rw [f_X8_halves_l73] at h
    refine st_iload dX8_halves_73 rfl ?_
    refine st_iload_n dX8_halves_75 rfl rfl ?_
    refine st_ic_gt dX8_halves_76 186 (by decide) (fun c17 => ?_) (fun c17 => ?_)
    · replace h := (if_pos c17).symm.trans h
      obtain rfl := Option.some.inj h
      exact st_sub [.null, .null, .null, .null, .null, .int x5, .int x6, .int x7, .null, .null] ⟨Or.inl rfl, Or.inl rfl, Or.inl rfl, Or.inl rfl, Or.inl rfl, Or.inr rfl, Or.inr rfl, Or.inr rfl, Or.inl rfl, Or.inl rfl, trivial⟩ k1
    · replace h := (if_neg c17).symm.trans h
      refine st_aload_n dX8_halves_79 rfl rfl ?_
      obtain ⟨H7, e_H7, h⟩ := bnd h
      refine st_callV [] dX8_halves_80 co_X8_layThen im_X8_layThen se_X8_layThen ml_RX8_229 rfl (by decide) rfl (rfl : classes[8]? = some (RX8, TX8, 30)) rfl (S := []) rfl (Nat.le_of_ble_eq_true rfl) (k_X8_layThen (by omega) H _ e_H7 ?_)
      show V (D + 1) RX8 mdX8_halves 83 [.ref 60, .int x1, .int x2, .int x3, .int x4, .int x5, .int x6, .int x7, .int x8, .null] [] H7 post
      refine st_iload dX8_halves_83 rfl ?_
      obtain ⟨j9, e_j9, h⟩ := bnd h
      have kj18 : V (D + 1) RX8 mdX8_halves 99 [.ref 60, .int x1, .int x2, .int x3, .int x4, .int x5, .int x6, .int x7, .int x8, .null] [] j9 post := by
        refine st_iload dX8_halves_99 rfl ?_
        refine st_iload_n dX8_halves_101 rfl rfl ?_
        obtain ⟨j11, e_j11, h⟩ := bnd h
        have kj19 : V (D + 1) RX8 mdX8_halves 119 [.ref 60, .int x1, .int x2, .int x3, .int x4, .int x5, .int x6, .int x7, .int x8, .null] [] j11 post := by
          refine st_aload_n dX8_halves_119 rfl rfl ?_
          refine st_aload_n dX8_halves_120 rfl rfl ?_
          refine gR8 dX8_halves_121 (by decide) rfl 7 (by decide) fl_RX8_25 rfl 66 rfl ?_
          obtain ⟨H12, e_H12, h⟩ := bnd h
          refine st_callV [.ref 66] dX8_halves_124 co_X8_reckon im_X8_reckon se_X8_reckon ml_RX8_232 rfl (by decide) rfl (rfl : classes[8]? = some (RX8, TX8, 30)) rfl (S := []) rfl (Nat.le_of_ble_eq_true rfl) (k_X8_reckon (by omega) RC66 j11 _ e_H12 ?_)
          show V (D + 1) RX8 mdX8_halves 127 [.ref 60, .int x1, .int x2, .int x3, .int x4, .int x5, .int x6, .int x7, .int x8, .null] [] H12 post
          refine st_iload_n dX8_halves_127 rfl rfl ?_
          refine st_iload dX8_halves_128 rfl ?_
          obtain ⟨j16, e_j16, h⟩ := bnd h
          have kj20 : V (D + 1) RX8 mdX8_halves 156 [.ref 60, .int x1, .int x2, .int x3, .int x4, .int x5, .int x6, .int x7, .int x8, .null] [.int j16] H12 post := by
            refine st_istore dX8_halves_156 (by decide) [.ref 60, .int x1, .int x2, .int x3, .int x4, .int x5, .int x6, .int x7, .int x8, .int j16] rfl ?_
            refine st_iload dX8_halves_158 rfl ?_
            refine st_ldc dX8_halves_160 cn_RX8_105 ?_
            have kj23 : ∀ z21 : Int32, z21 = (if x6 = (-1000000) then x8 else (if j16 ≤ x7 then x6 else x8)) → ∀ z22 : Int32, z22 = (if x6 = (-1000000) then j16 else (if j16 ≤ x7 then x7 else j16)) → V (D + 1) RX8 mdX8_halves 180 [.ref 60, .int x1, .int x2, .int x3, .int x4, .int x5, .int z21, .int z22, .int x8, .null] [] H12 post := by
              intro z21 ez21 z22 ez22
              subst ez21
              subst ez22
              refine st_iinc dX8_halves_180 rfl (v := (x8 + 1)) rfl (by decide) [.ref 60, .int x1, .int x2, .int x3, .int x4, .int x5, .int (if x6 = (-1000000) then x8 else (if j16 ≤ x7 then x6 else x8)), .int (if x6 = (-1000000) then j16 else (if j16 ≤ x7 then x7 else j16)), .int (x8 + 1), .null] rfl ?_
              refine st_goto dX8_halves_183 73 (by decide) ?_
              exact ih (if x6 = (-1000000) then x8 else (if j16 ≤ x7 then x6 else x8)) (if x6 = (-1000000) then j16 else (if j16 ≤ x7 then x7 else j16)) (x8 + 1) H12 q h k1
            refine st_ic_eq dX8_halves_162 172 (by decide) (fun c24 => ?_) (fun c24 => ?_)
            · refine st_iload dX8_halves_172 rfl ?_
              refine st_istore dX8_halves_174 (by decide) [.ref 60, .int x1, .int x2, .int x3, .int x4, .int x5, .int x8, .int x7, .int x8, .int j16] rfl ?_
              refine st_iload dX8_halves_176 rfl ?_
              refine st_istore dX8_halves_178 (by decide) [.ref 60, .int x1, .int x2, .int x3, .int x4, .int x5, .int x8, .int j16, .int x8, .int j16] rfl ?_
              exact st_sub [.ref 60, .int x1, .int x2, .int x3, .int x4, .int x5, .int x8, .int j16, .int x8, .null] ⟨Or.inr rfl, Or.inr rfl, Or.inr rfl, Or.inr rfl, Or.inr rfl, Or.inr rfl, Or.inr rfl, Or.inr rfl, Or.inr rfl, Or.inl rfl, trivial⟩ (kj23 _ (Eq.symm (if_pos c24)) _ (Eq.symm (if_pos c24)))
            · refine st_iload dX8_halves_165 rfl ?_
              refine st_iload dX8_halves_167 rfl ?_
              refine st_ic_le dX8_halves_169 180 (by decide) (fun c25 => ?_) (fun c25 => ?_)
              · exact st_sub [.ref 60, .int x1, .int x2, .int x3, .int x4, .int x5, .int x6, .int x7, .int x8, .null] ⟨Or.inr rfl, Or.inr rfl, Or.inr rfl, Or.inr rfl, Or.inr rfl, Or.inr rfl, Or.inr rfl, Or.inr rfl, Or.inr rfl, Or.inl rfl, trivial⟩ (kj23 _ (Eq.symm ((if_neg c24).trans (if_pos c25))) _ (Eq.symm ((if_neg c24).trans (if_pos c25))))
              · refine st_iload dX8_halves_172 rfl ?_
                refine st_istore dX8_halves_174 (by decide) [.ref 60, .int x1, .int x2, .int x3, .int x4, .int x5, .int x8, .int x7, .int x8, .int j16] rfl ?_
                refine st_iload dX8_halves_176 rfl ?_
                refine st_istore dX8_halves_178 (by decide) [.ref 60, .int x1, .int x2, .int x3, .int x4, .int x5, .int x8, .int j16, .int x8, .int j16] rfl ?_
                exact st_sub [.ref 60, .int x1, .int x2, .int x3, .int x4, .int x5, .int x8, .int j16, .int x8, .null] ⟨Or.inr rfl, Or.inr rfl, Or.inr rfl, Or.inr rfl, Or.inr rfl, Or.inr rfl, Or.inr rfl, Or.inr rfl, Or.inr rfl, Or.inl rfl, trivial⟩ (kj23 _ (Eq.symm ((if_neg c24).trans (if_neg c25))) _ (Eq.symm ((if_neg c24).trans (if_neg c25))))
          refine st_ic_ne dX8_halves_130 142 (by decide) (fun c26 => ?_) (fun c26 => ?_)
          · replace e_j16 := (if_neg c26).symm.trans e_j16
            refine st_aload_n dX8_halves_142 rfl rfl ?_
            refine gR8 dX8_halves_143 (by decide) rfl 23 (by decide) fl_RX8_46 rfl 73 rfl ?_
            refine st_iload_n dX8_halves_146 rfl rfl ?_
            obtain ⟨v14, e_v14, e_j16⟩ := bnd e_j16
            refine st_iald dX8_halves_147 (by decide) rfl v14 e_v14 ?_
            refine st_aload_n dX8_halves_148 rfl rfl ?_
            refine gR8 dX8_halves_149 (by decide) rfl 23 (by decide) fl_RX8_46 rfl 73 rfl ?_
            refine st_iload dX8_halves_152 rfl ?_
            obtain ⟨v15, e_v15, e_j16⟩ := bnd e_j16
            refine st_iald dX8_halves_154 (by decide) rfl v15 e_v15 ?_
            refine st_iadd dX8_halves_155 ?_
            obtain rfl := Option.some.inj e_j16
            exact kj20
          · replace e_j16 := (if_pos c26).symm.trans e_j16
            refine st_aload_n dX8_halves_133 rfl rfl ?_
            refine gR8 dX8_halves_134 (by decide) rfl 23 (by decide) fl_RX8_46 rfl 73 rfl ?_
            refine st_iload_n dX8_halves_137 rfl rfl ?_
            obtain ⟨v13, e_v13, e_j16⟩ := bnd e_j16
            refine st_iald dX8_halves_138 (by decide) rfl v13 e_v13 ?_
            refine st_goto dX8_halves_139 156 (by decide) ?_
            obtain rfl := Option.some.inj e_j16
            exact kj20
        refine st_ic_ge dX8_halves_102 119 (by decide) (fun c27 => ?_) (fun c27 => ?_)
        · replace e_j11 := (if_pos c27).symm.trans e_j11
          obtain rfl := Option.some.inj e_j11
          exact kj19
        · replace e_j11 := (if_neg c27).symm.trans e_j11
          refine st_aload_n dX8_halves_105 rfl rfl ?_
          refine gR8 dX8_halves_106 (by decide) rfl 7 (by decide) fl_RX8_25 rfl 66 rfl ?_
          refine st_iload_n dX8_halves_109 rfl rfl ?_
          refine st_iload dX8_halves_110 rfl ?_
          refine st_iload_n dX8_halves_112 rfl rfl ?_
          refine st_iload dX8_halves_113 rfl ?_
          refine st_isub dX8_halves_115 ?_
          obtain ⟨H10, e_H10, e_j11⟩ := bnd e_j11
          refine st_callS [.ref 66, .int x1, .int x4, .int (x2 - x8)] dX8_halves_116 co_X8_put sm_X8_put ml_RX8_144 rfl (S := []) rfl (Nat.le_of_ble_eq_true rfl) (k_X8_put (by omega) RC66 x1 x4 (x2 - x8) j9 _ e_H10 ?_)
          show V (D + 1) RX8 mdX8_halves 119 [.ref 60, .int x1, .int x2, .int x3, .int x4, .int x5, .int x6, .int x7, .int x8, .null] [] H10 post
          obtain rfl := Option.some.inj e_j11
          exact kj19
      refine st_if_le dX8_halves_85 99 (by decide) (fun c28 => ?_) (fun c28 => ?_)
      · replace e_j9 := (if_pos c28).symm.trans e_j9
        obtain rfl := Option.some.inj e_j9
        exact kj18
      · replace e_j9 := (if_neg c28).symm.trans e_j9
        refine st_aload_n dX8_halves_88 rfl rfl ?_
        refine gR8 dX8_halves_89 (by decide) rfl 7 (by decide) fl_RX8_25 rfl 66 rfl ?_
        refine st_iload_n dX8_halves_92 rfl rfl ?_
        refine st_iload_n dX8_halves_93 rfl rfl ?_
        refine st_iload dX8_halves_94 rfl ?_
        obtain ⟨H8, e_H8, e_j9⟩ := bnd e_j9
        refine st_callS [.ref 66, .int x1, .int x3, .int x8] dX8_halves_96 co_X8_put sm_X8_put ml_RX8_144 rfl (S := []) rfl (Nat.le_of_ble_eq_true rfl) (k_X8_put (by omega) RC66 x1 x3 x8 H7 _ e_H8 ?_)
        show V (D + 1) RX8 mdX8_halves 99 [.ref 60, .int x1, .int x2, .int x3, .int x4, .int x5, .int x6, .int x7, .int x8, .null] [] H8 post
        obtain rfl := Option.some.inj e_j9
        exact kj18
set_option maxHeartbeats 4000000 in
set_option maxRecDepth 100000 in
theorem k_X8_halves {D : Nat} (hD : 4 ≤ D) (x1 : Int32) (x2 : Int32) (x3 : Int32) (x4 : Int32) (x5 : Int32) (H : Hp) (q : Int32 × Hp) (h : f_X8_halves x1 x2 x3 x4 x5 H = some q) {post : Option Value → Hp → Prop} (hp : post (some (.int q.1)) q.2) : Sem D mdX8_halves [.ref 60, .int x1, .int x2, .int x3, .int x4, .int x5] H post := by
  obtain ⟨D, rfl⟩ : ∃ E, D = E + 1 := ⟨D - 1, by omega⟩
  refine sem_of (own := RX8) rfl pn_RX8 (Nat.le_of_ble_eq_true rfl) [.ref 60, .int x1, .int x2, .int x3, .int x4, .int x5, .null, .null, .null, .null] ⟨Or.inr rfl, Or.inr rfl, Or.inr rfl, Or.inr rfl, Or.inr rfl, Or.inr rfl, rfl, rfl, rfl, rfl, trivial⟩ ?_
  unfold f_X8_halves at h
  refine st_aload_n dX8_halves_0 rfl rfl ?_
  refine st_iconst dX8_halves_1 (v := 0) rfl ?_
  obtain ⟨H1, e_H1, h⟩ := bnd h
  refine pI8 dX8_halves_2 (by decide) rfl 0 (by decide) fl_RX8_62 rfl rfl rfl rfl e_H1 ?_
  refine st_aload_n dX8_halves_5 rfl rfl ?_
  refine st_iload_n dX8_halves_6 rfl rfl ?_
  refine st_iload_n dX8_halves_7 rfl rfl ?_
  obtain ⟨v2, e_v2, h⟩ := bnd h
  refine st_callV [.int x1, .int x3] dX8_halves_8 co_X8_isGiving im_X8_isGiving se_X8_isGiving ml_RX8_241 rfl (by decide) rfl (rfl : classes[8]? = some (RX8, TX8, 30)) rfl (S := []) rfl (Nat.le_of_ble_eq_true rfl) (k_X8_isGiving (by omega) x1 x3 H1 _ e_v2 ?_)
  show V (D + 1) RX8 mdX8_halves 11 [.ref 60, .int x1, .int x2, .int x3, .int x4, .int x5, .null, .null, .null, .null] [.int v2] H1 post
  refine st_if_eq dX8_halves_11 46 (by decide) (fun c30 => ?_) (fun c30 => ?_)
  · replace h := (if_pos c30).symm.trans h
    refine st_ldc dX8_halves_46 cn_RX8_82 ?_
    obtain rfl := Option.some.inj h
    exact st_iret dX8_halves_48 rfl hp
  · replace h := (if_neg c30).symm.trans h
    refine st_iload_n dX8_halves_14 rfl rfl ?_
    refine st_i2l dX8_halves_15 ?_
    refine st_lconst dX8_halves_16 (v := 1) rfl ?_
    refine st_ldc2 dX8_halves_17 cl_RX8_275 ?_
    obtain ⟨v3, e_v3, h⟩ := bnd h
    refine st_callS [.long x2.toInt64, .long 1, .long 40] dX8_halves_20 co_X8_in sm_X8_in ml_RX8_72 rfl (S := []) rfl (Nat.le_of_ble_eq_true rfl) (k_X8_in (by omega) x2.toInt64 1 40 H1 _ e_v3 ?_)
    show V (D + 1) RX8 mdX8_halves 23 [.ref 60, .int x1, .int x2, .int x3, .int x4, .int x5, .null, .null, .null, .null] [.int v3] H1 post
    refine st_if_eq dX8_halves_23 46 (by decide) (fun c31 => ?_) (fun c31 => ?_)
    · replace h := (if_pos c31).symm.trans h
      refine st_ldc dX8_halves_46 cn_RX8_82 ?_
      obtain rfl := Option.some.inj h
      exact st_iret dX8_halves_48 rfl hp
    · replace h := (if_neg c31).symm.trans h
      refine st_aload_n dX8_halves_26 rfl rfl ?_
      refine st_iload dX8_halves_27 rfl ?_
      obtain ⟨v4, e_v4, h⟩ := bnd h
      refine st_callV [.int x4] dX8_halves_29 co_X8_isProject im_X8_isProject se_X8_isProject ml_RX8_238 rfl (by decide) rfl (rfl : classes[8]? = some (RX8, TX8, 30)) rfl (S := []) rfl (Nat.le_of_ble_eq_true rfl) (k_X8_isProject (by omega) x4 H1 _ e_v4 ?_)
      show V (D + 1) RX8 mdX8_halves 32 [.ref 60, .int x1, .int x2, .int x3, .int x4, .int x5, .null, .null, .null, .null] [.int v4] H1 post
      refine st_if_eq dX8_halves_32 46 (by decide) (fun c32 => ?_) (fun c32 => ?_)
      · replace h := (if_pos c32).symm.trans h
        refine st_ldc dX8_halves_46 cn_RX8_82 ?_
        obtain rfl := Option.some.inj h
        exact st_iret dX8_halves_48 rfl hp
      · replace h := (if_neg c32).symm.trans h
        refine st_iload dX8_halves_35 rfl ?_
        refine st_i2l dX8_halves_37 ?_
        refine st_lconst dX8_halves_38 (v := 0) rfl ?_
        refine st_lconst dX8_halves_39 (v := 1) rfl ?_
        obtain ⟨v5, e_v5, h⟩ := bnd h
        refine st_callS [.long x5.toInt64, .long 0, .long 1] dX8_halves_40 co_X8_in sm_X8_in ml_RX8_72 rfl (S := []) rfl (Nat.le_of_ble_eq_true rfl) (k_X8_in (by omega) x5.toInt64 0 1 H1 _ e_v5 ?_)
        show V (D + 1) RX8 mdX8_halves 43 [.ref 60, .int x1, .int x2, .int x3, .int x4, .int x5, .null, .null, .null, .null] [.int v5] H1 post
        refine st_if_ne dX8_halves_43 49 (by decide) (fun c33 => ?_) (fun c33 => ?_)
        · replace h := (if_neg c33).symm.trans h
          refine st_aload_n dX8_halves_49 rfl rfl ?_
          refine gR8 dX8_halves_50 (by decide) rfl 5 (by decide) fl_RX8_19 rfl 64 rfl ?_
          refine st_iconst dX8_halves_53 (v := 3) rfl ?_
          obtain ⟨v6, e_v6, h⟩ := bnd h
          refine st_iald dX8_halves_54 (by decide) rfl v6 e_v6 ?_
          refine st_bipush dX8_halves_55 (v := 18) (by decide) ?_
          refine st_ic_le dX8_halves_57 63 (by decide) (fun c34 => ?_) (fun c34 => ?_)
          · replace h := (if_pos c34).symm.trans h
            refine st_ldc dX8_halves_63 cn_RX8_105 ?_
            refine st_istore dX8_halves_65 (by decide) [.ref 60, .int x1, .int x2, .int x3, .int x4, .int x5, .int (-1000000), .null, .null, .null] rfl ?_
            refine st_iconst dX8_halves_67 (v := 0) rfl ?_
            refine st_istore dX8_halves_68 (by decide) [.ref 60, .int x1, .int x2, .int x3, .int x4, .int x5, .int (-1000000), .int 0, .null, .null] rfl ?_
            refine st_iconst dX8_halves_70 (v := 0) rfl ?_
            refine st_istore dX8_halves_71 (by decide) [.ref 60, .int x1, .int x2, .int x3, .int x4, .int x5, .int (-1000000), .int 0, .int 0, .null] rfl ?_
            obtain ⟨l29, e_l29, h⟩ := bnd h
            refine k_X8_halves_l73 (by omega) x1 x2 x3 x4 x5 fuel (-1000000) 0 0 H1 _ e_l29 ?_
            refine st_iload dX8_halves_186 rfl ?_
            have kj36 : ∀ z35 : Int32, z35 = (if x5 = 0 then l29.1 else l29.2.1) → V (D + 1) RX8 mdX8_halves 198 [.null, .null, .null, .null, .null, .null, .null, .null, .null, .null] [.int z35] l29.2.2 post := by
              intro z35 ez35
              subst ez35
              obtain rfl := Option.some.inj h
              exact st_iret dX8_halves_198 rfl hp
            refine st_if_ne dX8_halves_188 196 (by decide) (fun c37 => ?_) (fun c37 => ?_)
            · refine st_iload dX8_halves_196 rfl ?_
              exact st_sub [.null, .null, .null, .null, .null, .null, .null, .null, .null, .null] ⟨Or.inl rfl, Or.inl rfl, Or.inl rfl, Or.inl rfl, Or.inl rfl, Or.inl rfl, Or.inl rfl, Or.inl rfl, Or.inl rfl, Or.inl rfl, trivial⟩ (kj36 _ (Eq.symm (if_neg c37)))
            · refine st_iload dX8_halves_191 rfl ?_
              refine st_goto dX8_halves_193 198 (by decide) ?_
              exact st_sub [.null, .null, .null, .null, .null, .null, .null, .null, .null, .null] ⟨Or.inl rfl, Or.inl rfl, Or.inl rfl, Or.inl rfl, Or.inl rfl, Or.inl rfl, Or.inl rfl, Or.inl rfl, Or.inl rfl, Or.inl rfl, trivial⟩ (kj36 _ (Eq.symm (if_pos c37)))
          · replace h := (if_neg c34).symm.trans h
            refine st_ldc dX8_halves_60 cn_RX8_92 ?_
            obtain rfl := Option.some.inj h
            exact st_iret dX8_halves_62 rfl hp
        · replace h := (if_pos c33).symm.trans h
          refine st_ldc dX8_halves_46 cn_RX8_82 ?_
          obtain rfl := Option.some.inj h
          exact st_iret dX8_halves_48 rfl hp
def f_X8_sets_l80 (H : Hp) (x6 : Int32) : Nat → Int32 → Int32 → Option (Int32)
  | 0, _, _ => none
  | n + 1, x7, x8 =>
    (ag H 64 80 0).bind fun v7 =>
    if v7 ≤ x8 then
      some x7
    else
      (f_X8_has x6 x8).bind fun v8 =>
      Option.bind (
        if v8 = 0 then
          some 0
        else
          (ag H 73 6 x8).bind fun v9 =>
          some v9) fun j10 =>
      f_X8_sets_l80 H x6 n (x7 + j10) (x8 + 1)
def f_X8_sets_l61 (H : Hp) (x1 : Int32) : Nat → Int32 → Int32 → Int32 → Int32 → Option (Int32 × Int32 × Int32)
  | 0, _, _, _, _ => none
  | n + 1, x3, x4, x5, x6 =>
    (ag H 64 80 0).bind fun v6 =>
    if ((1 : Int32) <<< (v6 &&& 31)) ≤ x6 then
      some (x3, x4, x5)
    else
      (f_X8_sets_l80 H x6 fuel 0 0).bind fun l14 =>
      f_X8_sets_l61 H x1 n (if l14 = x1 then (x3 + 1) else x3) (if l14 = x1 then (if x3 = 0 then x6 else (x4 &&& x6)) else x4) (if l14 = x1 then (x5 ||| x6) else x5) (x6 + 1)
def f_X8_sets (x1 : Int32) (x2 : Int32) (H : Hp) : Option (Int32 × Hp) :=
  (pf H 60 0 0).bind fun H1 =>
  (f_X8_isThere H1).bind fun v2 =>
  if v2 = 0 then
    some ((-1000002), H1)
  else
    (f_X8_in x1.toInt64 0 999).bind fun v3 =>
    if v3 = 0 then
      some ((-1000001), H1)
    else
      (f_X8_in x2.toInt64 0 2).bind fun v4 =>
      if v4 = 0 then
        some ((-1000001), H1)
      else
        (f_X8_reckon 64 H1).bind fun H5 =>
        (f_X8_sets_l61 H5 x1 fuel 0 0 0 0).bind fun l22 =>
        some ((if x2 = 0 then l22.1 else (if x2 = 1 then l22.2.1 else l22.2.2)), H5)
set_option maxHeartbeats 4000000 in
set_option maxRecDepth 100000 in
theorem k_X8_sets_l80 {D : Nat} (hD : 4 ≤ (D + 1)) (H : Hp) (x6 : Int32) (x1 : Int32) (x2 : Int32) (x3 : Int32) (x4 : Int32) (x5 : Int32) {post : Option Value → Hp → Prop} : ∀ (n : Nat) (x7 : Int32) (x8 : Int32) (q : Int32), f_X8_sets_l80 H x6 n x7 x8 = some q → V (D + 1) RX8 mdX8_sets 123 [.ref 60, .int x1, .int x2, .int x3, .int x4, .int x5, .int x6, .int q, .null] [] H post → V (D + 1) RX8 mdX8_sets 80 [.ref 60, .int x1, .int x2, .int x3, .int x4, .int x5, .int x6, .int x7, .int x8] [] H post := by
  intro n
  induction n with
  | zero => intro x7 x8 q h; simp [f_X8_sets_l80] at h
  | succ n ih =>
    intro x7 x8 q h k1
    rw [f_X8_sets_l80] at h
    refine st_iload dX8_sets_80 rfl ?_
    refine st_aload_n dX8_sets_82 rfl rfl ?_
    refine gR8 dX8_sets_83 (by decide) rfl 5 (by decide) fl_RX8_19 rfl 64 rfl ?_
    refine st_iconst dX8_sets_86 (v := 0) rfl ?_
    obtain ⟨v7, e_v7, h⟩ := bnd h
    refine st_iald dX8_sets_87 (by decide) rfl v7 e_v7 ?_
    refine st_ic_ge dX8_sets_88 123 (by decide) (fun c11 => ?_) (fun c11 => ?_)
    · replace h := (if_pos c11).symm.trans h
      obtain rfl := Option.some.inj h
      exact st_sub [.ref 60, .int x1, .int x2, .int x3, .int x4, .int x5, .int x6, .int x7, .null] ⟨Or.inr rfl, Or.inr rfl, Or.inr rfl, Or.inr rfl, Or.inr rfl, Or.inr rfl, Or.inr rfl, Or.inr rfl, Or.inl rfl, trivial⟩ k1
    · replace h := (if_neg c11).symm.trans h
      refine st_iload dX8_sets_91 rfl ?_
      refine st_iload dX8_sets_93 rfl ?_
      refine st_iload dX8_sets_95 rfl ?_
      obtain ⟨v8, e_v8, h⟩ := bnd h
      refine st_callS [.int x6, .int x8] dX8_sets_97 co_X8_has sm_X8_has ml_RX8_266 rfl (S := [.int x7]) rfl (Nat.le_of_ble_eq_true rfl) (k_X8_has (by omega) x6 x8 H _ e_v8 ?_)
      show V (D + 1) RX8 mdX8_sets 100 [.ref 60, .int x1, .int x2, .int x3, .int x4, .int x5, .int x6, .int x7, .int x8] [.int v8, .int x7] H post
      obtain ⟨j10, e_j10, h⟩ := bnd h
      have kj12 : V (D + 1) RX8 mdX8_sets 114 [.ref 60, .int x1, .int x2, .int x3, .int x4, .int x5, .int x6, .null, .int x8] [.int j10, .int x7] H post := by
        refine st_iadd dX8_sets_114 ?_
        refine st_istore dX8_sets_115 (by decide) [.ref 60, .int x1, .int x2, .int x3, .int x4, .int x5, .int x6, .int (x7 + j10), .int x8] rfl ?_
        refine st_iinc dX8_sets_117 rfl (v := (x8 + 1)) rfl (by decide) [.ref 60, .int x1, .int x2, .int x3, .int x4, .int x5, .int x6, .int (x7 + j10), .int (x8 + 1)] rfl ?_
        refine st_goto dX8_sets_120 80 (by decide) ?_
        exact ih (x7 + j10) (x8 + 1) q h k1
      refine st_if_eq dX8_sets_100 113 (by decide) (fun c13 => ?_) (fun c13 => ?_)
      · replace e_j10 := (if_pos c13).symm.trans e_j10
        refine st_iconst dX8_sets_113 (v := 0) rfl ?_
        obtain rfl := Option.some.inj e_j10
        exact st_sub [.ref 60, .int x1, .int x2, .int x3, .int x4, .int x5, .int x6, .null, .int x8] ⟨Or.inr rfl, Or.inr rfl, Or.inr rfl, Or.inr rfl, Or.inr rfl, Or.inr rfl, Or.inr rfl, Or.inl rfl, Or.inr rfl, trivial⟩ kj12
      · replace e_j10 := (if_neg c13).symm.trans e_j10
        refine st_aload_n dX8_sets_103 rfl rfl ?_
        refine gR8 dX8_sets_104 (by decide) rfl 23 (by decide) fl_RX8_46 rfl 73 rfl ?_
        refine st_iload dX8_sets_107 rfl ?_
        obtain ⟨v9, e_v9, e_j10⟩ := bnd e_j10
        refine st_iald dX8_sets_109 (by decide) rfl v9 e_v9 ?_
        refine st_goto dX8_sets_110 114 (by decide) ?_
        obtain rfl := Option.some.inj e_j10
        exact st_sub [.ref 60, .int x1, .int x2, .int x3, .int x4, .int x5, .int x6, .null, .int x8] ⟨Or.inr rfl, Or.inr rfl, Or.inr rfl, Or.inr rfl, Or.inr rfl, Or.inr rfl, Or.inr rfl, Or.inl rfl, Or.inr rfl, trivial⟩ kj12
set_option maxHeartbeats 4000000 in
set_option maxRecDepth 100000 in
theorem k_X8_sets_l61 {D : Nat} (hD : 4 ≤ (D + 1)) (H : Hp) (x1 : Int32) (x2 : Int32) {post : Option Value → Hp → Prop} : ∀ (n : Nat) (x3 : Int32) (x4 : Int32) (x5 : Int32) (x6 : Int32) (q : Int32 × Int32 × Int32), f_X8_sets_l61 H x1 n x3 x4 x5 x6 = some q → V (D + 1) RX8 mdX8_sets 161 [.null, .null, .int x2, .int q.1, .int q.2.1, .int q.2.2, .null, .null, .null] [] H post → V (D + 1) RX8 mdX8_sets 61 [.ref 60, .int x1, .int x2, .int x3, .int x4, .int x5, .int x6, .null, .null] [] H post := by
  intro n
  induction n with
  | zero => intro x3 x4 x5 x6 q h; simp [f_X8_sets_l61] at h
  | succ n ih =>
    intro x3 x4 x5 x6 q h k1
    rw [f_X8_sets_l61] at h
    refine st_iload dX8_sets_61 rfl ?_
    refine st_iconst dX8_sets_63 (v := 1) rfl ?_
    refine st_aload_n dX8_sets_64 rfl rfl ?_
    refine gR8 dX8_sets_65 (by decide) rfl 5 (by decide) fl_RX8_19 rfl 64 rfl ?_
    refine st_iconst dX8_sets_68 (v := 0) rfl ?_
    obtain ⟨v6, e_v6, h⟩ := bnd h
    refine st_iald dX8_sets_69 (by decide) rfl v6 e_v6 ?_
    refine st_ishl dX8_sets_70 ?_
    refine st_ic_ge dX8_sets_71 161 (by decide) (fun c15 => ?_) (fun c15 => ?_)
    · replace h := (if_pos c15).symm.trans h
      obtain rfl := Option.some.inj h
      exact st_sub [.null, .null, .int x2, .int x3, .int x4, .int x5, .null, .null, .null] ⟨Or.inl rfl, Or.inl rfl, Or.inr rfl, Or.inr rfl, Or.inr rfl, Or.inr rfl, Or.inl rfl, Or.inl rfl, Or.inl rfl, trivial⟩ k1
    · replace h := (if_neg c15).symm.trans h
      refine st_iconst dX8_sets_74 (v := 0) rfl ?_
      refine st_istore dX8_sets_75 (by decide) [.ref 60, .int x1, .int x2, .int x3, .int x4, .int x5, .int x6, .int 0, .null] rfl ?_
      refine st_iconst dX8_sets_77 (v := 0) rfl ?_
      refine st_istore dX8_sets_78 (by decide) [.ref 60, .int x1, .int x2, .int x3, .int x4, .int x5, .int x6, .int 0, .int 0] rfl ?_
      obtain ⟨l14, e_l14, h⟩ := bnd h
      refine k_X8_sets_l80 (by omega) H x6 x1 x2 x3 x4 x5 fuel 0 0 _ e_l14 ?_
      refine st_iload dX8_sets_123 rfl ?_
      refine st_iload_n dX8_sets_125 rfl rfl ?_
      have kj19 : ∀ z16 : Int32, z16 = (if l14 = x1 then (x3 + 1) else x3) → ∀ z17 : Int32, z17 = (if l14 = x1 then (if x3 = 0 then x6 else (x4 &&& x6)) else x4) → ∀ z18 : Int32, z18 = (if l14 = x1 then (x5 ||| x6) else x5) → V (D + 1) RX8 mdX8_sets 155 [.ref 60, .int x1, .int x2, .int z16, .int z17, .int z18, .int x6, .null, .null] [] H post := by
        intro z16 ez16 z17 ez17 z18 ez18
        subst ez16
        subst ez17
        subst ez18
        refine st_iinc dX8_sets_155 rfl (v := (x6 + 1)) rfl (by decide) [.ref 60, .int x1, .int x2, .int (if l14 = x1 then (x3 + 1) else x3), .int (if l14 = x1 then (if x3 = 0 then x6 else (x4 &&& x6)) else x4), .int (if l14 = x1 then (x5 ||| x6) else x5), .int (x6 + 1), .null, .null] rfl ?_
        refine st_goto dX8_sets_158 61 (by decide) ?_
        exact ih (if l14 = x1 then (x3 + 1) else x3) (if l14 = x1 then (if x3 = 0 then x6 else (x4 &&& x6)) else x4) (if l14 = x1 then (x5 ||| x6) else x5) (x6 + 1) q h k1
      refine st_ic_ne dX8_sets_126 155 (by decide) (fun c20 => ?_) (fun c20 => ?_)
      · exact st_sub [.ref 60, .int x1, .int x2, .int x3, .int x4, .int x5, .int x6, .null, .null] ⟨Or.inr rfl, Or.inr rfl, Or.inr rfl, Or.inr rfl, Or.inr rfl, Or.inr rfl, Or.inr rfl, Or.inl rfl, Or.inl rfl, trivial⟩ (kj19 _ (Eq.symm (if_neg c20)) _ (Eq.symm (if_neg c20)) _ (Eq.symm (if_neg c20)))
      · refine st_iload_n dX8_sets_129 rfl rfl ?_
        refine st_if_ne dX8_sets_130 138 (by decide) (fun c21 => ?_) (fun c21 => ?_)
        · refine st_iload dX8_sets_138 rfl ?_
          refine st_iload dX8_sets_140 rfl ?_
          refine st_iand dX8_sets_142 ?_
          refine st_istore dX8_sets_143 (by decide) [.ref 60, .int x1, .int x2, .int x3, .int (x4 &&& x6), .int x5, .int x6, .int l14, .null] rfl ?_
          refine st_iload dX8_sets_145 rfl ?_
          refine st_iload dX8_sets_147 rfl ?_
          refine st_ior dX8_sets_149 ?_
          refine st_istore dX8_sets_150 (by decide) [.ref 60, .int x1, .int x2, .int x3, .int (x4 &&& x6), .int (x5 ||| x6), .int x6, .int l14, .null] rfl ?_
          refine st_iinc dX8_sets_152 rfl (v := (x3 + 1)) rfl (by decide) [.ref 60, .int x1, .int x2, .int (x3 + 1), .int (x4 &&& x6), .int (x5 ||| x6), .int x6, .int l14, .null] rfl ?_
          exact st_sub [.ref 60, .int x1, .int x2, .int (x3 + 1), .int (x4 &&& x6), .int (x5 ||| x6), .int x6, .null, .null] ⟨Or.inr rfl, Or.inr rfl, Or.inr rfl, Or.inr rfl, Or.inr rfl, Or.inr rfl, Or.inr rfl, Or.inl rfl, Or.inl rfl, trivial⟩ (kj19 _ (Eq.symm (if_pos c20)) _ (Eq.symm ((if_pos c20).trans (if_neg c21))) _ (Eq.symm (if_pos c20)))
        · refine st_iload dX8_sets_133 rfl ?_
          refine st_goto dX8_sets_135 143 (by decide) ?_
          refine st_istore dX8_sets_143 (by decide) [.ref 60, .int x1, .int x2, .int x3, .int x6, .int x5, .int x6, .int l14, .null] rfl ?_
          refine st_iload dX8_sets_145 rfl ?_
          refine st_iload dX8_sets_147 rfl ?_
          refine st_ior dX8_sets_149 ?_
          refine st_istore dX8_sets_150 (by decide) [.ref 60, .int x1, .int x2, .int x3, .int x6, .int (x5 ||| x6), .int x6, .int l14, .null] rfl ?_
          refine st_iinc dX8_sets_152 rfl (v := (x3 + 1)) rfl (by decide) [.ref 60, .int x1, .int x2, .int (x3 + 1), .int x6, .int (x5 ||| x6), .int x6, .int l14, .null] rfl ?_
          exact st_sub [.ref 60, .int x1, .int x2, .int (x3 + 1), .int x6, .int (x5 ||| x6), .int x6, .null, .null] ⟨Or.inr rfl, Or.inr rfl, Or.inr rfl, Or.inr rfl, Or.inr rfl, Or.inr rfl, Or.inr rfl, Or.inl rfl, Or.inl rfl, trivial⟩ (kj19 _ (Eq.symm (if_pos c20)) _ (Eq.symm ((if_pos c20).trans (if_pos c21))) _ (Eq.symm (if_pos c20)))
set_option maxHeartbeats 4000000 in
set_option maxRecDepth 100000 in
theorem k_X8_sets {D : Nat} (hD : 4 ≤ D) (x1 : Int32) (x2 : Int32) (H : Hp) (q : Int32 × Hp) (h : f_X8_sets x1 x2 H = some q) {post : Option Value → Hp → Prop} (hp : post (some (.int q.1)) q.2) : Sem D mdX8_sets [.ref 60, .int x1, .int x2] H post := by
  obtain ⟨D, rfl⟩ : ∃ E, D = E + 1 := ⟨D - 1, by omega⟩
  refine sem_of (own := RX8) rfl pn_RX8 (Nat.le_of_ble_eq_true rfl) [.ref 60, .int x1, .int x2, .null, .null, .null, .null, .null, .null] ⟨Or.inr rfl, Or.inr rfl, Or.inr rfl, rfl, rfl, rfl, rfl, rfl, rfl, trivial⟩ ?_
  unfold f_X8_sets at h
  refine st_aload_n dX8_sets_0 rfl rfl ?_
  refine st_iconst dX8_sets_1 (v := 0) rfl ?_
  obtain ⟨H1, e_H1, h⟩ := bnd h
  refine pI8 dX8_sets_2 (by decide) rfl 0 (by decide) fl_RX8_62 rfl rfl rfl rfl e_H1 ?_
  refine st_aload_n dX8_sets_5 rfl rfl ?_
  obtain ⟨v2, e_v2, h⟩ := bnd h
  refine st_callV [] dX8_sets_6 co_X8_isThere im_X8_isThere se_X8_isThere ml_RX8_174 rfl (by decide) rfl (rfl : classes[8]? = some (RX8, TX8, 30)) rfl (S := []) rfl (Nat.le_of_ble_eq_true rfl) (k_X8_isThere (by omega) H1 _ e_v2 ?_)
  show V (D + 1) RX8 mdX8_sets 9 [.ref 60, .int x1, .int x2, .null, .null, .null, .null, .null, .null] [.int v2] H1 post
  refine st_if_ne dX8_sets_9 15 (by decide) (fun c23 => ?_) (fun c23 => ?_)
  · replace h := (if_neg c23).symm.trans h
    refine st_iload_n dX8_sets_15 rfl rfl ?_
    refine st_i2l dX8_sets_16 ?_
    refine st_lconst dX8_sets_17 (v := 0) rfl ?_
    refine st_ldc2 dX8_sets_18 cl_RX8_254 ?_
    obtain ⟨v3, e_v3, h⟩ := bnd h
    refine st_callS [.long x1.toInt64, .long 0, .long 999] dX8_sets_21 co_X8_in sm_X8_in ml_RX8_72 rfl (S := []) rfl (Nat.le_of_ble_eq_true rfl) (k_X8_in (by omega) x1.toInt64 0 999 H1 _ e_v3 ?_)
    show V (D + 1) RX8 mdX8_sets 24 [.ref 60, .int x1, .int x2, .null, .null, .null, .null, .null, .null] [.int v3] H1 post
    refine st_if_eq dX8_sets_24 39 (by decide) (fun c24 => ?_) (fun c24 => ?_)
    · replace h := (if_pos c24).symm.trans h
      refine st_ldc dX8_sets_39 cn_RX8_82 ?_
      obtain rfl := Option.some.inj h
      exact st_iret dX8_sets_41 rfl hp
    · replace h := (if_neg c24).symm.trans h
      refine st_iload_n dX8_sets_27 rfl rfl ?_
      refine st_i2l dX8_sets_28 ?_
      refine st_lconst dX8_sets_29 (v := 0) rfl ?_
      refine st_ldc2 dX8_sets_30 cl_RX8_80 ?_
      obtain ⟨v4, e_v4, h⟩ := bnd h
      refine st_callS [.long x2.toInt64, .long 0, .long 2] dX8_sets_33 co_X8_in sm_X8_in ml_RX8_72 rfl (S := []) rfl (Nat.le_of_ble_eq_true rfl) (k_X8_in (by omega) x2.toInt64 0 2 H1 _ e_v4 ?_)
      show V (D + 1) RX8 mdX8_sets 36 [.ref 60, .int x1, .int x2, .null, .null, .null, .null, .null, .null] [.int v4] H1 post
      refine st_if_ne dX8_sets_36 42 (by decide) (fun c25 => ?_) (fun c25 => ?_)
      · replace h := (if_neg c25).symm.trans h
        refine st_aload_n dX8_sets_42 rfl rfl ?_
        refine st_aload_n dX8_sets_43 rfl rfl ?_
        refine gR8 dX8_sets_44 (by decide) rfl 5 (by decide) fl_RX8_19 rfl 64 rfl ?_
        obtain ⟨H5, e_H5, h⟩ := bnd h
        refine st_callV [.ref 64] dX8_sets_47 co_X8_reckon im_X8_reckon se_X8_reckon ml_RX8_232 rfl (by decide) rfl (rfl : classes[8]? = some (RX8, TX8, 30)) rfl (S := []) rfl (Nat.le_of_ble_eq_true rfl) (k_X8_reckon (by omega) RC64 H1 _ e_H5 ?_)
        show V (D + 1) RX8 mdX8_sets 50 [.ref 60, .int x1, .int x2, .null, .null, .null, .null, .null, .null] [] H5 post
        refine st_iconst dX8_sets_50 (v := 0) rfl ?_
        refine st_istore_n dX8_sets_51 rfl (by decide) [.ref 60, .int x1, .int x2, .int 0, .null, .null, .null, .null, .null] rfl ?_
        refine st_iconst dX8_sets_52 (v := 0) rfl ?_
        refine st_istore dX8_sets_53 (by decide) [.ref 60, .int x1, .int x2, .int 0, .int 0, .null, .null, .null, .null] rfl ?_
        refine st_iconst dX8_sets_55 (v := 0) rfl ?_
        refine st_istore dX8_sets_56 (by decide) [.ref 60, .int x1, .int x2, .int 0, .int 0, .int 0, .null, .null, .null] rfl ?_
        refine st_iconst dX8_sets_58 (v := 0) rfl ?_
        refine st_istore dX8_sets_59 (by decide) [.ref 60, .int x1, .int x2, .int 0, .int 0, .int 0, .int 0, .null, .null] rfl ?_
        obtain ⟨l22, e_l22, h⟩ := bnd h
        refine k_X8_sets_l61 (by omega) H5 x1 x2 fuel 0 0 0 0 _ e_l22 ?_
        refine st_iload_n dX8_sets_161 rfl rfl ?_
        have kj27 : ∀ z26 : Int32, z26 = (if x2 = 0 then l22.1 else (if x2 = 1 then l22.2.1 else l22.2.2)) → V (D + 1) RX8 mdX8_sets 181 [.null, .null, .null, .null, .null, .null, .null, .null, .null] [.int z26] H5 post := by
          intro z26 ez26
          subst ez26
          obtain rfl := Option.some.inj h
          exact st_iret dX8_sets_181 rfl hp
        refine st_if_ne dX8_sets_162 169 (by decide) (fun c28 => ?_) (fun c28 => ?_)
        · refine st_iload_n dX8_sets_169 rfl rfl ?_
          refine st_iconst dX8_sets_170 (v := 1) rfl ?_
          refine st_ic_ne dX8_sets_171 179 (by decide) (fun c29 => ?_) (fun c29 => ?_)
          · refine st_iload dX8_sets_179 rfl ?_
            exact st_sub [.null, .null, .null, .null, .null, .null, .null, .null, .null] ⟨Or.inl rfl, Or.inl rfl, Or.inl rfl, Or.inl rfl, Or.inl rfl, Or.inl rfl, Or.inl rfl, Or.inl rfl, Or.inl rfl, trivial⟩ (kj27 _ (Eq.symm ((if_neg c28).trans (if_neg c29))))
          · refine st_iload dX8_sets_174 rfl ?_
            refine st_goto dX8_sets_176 181 (by decide) ?_
            exact st_sub [.null, .null, .null, .null, .null, .null, .null, .null, .null] ⟨Or.inl rfl, Or.inl rfl, Or.inl rfl, Or.inl rfl, Or.inl rfl, Or.inl rfl, Or.inl rfl, Or.inl rfl, Or.inl rfl, trivial⟩ (kj27 _ (Eq.symm ((if_neg c28).trans (if_pos c29))))
        · refine st_iload_n dX8_sets_165 rfl rfl ?_
          refine st_goto dX8_sets_166 181 (by decide) ?_
          exact st_sub [.null, .null, .null, .null, .null, .null, .null, .null, .null] ⟨Or.inl rfl, Or.inl rfl, Or.inl rfl, Or.inl rfl, Or.inl rfl, Or.inl rfl, Or.inl rfl, Or.inl rfl, Or.inl rfl, trivial⟩ (kj27 _ (Eq.symm (if_pos c28)))
      · replace h := (if_pos c25).symm.trans h
        refine st_ldc dX8_sets_39 cn_RX8_82 ?_
        obtain rfl := Option.some.inj h
        exact st_iret dX8_sets_41 rfl hp
  · replace h := (if_pos c23).symm.trans h
    refine st_ldc dX8_sets_12 cn_RX8_253 ?_
    obtain rfl := Option.some.inj h
    exact st_iret dX8_sets_14 rfl hp
def f_X8_afterTurns_l21 (x1 : Int32) (x2 : Int32) (x3 : Int32) (x4 : Int32) (x6 : Int32) : Nat → Int32 → Int32 → Hp → Option (Hp)
  | 0, _, _, _ => none
  | n + 1, x7, x8, H =>
    if x3 ≤ x8 then
      some H
    else
      Option.bind (
        if 2 ≤ (x7 - x7 / 3 * 3) then
          some H
        else
          (f_X8_put 66 (if (x8 - x8 / 2 * 2) = 0 then x1 else x2) (if (x7 - x7 / 3 * 3) = 0 then 0 else x6) x4 H).bind fun H3 =>
          some H3) fun j4 =>
      f_X8_afterTurns_l21 x1 x2 x3 x4 x6 n (x7 / 3) (x8 + 1) j4
def f_X8_afterTurns (x1 : Int32) (x2 : Int32) (x3 : Int32) (x4 : Int32) (x5 : Int32) (H : Hp) : Option (Int32 × Hp) :=
  (ag H 64 80 0).bind fun v1 =>
  (f_X8_layThen H).bind fun H2 =>
  (f_X8_afterTurns_l21 x1 x2 x3 x4 (v1 - 1) fuel x5 0 H2).bind fun l14 =>
  (f_X8_reckon 66 l14).bind fun H15 =>
  (ag H15 73 6 0).bind fun v16 =>
  (ag H15 73 6 (v1 - 1)).bind fun v17 =>
  some ((v16 - v17), H15)
set_option maxHeartbeats 4000000 in
set_option maxRecDepth 100000 in
theorem k_X8_afterTurns_l21 {D : Nat} (hD : 4 ≤ (D + 1)) (x1 : Int32) (x2 : Int32) (x3 : Int32) (x4 : Int32) (x6 : Int32) {post : Option Value → Hp → Prop} : ∀ (n : Nat) (x7 : Int32) (x8 : Int32) (H : Hp) (q : Hp), f_X8_afterTurns_l21 x1 x2 x3 x4 x6 n x7 x8 H = some q → V (D + 1) RX8 mdX8_afterTurns 83 [.ref 60, .null, .null, .null, .null, .null, .int x6, .null, .null, .null] [] q post → V (D + 1) RX8 mdX8_afterTurns 21 [.ref 60, .int x1, .int x2, .int x3, .int x4, .null, .int x6, .int x7, .int x8, .null] [] H post := by
  intro n
  induction n with
  | zero => intro x7 x8 H q h; simp [f_X8_afterTurns_l21] at h
  | succ n ih =>
    intro x7 x8 H q h k1
    rw [f_X8_afterTurns_l21] at h
    refine st_iload dX8_afterTurns_21 rfl ?_
    refine st_iload_n dX8_afterTurns_23 rfl rfl ?_
    refine st_ic_ge dX8_afterTurns_24 83 (by decide) (fun c5 => ?_) (fun c5 => ?_)
    · replace h := (if_pos c5).symm.trans h
      obtain rfl := Option.some.inj h
      exact st_sub [.ref 60, .null, .null, .null, .null, .null, .int x6, .null, .null, .null] ⟨Or.inr rfl, Or.inl rfl, Or.inl rfl, Or.inl rfl, Or.inl rfl, Or.inl rfl, Or.inr rfl, Or.inl rfl, Or.inl rfl, Or.inl rfl, trivial⟩ k1
    · replace h := (if_neg c5).symm.trans h
      refine st_iload dX8_afterTurns_27 rfl ?_
      refine st_iconst dX8_afterTurns_29 (v := 3) rfl ?_
      refine st_irem dX8_afterTurns_30 (by decide) ?_
      refine st_istore dX8_afterTurns_31 (by decide) [.ref 60, .int x1, .int x2, .int x3, .int x4, .null, .int x6, .int x7, .int x8, .int (x7 - x7 / 3 * 3)] rfl ?_
      refine st_iload dX8_afterTurns_33 rfl ?_
      refine st_iconst dX8_afterTurns_35 (v := 3) rfl ?_
      refine st_idiv dX8_afterTurns_36 (by decide) ?_
      refine st_istore dX8_afterTurns_37 (by decide) [.ref 60, .int x1, .int x2, .int x3, .int x4, .null, .int x6, .int (x7 / 3), .int x8, .int (x7 - x7 / 3 * 3)] rfl ?_
      refine st_iload dX8_afterTurns_39 rfl ?_
      refine st_iconst dX8_afterTurns_41 (v := 2) rfl ?_
      obtain ⟨j4, e_j4, h⟩ := bnd h
      have kj6 : V (D + 1) RX8 mdX8_afterTurns 77 [.ref 60, .int x1, .int x2, .int x3, .int x4, .null, .int x6, .int (x7 / 3), .int x8, .null] [] j4 post := by
        refine st_iinc dX8_afterTurns_77 rfl (v := (x8 + 1)) rfl (by decide) [.ref 60, .int x1, .int x2, .int x3, .int x4, .null, .int x6, .int (x7 / 3), .int (x8 + 1), .null] rfl ?_
        refine st_goto dX8_afterTurns_80 21 (by decide) ?_
        exact ih (x7 / 3) (x8 + 1) j4 q h k1
      refine st_ic_ge dX8_afterTurns_42 77 (by decide) (fun c7 => ?_) (fun c7 => ?_)
      · replace e_j4 := (if_pos c7).symm.trans e_j4
        obtain rfl := Option.some.inj e_j4
        exact st_sub [.ref 60, .int x1, .int x2, .int x3, .int x4, .null, .int x6, .int (x7 / 3), .int x8, .null] ⟨Or.inr rfl, Or.inr rfl, Or.inr rfl, Or.inr rfl, Or.inr rfl, Or.inl rfl, Or.inr rfl, Or.inr rfl, Or.inr rfl, Or.inl rfl, trivial⟩ kj6
      · replace e_j4 := (if_neg c7).symm.trans e_j4
        refine st_aload_n dX8_afterTurns_45 rfl rfl ?_
        refine gR8 dX8_afterTurns_46 (by decide) rfl 7 (by decide) fl_RX8_25 rfl 66 rfl ?_
        refine st_iload dX8_afterTurns_49 rfl ?_
        refine st_iconst dX8_afterTurns_51 (v := 2) rfl ?_
        refine st_irem dX8_afterTurns_52 (by decide) ?_
        have kj9 : ∀ z8 : Int32, z8 = (if (x8 - x8 / 2 * 2) = 0 then x1 else x2) → V (D + 1) RX8 mdX8_afterTurns 61 [.ref 60, .int x1, .int x2, .int x3, .int x4, .null, .int x6, .int (x7 / 3), .int x8, .int (x7 - x7 / 3 * 3)] [.int z8, .ref 66] H post := by
          intro z8 ez8
          subst ez8
          refine st_iload dX8_afterTurns_61 rfl ?_
          have kj11 : ∀ z10 : Int32, z10 = (if (x7 - x7 / 3 * 3) = 0 then 0 else x6) → V (D + 1) RX8 mdX8_afterTurns 72 [.ref 60, .int x1, .int x2, .int x3, .int x4, .null, .int x6, .int (x7 / 3), .int x8, .null] [.int z10, .int (if (x8 - x8 / 2 * 2) = 0 then x1 else x2), .ref 66] H post := by
            intro z10 ez10
            subst ez10
            refine st_iload dX8_afterTurns_72 rfl ?_
            obtain ⟨H3, e_H3, e_j4⟩ := bnd e_j4
            refine st_callS [.ref 66, .int (if (x8 - x8 / 2 * 2) = 0 then x1 else x2), .int (if (x7 - x7 / 3 * 3) = 0 then 0 else x6), .int x4] dX8_afterTurns_74 co_X8_put sm_X8_put ml_RX8_144 rfl (S := []) rfl (Nat.le_of_ble_eq_true rfl) (k_X8_put (by omega) RC66 (if (x8 - x8 / 2 * 2) = 0 then x1 else x2) (if (x7 - x7 / 3 * 3) = 0 then 0 else x6) x4 H _ e_H3 ?_)
            show V (D + 1) RX8 mdX8_afterTurns 77 [.ref 60, .int x1, .int x2, .int x3, .int x4, .null, .int x6, .int (x7 / 3), .int x8, .null] [] H3 post
            obtain rfl := Option.some.inj e_j4
            exact kj6
          refine st_if_ne dX8_afterTurns_63 70 (by decide) (fun c12 => ?_) (fun c12 => ?_)
          · refine st_iload dX8_afterTurns_70 rfl ?_
            exact st_sub [.ref 60, .int x1, .int x2, .int x3, .int x4, .null, .int x6, .int (x7 / 3), .int x8, .null] ⟨Or.inr rfl, Or.inr rfl, Or.inr rfl, Or.inr rfl, Or.inr rfl, Or.inl rfl, Or.inr rfl, Or.inr rfl, Or.inr rfl, Or.inl rfl, trivial⟩ (kj11 _ (Eq.symm (if_neg c12)))
          · refine st_iconst dX8_afterTurns_66 (v := 0) rfl ?_
            refine st_goto dX8_afterTurns_67 72 (by decide) ?_
            exact st_sub [.ref 60, .int x1, .int x2, .int x3, .int x4, .null, .int x6, .int (x7 / 3), .int x8, .null] ⟨Or.inr rfl, Or.inr rfl, Or.inr rfl, Or.inr rfl, Or.inr rfl, Or.inl rfl, Or.inr rfl, Or.inr rfl, Or.inr rfl, Or.inl rfl, trivial⟩ (kj11 _ (Eq.symm (if_pos c12)))
        refine st_if_ne dX8_afterTurns_53 60 (by decide) (fun c13 => ?_) (fun c13 => ?_)
        · refine st_iload_n dX8_afterTurns_60 rfl rfl ?_
          exact (kj9 _ (Eq.symm (if_neg c13)))
        · refine st_iload_n dX8_afterTurns_56 rfl rfl ?_
          refine st_goto dX8_afterTurns_57 61 (by decide) ?_
          exact (kj9 _ (Eq.symm (if_pos c13)))
set_option maxHeartbeats 4000000 in
set_option maxRecDepth 100000 in
theorem k_X8_afterTurns {D : Nat} (hD : 4 ≤ D) (x1 : Int32) (x2 : Int32) (x3 : Int32) (x4 : Int32) (x5 : Int32) (H : Hp) (q : Int32 × Hp) (h : f_X8_afterTurns x1 x2 x3 x4 x5 H = some q) {post : Option Value → Hp → Prop} (hp : post (some (.int q.1)) q.2) : Sem D mdX8_afterTurns [.ref 60, .int x1, .int x2, .int x3, .int x4, .int x5] H post := by
  obtain ⟨D, rfl⟩ : ∃ E, D = E + 1 := ⟨D - 1, by omega⟩
  refine sem_of (own := RX8) rfl pn_RX8 (Nat.le_of_ble_eq_true rfl) [.ref 60, .int x1, .int x2, .int x3, .int x4, .int x5, .null, .null, .null, .null] ⟨Or.inr rfl, Or.inr rfl, Or.inr rfl, Or.inr rfl, Or.inr rfl, Or.inr rfl, rfl, rfl, rfl, rfl, trivial⟩ ?_
  unfold f_X8_afterTurns at h
  refine st_aload_n dX8_afterTurns_0 rfl rfl ?_
  refine gR8 dX8_afterTurns_1 (by decide) rfl 5 (by decide) fl_RX8_19 rfl 64 rfl ?_
  refine st_iconst dX8_afterTurns_4 (v := 0) rfl ?_
  obtain ⟨v1, e_v1, h⟩ := bnd h
  refine st_iald dX8_afterTurns_5 (by decide) rfl v1 e_v1 ?_
  refine st_iconst dX8_afterTurns_6 (v := 1) rfl ?_
  refine st_isub dX8_afterTurns_7 ?_
  refine st_istore dX8_afterTurns_8 (by decide) [.ref 60, .int x1, .int x2, .int x3, .int x4, .int x5, .int (v1 - 1), .null, .null, .null] rfl ?_
  refine st_iload dX8_afterTurns_10 rfl ?_
  refine st_istore dX8_afterTurns_12 (by decide) [.ref 60, .int x1, .int x2, .int x3, .int x4, .int x5, .int (v1 - 1), .int x5, .null, .null] rfl ?_
  refine st_aload_n dX8_afterTurns_14 rfl rfl ?_
  obtain ⟨H2, e_H2, h⟩ := bnd h
  refine st_callV [] dX8_afterTurns_15 co_X8_layThen im_X8_layThen se_X8_layThen ml_RX8_229 rfl (by decide) rfl (rfl : classes[8]? = some (RX8, TX8, 30)) rfl (S := []) rfl (Nat.le_of_ble_eq_true rfl) (k_X8_layThen (by omega) H _ e_H2 ?_)
  show V (D + 1) RX8 mdX8_afterTurns 18 [.ref 60, .int x1, .int x2, .int x3, .int x4, .int x5, .int (v1 - 1), .int x5, .null, .null] [] H2 post
  refine st_iconst dX8_afterTurns_18 (v := 0) rfl ?_
  refine st_istore dX8_afterTurns_19 (by decide) [.ref 60, .int x1, .int x2, .int x3, .int x4, .int x5, .int (v1 - 1), .int x5, .int 0, .null] rfl ?_
  refine st_sub [.ref 60, .int x1, .int x2, .int x3, .int x4, .null, .int (v1 - 1), .int x5, .int 0, .null] ⟨Or.inr rfl, Or.inr rfl, Or.inr rfl, Or.inr rfl, Or.inr rfl, Or.inl rfl, Or.inr rfl, Or.inr rfl, Or.inr rfl, Or.inl rfl, trivial⟩ ?_
  obtain ⟨l14, e_l14, h⟩ := bnd h
  refine k_X8_afterTurns_l21 (by omega) x1 x2 x3 x4 (v1 - 1) fuel x5 0 H2 _ e_l14 ?_
  refine st_aload_n dX8_afterTurns_83 rfl rfl ?_
  refine st_aload_n dX8_afterTurns_84 rfl rfl ?_
  refine gR8 dX8_afterTurns_85 (by decide) rfl 7 (by decide) fl_RX8_25 rfl 66 rfl ?_
  obtain ⟨H15, e_H15, h⟩ := bnd h
  refine st_callV [.ref 66] dX8_afterTurns_88 co_X8_reckon im_X8_reckon se_X8_reckon ml_RX8_232 rfl (by decide) rfl (rfl : classes[8]? = some (RX8, TX8, 30)) rfl (S := []) rfl (Nat.le_of_ble_eq_true rfl) (k_X8_reckon (by omega) RC66 l14 _ e_H15 ?_)
  show V (D + 1) RX8 mdX8_afterTurns 91 [.ref 60, .null, .null, .null, .null, .null, .int (v1 - 1), .null, .null, .null] [] H15 post
  refine st_aload_n dX8_afterTurns_91 rfl rfl ?_
  refine gR8 dX8_afterTurns_92 (by decide) rfl 23 (by decide) fl_RX8_46 rfl 73 rfl ?_
  refine st_iconst dX8_afterTurns_95 (v := 0) rfl ?_
  obtain ⟨v16, e_v16, h⟩ := bnd h
  refine st_iald dX8_afterTurns_96 (by decide) rfl v16 e_v16 ?_
  refine st_aload_n dX8_afterTurns_97 rfl rfl ?_
  refine gR8 dX8_afterTurns_98 (by decide) rfl 23 (by decide) fl_RX8_46 rfl 73 rfl ?_
  refine st_iload dX8_afterTurns_101 rfl ?_
  obtain ⟨v17, e_v17, h⟩ := bnd h
  refine st_iald dX8_afterTurns_103 (by decide) rfl v17 e_v17 ?_
  refine st_isub dX8_afterTurns_104 ?_
  obtain rfl := Option.some.inj h
  exact st_iret dX8_afterTurns_105 rfl hp
def f_X8_byTurns_l122 (x1 : Int32) (x2 : Int32) (x3 : Int32) (x4 : Int32) (x5 : Int32) : Nat → Int32 → Hp → Option (Hp)
  | 0, _, _ => none
  | n + 1, x6, H =>
    if x5 ≤ x6 then
      some H
    else
      (f_X8_afterTurns x1 x2 x3 x4 x6 H).bind fun q8 =>
      (as q8.2 74 81 x6 q8.1).bind fun H9 =>
      f_X8_byTurns_l122 x1 x2 x3 x4 x5 n (x6 + 1) H9
def f_X8_byTurns_l191 (H : Hp) (x5 : Int32) (x6 : Int32) (x7 : Int32) : Nat → Int32 → Int32 → Option (Int32)
  | 0, _, _ => none
  | n + 1, x8, x9 =>
    if 3 ≤ x9 then
      some x8
    else
      (ag H 74 81 (x7 + (x5 * x9))).bind fun v13 =>
      f_X8_byTurns_l191 H x5 x6 x7 n (if ((if (x6 - x6 / 2 * 2) = 0 then (if v13 ≤ x8 then 0 else 1) else (if x8 ≤ v13 then 0 else 1)) : Int32) = 0 then x8 else v13) (x9 + 1)
def f_X8_byTurns_l172 (x5 : Int32) (x6 : Int32) : Nat → Int32 → Hp → Option (Hp)
  | 0, _, _ => none
  | n + 1, x7, H =>
    if x5 ≤ x7 then
      some H
    else
      (ag H 74 81 x7).bind fun v12 =>
      (f_X8_byTurns_l191 H x5 x6 x7 fuel v12 1).bind fun l23 =>
      (as H 74 81 x7 l23).bind fun H24 =>
      f_X8_byTurns_l172 x5 x6 n (x7 + 1) H24
def f_X8_byTurns_l158 : Nat → Int32 → Int32 → Hp → Option (Hp)
  | 0, _, _, _ => none
  | n + 1, x5, x6, H =>
    if x6 < 0 then
      some H
    else
      (f_X8_byTurns_l172 (x5 / 3) x6 fuel 0 H).bind fun l26 =>
      f_X8_byTurns_l158 n (x5 / 3) (x6 + (-1)) l26
def f_X8_byTurns (x1 : Int32) (x2 : Int32) (x3 : Int32) (x4 : Int32) (H : Hp) : Option (Int32 × Hp) :=
  (pf H 60 0 0).bind fun H1 =>
  (f_X8_isThere H1).bind fun v2 =>
  if v2 = 0 then
    some ((-1000002), H1)
  else
    (f_X8_isGiver x1 H1).bind fun v3 =>
    if v3 = 0 then
      some ((-1000001), H1)
    else
      (f_X8_isGiver x2 H1).bind fun v4 =>
      if v4 = 0 then
        some ((-1000001), H1)
      else
        if x1 = x2 then
          some ((-1000001), H1)
        else
          (f_X8_in x3.toInt64 0 4).bind fun v5 =>
          if v5 = 0 then
            some ((-1000001), H1)
          else
            (f_X8_in x4.toInt64 1 20).bind fun v6 =>
            if v6 = 0 then
              some ((-1000001), H1)
            else
              (ag H1 64 80 3).bind fun v7 =>
              if v7 ≤ 16 then
                (f_X8_byTurns_l122 x1 x2 x3 x4 ((if x3 = 0 then 1 else (if x3 = 1 then 3 else (if x3 = 2 then 9 else (if x3 = 3 then 27 else 81)))) : Int32) fuel 0 H1).bind fun l11 =>
                (f_X8_byTurns_l158 fuel ((if x3 = 0 then 1 else (if x3 = 1 then 3 else (if x3 = 2 then 9 else (if x3 = 3 then 27 else 81)))) : Int32) (x3 - 1) l11).bind fun l28 =>
                (ag l28 74 81 0).bind fun v29 =>
                some (v29, l28)
              else
                some ((-1000003), H1)
set_option maxHeartbeats 4000000 in
set_option maxRecDepth 100000 in
theorem k_X8_byTurns_l122 {D : Nat} (hD : 5 ≤ (D + 1)) (x1 : Int32) (x2 : Int32) (x3 : Int32) (x4 : Int32) (x5 : Int32) {post : Option Value → Hp → Prop} : ∀ (n : Nat) (x6 : Int32) (H : Hp) (q : Hp), f_X8_byTurns_l122 x1 x2 x3 x4 x5 n x6 H = some q → V (D + 1) RX8 mdX8_byTurns 153 [.ref 60, .null, .null, .int x3, .null, .int x5, .null, .null, .null, .null, .null, .null] [] q post → V (D + 1) RX8 mdX8_byTurns 122 [.ref 60, .int x1, .int x2, .int x3, .int x4, .int x5, .int x6, .null, .null, .null, .null, .null] [] H post := by
  intro n
  induction n with
  | zero => intro x6 H q h; simp [f_X8_byTurns_l122] at h
  | succ n ih =>
    intro x6 H q h k1
    rw [f_X8_byTurns_l122] at h
    refine st_iload dX8_byTurns_122 rfl ?_
    refine st_iload dX8_byTurns_124 rfl ?_
    refine st_ic_ge dX8_byTurns_126 153 (by decide) (fun c10 => ?_) (fun c10 => ?_)
    · replace h := (if_pos c10).symm.trans h
      obtain rfl := Option.some.inj h
      exact st_sub [.ref 60, .null, .null, .int x3, .null, .int x5, .null, .null, .null, .null, .null, .null] ⟨Or.inr rfl, Or.inl rfl, Or.inl rfl, Or.inr rfl, Or.inl rfl, Or.inr rfl, Or.inl rfl, Or.inl rfl, Or.inl rfl, Or.inl rfl, Or.inl rfl, Or.inl rfl, trivial⟩ k1
    · replace h := (if_neg c10).symm.trans h
      refine st_aload_n dX8_byTurns_129 rfl rfl ?_
      refine gR8 dX8_byTurns_130 (by decide) rfl 25 (by decide) fl_RX8_49 rfl 74 rfl ?_
      refine st_iload dX8_byTurns_133 rfl ?_
      refine st_aload_n dX8_byTurns_135 rfl rfl ?_
      refine st_iload_n dX8_byTurns_136 rfl rfl ?_
      refine st_iload_n dX8_byTurns_137 rfl rfl ?_
      refine st_iload_n dX8_byTurns_138 rfl rfl ?_
      refine st_iload dX8_byTurns_139 rfl ?_
      refine st_iload dX8_byTurns_141 rfl ?_
      obtain ⟨q8, e_q8, h⟩ := bnd h
      refine st_callV [.int x1, .int x2, .int x3, .int x4, .int x6] dX8_byTurns_143 co_X8_afterTurns im_X8_afterTurns se_X8_afterTurns ml_RX8_281 rfl (by decide) rfl (rfl : classes[8]? = some (RX8, TX8, 30)) rfl (S := [.int x6, .ref 74]) rfl (Nat.le_of_ble_eq_true rfl) (k_X8_afterTurns (by omega) x1 x2 x3 x4 x6 H _ e_q8 ?_)
      show V (D + 1) RX8 mdX8_byTurns 146 [.ref 60, .int x1, .int x2, .int x3, .int x4, .int x5, .int x6, .null, .null, .null, .null, .null] [.int q8.1, .int x6, .ref 74] q8.2 post
      obtain ⟨H9, e_H9, h⟩ := bnd h
      refine st_iast dX8_byTurns_146 (by decide) rfl H9 e_H9 ?_
      refine st_iinc dX8_byTurns_147 rfl (v := (x6 + 1)) rfl (by decide) [.ref 60, .int x1, .int x2, .int x3, .int x4, .int x5, .int (x6 + 1), .null, .null, .null, .null, .null] rfl ?_
      refine st_goto dX8_byTurns_150 122 (by decide) ?_
      exact ih (x6 + 1) H9 q h k1
set_option maxHeartbeats 4000000 in
set_option maxRecDepth 100000 in
theorem k_X8_byTurns_l191 {D : Nat} (hD : 5 ≤ (D + 1)) (H : Hp) (x5 : Int32) (x6 : Int32) (x7 : Int32) {post : Option Value → Hp → Prop} : ∀ (n : Nat) (x8 : Int32) (x9 : Int32) (q : Int32), f_X8_byTurns_l191 H x5 x6 x7 n x8 x9 = some q → V (D + 1) RX8 mdX8_byTurns 268 [.ref 60, .null, .null, .null, .null, .int x5, .int x6, .int x7, .int q, .null, .null, .null] [] H post → V (D + 1) RX8 mdX8_byTurns 191 [.ref 60, .null, .null, .null, .null, .int x5, .int x6, .int x7, .int x8, .int x9, .null, .null] [] H post := by
  intro n
  induction n with
  | zero => intro x8 x9 q h; simp [f_X8_byTurns_l191] at h
  | succ n ih =>
    intro x8 x9 q h k1
    rw [f_X8_byTurns_l191] at h
    refine st_iload dX8_byTurns_191 rfl ?_
    refine st_iconst dX8_byTurns_193 (v := 3) rfl ?_
    refine st_ic_ge dX8_byTurns_194 268 (by decide) (fun c14 => ?_) (fun c14 => ?_)
    · replace h := (if_pos c14).symm.trans h
      obtain rfl := Option.some.inj h
      exact st_sub [.ref 60, .null, .null, .null, .null, .int x5, .int x6, .int x7, .int x8, .null, .null, .null] ⟨Or.inr rfl, Or.inl rfl, Or.inl rfl, Or.inl rfl, Or.inl rfl, Or.inr rfl, Or.inr rfl, Or.inr rfl, Or.inr rfl, Or.inl rfl, Or.inl rfl, Or.inl rfl, trivial⟩ k1
    · replace h := (if_neg c14).symm.trans h
      refine st_aload_n dX8_byTurns_197 rfl rfl ?_
      refine gR8 dX8_byTurns_198 (by decide) rfl 25 (by decide) fl_RX8_49 rfl 74 rfl ?_
      refine st_iload dX8_byTurns_201 rfl ?_
      refine st_iload dX8_byTurns_203 rfl ?_
      refine st_iload dX8_byTurns_205 rfl ?_
      refine st_imul dX8_byTurns_207 ?_
      refine st_iadd dX8_byTurns_208 ?_
      obtain ⟨v13, e_v13, h⟩ := bnd h
      refine st_iald dX8_byTurns_209 (by decide) rfl v13 e_v13 ?_
      refine st_istore dX8_byTurns_210 (by decide) [.ref 60, .null, .null, .null, .null, .int x5, .int x6, .int x7, .int x8, .int x9, .int v13, .null] rfl ?_
      refine st_iload dX8_byTurns_212 rfl ?_
      refine st_iconst dX8_byTurns_214 (v := 2) rfl ?_
      refine st_irem dX8_byTurns_215 (by decide) ?_
      have kj16 : ∀ z15 : Int32, z15 = ((if (x6 - x6 / 2 * 2) = 0 then (if v13 ≤ x8 then 0 else 1) else (if x8 ≤ v13 then 0 else 1)) : Int32) → V (D + 1) RX8 mdX8_byTurns 246 [.ref 60, .null, .null, .null, .null, .int x5, .int x6, .int x7, .int x8, .int x9, .int v13, .null] [.int z15] H post := by
        intro z15 ez15
        subst ez15
        refine st_istore dX8_byTurns_246 (by decide) [.ref 60, .null, .null, .null, .null, .int x5, .int x6, .int x7, .int x8, .int x9, .int v13, .int ((if (x6 - x6 / 2 * 2) = 0 then (if v13 ≤ x8 then 0 else 1) else (if x8 ≤ v13 then 0 else 1)) : Int32)] rfl ?_
        refine st_iload dX8_byTurns_248 rfl ?_
        have kj18 : ∀ z17 : Int32, z17 = (if ((if (x6 - x6 / 2 * 2) = 0 then (if v13 ≤ x8 then 0 else 1) else (if x8 ≤ v13 then 0 else 1)) : Int32) = 0 then x8 else v13) → V (D + 1) RX8 mdX8_byTurns 260 [.ref 60, .null, .null, .null, .null, .int x5, .int x6, .int x7, .null, .int x9, .null, .null] [.int z17] H post := by
          intro z17 ez17
          subst ez17
          refine st_istore dX8_byTurns_260 (by decide) [.ref 60, .null, .null, .null, .null, .int x5, .int x6, .int x7, .int (if ((if (x6 - x6 / 2 * 2) = 0 then (if v13 ≤ x8 then 0 else 1) else (if x8 ≤ v13 then 0 else 1)) : Int32) = 0 then x8 else v13), .int x9, .null, .null] rfl ?_
          refine st_iinc dX8_byTurns_262 rfl (v := (x9 + 1)) rfl (by decide) [.ref 60, .null, .null, .null, .null, .int x5, .int x6, .int x7, .int (if ((if (x6 - x6 / 2 * 2) = 0 then (if v13 ≤ x8 then 0 else 1) else (if x8 ≤ v13 then 0 else 1)) : Int32) = 0 then x8 else v13), .int (x9 + 1), .null, .null] rfl ?_
          refine st_goto dX8_byTurns_265 191 (by decide) ?_
          exact ih (if ((if (x6 - x6 / 2 * 2) = 0 then (if v13 ≤ x8 then 0 else 1) else (if x8 ≤ v13 then 0 else 1)) : Int32) = 0 then x8 else v13) (x9 + 1) q h k1
        refine st_if_eq dX8_byTurns_250 258 (by decide) (fun c19 => ?_) (fun c19 => ?_)
        · refine st_iload dX8_byTurns_258 rfl ?_
          exact st_sub [.ref 60, .null, .null, .null, .null, .int x5, .int x6, .int x7, .null, .int x9, .null, .null] ⟨Or.inr rfl, Or.inl rfl, Or.inl rfl, Or.inl rfl, Or.inl rfl, Or.inr rfl, Or.inr rfl, Or.inr rfl, Or.inl rfl, Or.inr rfl, Or.inl rfl, Or.inl rfl, trivial⟩ (kj18 _ (Eq.symm (if_pos c19)))
        · refine st_iload dX8_byTurns_253 rfl ?_
          refine st_goto dX8_byTurns_255 260 (by decide) ?_
          exact st_sub [.ref 60, .null, .null, .null, .null, .int x5, .int x6, .int x7, .null, .int x9, .null, .null] ⟨Or.inr rfl, Or.inl rfl, Or.inl rfl, Or.inl rfl, Or.inl rfl, Or.inr rfl, Or.inr rfl, Or.inr rfl, Or.inl rfl, Or.inr rfl, Or.inl rfl, Or.inl rfl, trivial⟩ (kj18 _ (Eq.symm (if_neg c19)))
      refine st_if_ne dX8_byTurns_216 234 (by decide) (fun c20 => ?_) (fun c20 => ?_)
      · refine st_iload dX8_byTurns_234 rfl ?_
        refine st_iload dX8_byTurns_236 rfl ?_
        refine st_ic_ge dX8_byTurns_238 245 (by decide) (fun c22 => ?_) (fun c22 => ?_)
        · refine st_iconst dX8_byTurns_245 (v := 0) rfl ?_
          exact (kj16 _ (Eq.symm ((if_neg c20).trans (if_pos c22))))
        · refine st_iconst dX8_byTurns_241 (v := 1) rfl ?_
          refine st_goto dX8_byTurns_242 246 (by decide) ?_
          exact (kj16 _ (Eq.symm ((if_neg c20).trans (if_neg c22))))
      · refine st_iload dX8_byTurns_219 rfl ?_
        refine st_iload dX8_byTurns_221 rfl ?_
        refine st_ic_le dX8_byTurns_223 230 (by decide) (fun c21 => ?_) (fun c21 => ?_)
        · refine st_iconst dX8_byTurns_230 (v := 0) rfl ?_
          refine st_goto dX8_byTurns_231 246 (by decide) ?_
          exact (kj16 _ (Eq.symm ((if_pos c20).trans (if_pos c21))))
        · refine st_iconst dX8_byTurns_226 (v := 1) rfl ?_
          refine st_goto dX8_byTurns_227 246 (by decide) ?_
          exact (kj16 _ (Eq.symm ((if_pos c20).trans (if_neg c21))))
set_option maxHeartbeats 4000000 in
set_option maxRecDepth 100000 in
theorem k_X8_byTurns_l172 {D : Nat} (hD : 5 ≤ (D + 1)) (x5 : Int32) (x6 : Int32) {post : Option Value → Hp → Prop} : ∀ (n : Nat) (x7 : Int32) (H : Hp) (q : Hp), f_X8_byTurns_l172 x5 x6 n x7 H = some q → V (D + 1) RX8 mdX8_byTurns 283 [.ref 60, .null, .null, .null, .null, .int x5, .int x6, .null, .null, .null, .null, .null] [] q post → V (D + 1) RX8 mdX8_byTurns 172 [.ref 60, .null, .null, .null, .null, .int x5, .int x6, .int x7, .null, .null, .null, .null] [] H post := by
  intro n
  induction n with
  | zero => intro x7 H q h; simp [f_X8_byTurns_l172] at h
  | succ n ih =>
    intro x7 H q h k1
    rw [f_X8_byTurns_l172] at h
    refine st_iload dX8_byTurns_172 rfl ?_
    refine st_iload dX8_byTurns_174 rfl ?_
    refine st_ic_ge dX8_byTurns_176 283 (by decide) (fun c25 => ?_) (fun c25 => ?_)
    · replace h := (if_pos c25).symm.trans h
      obtain rfl := Option.some.inj h
      exact st_sub [.ref 60, .null, .null, .null, .null, .int x5, .int x6, .null, .null, .null, .null, .null] ⟨Or.inr rfl, Or.inl rfl, Or.inl rfl, Or.inl rfl, Or.inl rfl, Or.inr rfl, Or.inr rfl, Or.inl rfl, Or.inl rfl, Or.inl rfl, Or.inl rfl, Or.inl rfl, trivial⟩ k1
    · replace h := (if_neg c25).symm.trans h
      refine st_aload_n dX8_byTurns_179 rfl rfl ?_
      refine gR8 dX8_byTurns_180 (by decide) rfl 25 (by decide) fl_RX8_49 rfl 74 rfl ?_
      refine st_iload dX8_byTurns_183 rfl ?_
      obtain ⟨v12, e_v12, h⟩ := bnd h
      refine st_iald dX8_byTurns_185 (by decide) rfl v12 e_v12 ?_
      refine st_istore dX8_byTurns_186 (by decide) [.ref 60, .null, .null, .null, .null, .int x5, .int x6, .int x7, .int v12, .null, .null, .null] rfl ?_
      refine st_iconst dX8_byTurns_188 (v := 1) rfl ?_
      refine st_istore dX8_byTurns_189 (by decide) [.ref 60, .null, .null, .null, .null, .int x5, .int x6, .int x7, .int v12, .int 1, .null, .null] rfl ?_
      obtain ⟨l23, e_l23, h⟩ := bnd h
      refine k_X8_byTurns_l191 (by omega) H x5 x6 x7 fuel v12 1 _ e_l23 ?_
      refine st_aload_n dX8_byTurns_268 rfl rfl ?_
      refine gR8 dX8_byTurns_269 (by decide) rfl 25 (by decide) fl_RX8_49 rfl 74 rfl ?_
      refine st_iload dX8_byTurns_272 rfl ?_
      refine st_iload dX8_byTurns_274 rfl ?_
      obtain ⟨H24, e_H24, h⟩ := bnd h
      refine st_iast dX8_byTurns_276 (by decide) rfl H24 e_H24 ?_
      refine st_iinc dX8_byTurns_277 rfl (v := (x7 + 1)) rfl (by decide) [.ref 60, .null, .null, .null, .null, .int x5, .int x6, .int (x7 + 1), .int l23, .null, .null, .null] rfl ?_
      refine st_goto dX8_byTurns_280 172 (by decide) ?_
      exact st_sub [.ref 60, .null, .null, .null, .null, .int x5, .int x6, .int (x7 + 1), .null, .null, .null, .null] ⟨Or.inr rfl, Or.inl rfl, Or.inl rfl, Or.inl rfl, Or.inl rfl, Or.inr rfl, Or.inr rfl, Or.inr rfl, Or.inl rfl, Or.inl rfl, Or.inl rfl, Or.inl rfl, trivial⟩ (ih (x7 + 1) H24 q h k1)
set_option maxHeartbeats 4000000 in
set_option maxRecDepth 100000 in
theorem k_X8_byTurns_l158 {D : Nat} (hD : 5 ≤ (D + 1)) {post : Option Value → Hp → Prop} : ∀ (n : Nat) (x5 : Int32) (x6 : Int32) (H : Hp) (q : Hp), f_X8_byTurns_l158 n x5 x6 H = some q → V (D + 1) RX8 mdX8_byTurns 289 [.ref 60, .null, .null, .null, .null, .null, .null, .null, .null, .null, .null, .null] [] q post → V (D + 1) RX8 mdX8_byTurns 158 [.ref 60, .null, .null, .null, .null, .int x5, .int x6, .null, .null, .null, .null, .null] [] H post := by
  intro n
  induction n with
  | zero => intro x5 x6 H q h; simp [f_X8_byTurns_l158] at h
  | succ n ih =>
    intro x5 x6 H q h k1
    rw [f_X8_byTurns_l158] at h
    refine st_iload dX8_byTurns_158 rfl ?_
    refine st_if_lt dX8_byTurns_160 289 (by decide) (fun c27 => ?_) (fun c27 => ?_)
    · replace h := (if_pos c27).symm.trans h
      obtain rfl := Option.some.inj h
      exact st_sub [.ref 60, .null, .null, .null, .null, .null, .null, .null, .null, .null, .null, .null] ⟨Or.inr rfl, Or.inl rfl, Or.inl rfl, Or.inl rfl, Or.inl rfl, Or.inl rfl, Or.inl rfl, Or.inl rfl, Or.inl rfl, Or.inl rfl, Or.inl rfl, Or.inl rfl, trivial⟩ k1
    · replace h := (if_neg c27).symm.trans h
      refine st_iload dX8_byTurns_163 rfl ?_
      refine st_iconst dX8_byTurns_165 (v := 3) rfl ?_
      refine st_idiv dX8_byTurns_166 (by decide) ?_
      refine st_istore dX8_byTurns_167 (by decide) [.ref 60, .null, .null, .null, .null, .int (x5 / 3), .int x6, .null, .null, .null, .null, .null] rfl ?_
      refine st_iconst dX8_byTurns_169 (v := 0) rfl ?_
      refine st_istore dX8_byTurns_170 (by decide) [.ref 60, .null, .null, .null, .null, .int (x5 / 3), .int x6, .int 0, .null, .null, .null, .null] rfl ?_
      obtain ⟨l26, e_l26, h⟩ := bnd h
      refine k_X8_byTurns_l172 (by omega) (x5 / 3) x6 fuel 0 H _ e_l26 ?_
      refine st_iinc dX8_byTurns_283 rfl (v := (x6 + (-1))) rfl (by decide) [.ref 60, .null, .null, .null, .null, .int (x5 / 3), .int (x6 + (-1)), .null, .null, .null, .null, .null] rfl ?_
      refine st_goto dX8_byTurns_286 158 (by decide) ?_
      exact ih (x5 / 3) (x6 + (-1)) l26 q h k1
set_option maxHeartbeats 4000000 in
set_option maxRecDepth 100000 in
theorem k_X8_byTurns {D : Nat} (hD : 5 ≤ D) (x1 : Int32) (x2 : Int32) (x3 : Int32) (x4 : Int32) (H : Hp) (q : Int32 × Hp) (h : f_X8_byTurns x1 x2 x3 x4 H = some q) {post : Option Value → Hp → Prop} (hp : post (some (.int q.1)) q.2) : Sem D mdX8_byTurns [.ref 60, .int x1, .int x2, .int x3, .int x4] H post := by
  obtain ⟨D, rfl⟩ : ∃ E, D = E + 1 := ⟨D - 1, by omega⟩
  refine sem_of (own := RX8) rfl pn_RX8 (Nat.le_of_ble_eq_true rfl) [.ref 60, .int x1, .int x2, .int x3, .int x4, .null, .null, .null, .null, .null, .null, .null] ⟨Or.inr rfl, Or.inr rfl, Or.inr rfl, Or.inr rfl, Or.inr rfl, rfl, rfl, rfl, rfl, rfl, rfl, rfl, trivial⟩ ?_
  unfold f_X8_byTurns at h
  refine st_aload_n dX8_byTurns_0 rfl rfl ?_
  refine st_iconst dX8_byTurns_1 (v := 0) rfl ?_
  obtain ⟨H1, e_H1, h⟩ := bnd h
  refine pI8 dX8_byTurns_2 (by decide) rfl 0 (by decide) fl_RX8_62 rfl rfl rfl rfl e_H1 ?_
  refine st_aload_n dX8_byTurns_5 rfl rfl ?_
  obtain ⟨v2, e_v2, h⟩ := bnd h
  refine st_callV [] dX8_byTurns_6 co_X8_isThere im_X8_isThere se_X8_isThere ml_RX8_174 rfl (by decide) rfl (rfl : classes[8]? = some (RX8, TX8, 30)) rfl (S := []) rfl (Nat.le_of_ble_eq_true rfl) (k_X8_isThere (by omega) H1 _ e_v2 ?_)
  show V (D + 1) RX8 mdX8_byTurns 9 [.ref 60, .int x1, .int x2, .int x3, .int x4, .null, .null, .null, .null, .null, .null, .null] [.int v2] H1 post
  refine st_if_ne dX8_byTurns_9 15 (by decide) (fun c30 => ?_) (fun c30 => ?_)
  · replace h := (if_neg c30).symm.trans h
    refine st_aload_n dX8_byTurns_15 rfl rfl ?_
    refine st_iload_n dX8_byTurns_16 rfl rfl ?_
    obtain ⟨v3, e_v3, h⟩ := bnd h
    refine st_callV [.int x1] dX8_byTurns_17 co_X8_isGiver im_X8_isGiver se_X8_isGiver ml_RX8_235 rfl (by decide) rfl (rfl : classes[8]? = some (RX8, TX8, 30)) rfl (S := []) rfl (Nat.le_of_ble_eq_true rfl) (k_X8_isGiver (by omega) x1 H1 _ e_v3 ?_)
    show V (D + 1) RX8 mdX8_byTurns 20 [.ref 60, .int x1, .int x2, .int x3, .int x4, .null, .null, .null, .null, .null, .null, .null] [.int v3] H1 post
    refine st_if_eq dX8_byTurns_20 61 (by decide) (fun c31 => ?_) (fun c31 => ?_)
    · replace h := (if_pos c31).symm.trans h
      refine st_ldc dX8_byTurns_61 cn_RX8_82 ?_
      obtain rfl := Option.some.inj h
      exact st_iret dX8_byTurns_63 rfl hp
    · replace h := (if_neg c31).symm.trans h
      refine st_aload_n dX8_byTurns_23 rfl rfl ?_
      refine st_iload_n dX8_byTurns_24 rfl rfl ?_
      obtain ⟨v4, e_v4, h⟩ := bnd h
      refine st_callV [.int x2] dX8_byTurns_25 co_X8_isGiver im_X8_isGiver se_X8_isGiver ml_RX8_235 rfl (by decide) rfl (rfl : classes[8]? = some (RX8, TX8, 30)) rfl (S := []) rfl (Nat.le_of_ble_eq_true rfl) (k_X8_isGiver (by omega) x2 H1 _ e_v4 ?_)
      show V (D + 1) RX8 mdX8_byTurns 28 [.ref 60, .int x1, .int x2, .int x3, .int x4, .null, .null, .null, .null, .null, .null, .null] [.int v4] H1 post
      refine st_if_eq dX8_byTurns_28 61 (by decide) (fun c32 => ?_) (fun c32 => ?_)
      · replace h := (if_pos c32).symm.trans h
        refine st_ldc dX8_byTurns_61 cn_RX8_82 ?_
        obtain rfl := Option.some.inj h
        exact st_iret dX8_byTurns_63 rfl hp
      · replace h := (if_neg c32).symm.trans h
        refine st_iload_n dX8_byTurns_31 rfl rfl ?_
        refine st_iload_n dX8_byTurns_32 rfl rfl ?_
        refine st_ic_eq dX8_byTurns_33 61 (by decide) (fun c33 => ?_) (fun c33 => ?_)
        · replace h := (if_pos c33).symm.trans h
          refine st_ldc dX8_byTurns_61 cn_RX8_82 ?_
          obtain rfl := Option.some.inj h
          exact st_iret dX8_byTurns_63 rfl hp
        · replace h := (if_neg c33).symm.trans h
          refine st_iload_n dX8_byTurns_36 rfl rfl ?_
          refine st_i2l dX8_byTurns_37 ?_
          refine st_lconst dX8_byTurns_38 (v := 0) rfl ?_
          refine st_ldc2 dX8_byTurns_39 cl_RX8_277 ?_
          obtain ⟨v5, e_v5, h⟩ := bnd h
          refine st_callS [.long x3.toInt64, .long 0, .long 4] dX8_byTurns_42 co_X8_in sm_X8_in ml_RX8_72 rfl (S := []) rfl (Nat.le_of_ble_eq_true rfl) (k_X8_in (by omega) x3.toInt64 0 4 H1 _ e_v5 ?_)
          show V (D + 1) RX8 mdX8_byTurns 45 [.ref 60, .int x1, .int x2, .int x3, .int x4, .null, .null, .null, .null, .null, .null, .null] [.int v5] H1 post
          refine st_if_eq dX8_byTurns_45 61 (by decide) (fun c34 => ?_) (fun c34 => ?_)
          · replace h := (if_pos c34).symm.trans h
            refine st_ldc dX8_byTurns_61 cn_RX8_82 ?_
            obtain rfl := Option.some.inj h
            exact st_iret dX8_byTurns_63 rfl hp
          · replace h := (if_neg c34).symm.trans h
            refine st_iload dX8_byTurns_48 rfl ?_
            refine st_i2l dX8_byTurns_50 ?_
            refine st_lconst dX8_byTurns_51 (v := 1) rfl ?_
            refine st_ldc2 dX8_byTurns_52 cl_RX8_279 ?_
            obtain ⟨v6, e_v6, h⟩ := bnd h
            refine st_callS [.long x4.toInt64, .long 1, .long 20] dX8_byTurns_55 co_X8_in sm_X8_in ml_RX8_72 rfl (S := []) rfl (Nat.le_of_ble_eq_true rfl) (k_X8_in (by omega) x4.toInt64 1 20 H1 _ e_v6 ?_)
            show V (D + 1) RX8 mdX8_byTurns 58 [.ref 60, .int x1, .int x2, .int x3, .int x4, .null, .null, .null, .null, .null, .null, .null] [.int v6] H1 post
            refine st_if_ne dX8_byTurns_58 64 (by decide) (fun c35 => ?_) (fun c35 => ?_)
            · replace h := (if_neg c35).symm.trans h
              refine st_aload_n dX8_byTurns_64 rfl rfl ?_
              refine gR8 dX8_byTurns_65 (by decide) rfl 5 (by decide) fl_RX8_19 rfl 64 rfl ?_
              refine st_iconst dX8_byTurns_68 (v := 3) rfl ?_
              obtain ⟨v7, e_v7, h⟩ := bnd h
              refine st_iald dX8_byTurns_69 (by decide) rfl v7 e_v7 ?_
              refine st_bipush dX8_byTurns_70 (v := 16) (by decide) ?_
              refine st_ic_le dX8_byTurns_72 78 (by decide) (fun c36 => ?_) (fun c36 => ?_)
              · replace h := (if_pos c36).symm.trans h
                refine st_iload_n dX8_byTurns_78 rfl rfl ?_
                have kj38 : ∀ z37 : Int32, z37 = ((if x3 = 0 then 1 else (if x3 = 1 then 3 else (if x3 = 2 then 9 else (if x3 = 3 then 27 else 81)))) : Int32) → V (D + 1) RX8 mdX8_byTurns 117 [.ref 60, .int x1, .int x2, .int x3, .int x4, .null, .null, .null, .null, .null, .null, .null] [.int z37] H1 post := by
                  intro z37 ez37
                  subst ez37
                  refine st_istore dX8_byTurns_117 (by decide) [.ref 60, .int x1, .int x2, .int x3, .int x4, .int ((if x3 = 0 then 1 else (if x3 = 1 then 3 else (if x3 = 2 then 9 else (if x3 = 3 then 27 else 81)))) : Int32), .null, .null, .null, .null, .null, .null] rfl ?_
                  refine st_iconst dX8_byTurns_119 (v := 0) rfl ?_
                  refine st_istore dX8_byTurns_120 (by decide) [.ref 60, .int x1, .int x2, .int x3, .int x4, .int ((if x3 = 0 then 1 else (if x3 = 1 then 3 else (if x3 = 2 then 9 else (if x3 = 3 then 27 else 81)))) : Int32), .int 0, .null, .null, .null, .null, .null] rfl ?_
                  obtain ⟨l11, e_l11, h⟩ := bnd h
                  refine k_X8_byTurns_l122 (by omega) x1 x2 x3 x4 ((if x3 = 0 then 1 else (if x3 = 1 then 3 else (if x3 = 2 then 9 else (if x3 = 3 then 27 else 81)))) : Int32) fuel 0 H1 _ e_l11 ?_
                  refine st_iload_n dX8_byTurns_153 rfl rfl ?_
                  refine st_iconst dX8_byTurns_154 (v := 1) rfl ?_
                  refine st_isub dX8_byTurns_155 ?_
                  refine st_istore dX8_byTurns_156 (by decide) [.ref 60, .null, .null, .int x3, .null, .int ((if x3 = 0 then 1 else (if x3 = 1 then 3 else (if x3 = 2 then 9 else (if x3 = 3 then 27 else 81)))) : Int32), .int (x3 - 1), .null, .null, .null, .null, .null] rfl ?_
                  refine st_sub [.ref 60, .null, .null, .null, .null, .int ((if x3 = 0 then 1 else (if x3 = 1 then 3 else (if x3 = 2 then 9 else (if x3 = 3 then 27 else 81)))) : Int32), .int (x3 - 1), .null, .null, .null, .null, .null] ⟨Or.inr rfl, Or.inl rfl, Or.inl rfl, Or.inl rfl, Or.inl rfl, Or.inr rfl, Or.inr rfl, Or.inl rfl, Or.inl rfl, Or.inl rfl, Or.inl rfl, Or.inl rfl, trivial⟩ ?_
                  obtain ⟨l28, e_l28, h⟩ := bnd h
                  refine k_X8_byTurns_l158 (by omega) fuel ((if x3 = 0 then 1 else (if x3 = 1 then 3 else (if x3 = 2 then 9 else (if x3 = 3 then 27 else 81)))) : Int32) (x3 - 1) l11 _ e_l28 ?_
                  refine st_aload_n dX8_byTurns_289 rfl rfl ?_
                  refine gR8 dX8_byTurns_290 (by decide) rfl 25 (by decide) fl_RX8_49 rfl 74 rfl ?_
                  refine st_iconst dX8_byTurns_293 (v := 0) rfl ?_
                  obtain ⟨v29, e_v29, h⟩ := bnd h
                  refine st_iald dX8_byTurns_294 (by decide) rfl v29 e_v29 ?_
                  obtain rfl := Option.some.inj h
                  exact st_iret dX8_byTurns_295 rfl hp
                refine st_if_ne dX8_byTurns_79 86 (by decide) (fun c39 => ?_) (fun c39 => ?_)
                · refine st_iload_n dX8_byTurns_86 rfl rfl ?_
                  refine st_iconst dX8_byTurns_87 (v := 1) rfl ?_
                  refine st_ic_ne dX8_byTurns_88 95 (by decide) (fun c40 => ?_) (fun c40 => ?_)
                  · refine st_iload_n dX8_byTurns_95 rfl rfl ?_
                    refine st_iconst dX8_byTurns_96 (v := 2) rfl ?_
                    refine st_ic_ne dX8_byTurns_97 105 (by decide) (fun c41 => ?_) (fun c41 => ?_)
                    · refine st_iload_n dX8_byTurns_105 rfl rfl ?_
                      refine st_iconst dX8_byTurns_106 (v := 3) rfl ?_
                      refine st_ic_ne dX8_byTurns_107 115 (by decide) (fun c42 => ?_) (fun c42 => ?_)
                      · refine st_bipush dX8_byTurns_115 (v := 81) (by decide) ?_
                        exact (kj38 _ (Eq.symm ((if_neg c39).trans ((if_neg c40).trans ((if_neg c41).trans (if_neg c42))))))
                      · refine st_bipush dX8_byTurns_110 (v := 27) (by decide) ?_
                        refine st_goto dX8_byTurns_112 117 (by decide) ?_
                        exact (kj38 _ (Eq.symm ((if_neg c39).trans ((if_neg c40).trans ((if_neg c41).trans (if_pos c42))))))
                    · refine st_bipush dX8_byTurns_100 (v := 9) (by decide) ?_
                      refine st_goto dX8_byTurns_102 117 (by decide) ?_
                      exact (kj38 _ (Eq.symm ((if_neg c39).trans ((if_neg c40).trans (if_pos c41)))))
                  · refine st_iconst dX8_byTurns_91 (v := 3) rfl ?_
                    refine st_goto dX8_byTurns_92 117 (by decide) ?_
                    exact (kj38 _ (Eq.symm ((if_neg c39).trans (if_pos c40))))
                · refine st_iconst dX8_byTurns_82 (v := 1) rfl ?_
                  refine st_goto dX8_byTurns_83 117 (by decide) ?_
                  exact (kj38 _ (Eq.symm (if_pos c39)))
              · replace h := (if_neg c36).symm.trans h
                refine st_ldc dX8_byTurns_75 cn_RX8_92 ?_
                obtain rfl := Option.some.inj h
                exact st_iret dX8_byTurns_77 rfl hp
            · replace h := (if_pos c35).symm.trans h
              refine st_ldc dX8_byTurns_61 cn_RX8_82 ?_
              obtain rfl := Option.some.inj h
              exact st_iret dX8_byTurns_63 rfl hp
  · replace h := (if_pos c30).symm.trans h
    refine st_ldc dX8_byTurns_12 cn_RX8_253 ?_
    obtain rfl := Option.some.inj h
    exact st_iret dX8_byTurns_14 rfl hp
