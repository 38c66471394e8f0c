def f_X5_itemAt (x1 : Int32) (x2 : Int32) (H : Hp) : Option (Int32) :=
  (ag H 4 320 ((x1 * 40) + x2)).bind fun v1 =>
  some v1
set_option maxHeartbeats 4000000 in
set_option maxRecDepth 100000 in
theorem k_X5_itemAt {D : Nat} (hD : 0 ≤ D) (x1 : Int32) (x2 : Int32) (H : Hp) (q : Int32) (h : f_X5_itemAt x1 x2 H = some q) {post : Option Value → Hp → Prop} (hp : post (some (.int q)) H) : Sem D mdX5_itemAt [.ref 1, .int x1, .int x2] H post := by
  refine sem_of (own := RX5) rfl pn_RX5 (Nat.le_of_ble_eq_true rfl) [.ref 1, .int x1, .int x2] ⟨Or.inr rfl, Or.inr rfl, Or.inr rfl, trivial⟩ ?_
  unfold f_X5_itemAt at h
  refine st_aload_n dX5_itemAt_0 rfl rfl ?_
  refine gR5 dX5_itemAt_1 (by decide) rfl 2 (by decide) fl_RX5_16 rfl 4 rfl ?_
  refine st_iload_n dX5_itemAt_4 rfl rfl ?_
  refine st_bipush dX5_itemAt_5 (v := 40) (by decide) ?_
  refine st_imul dX5_itemAt_7 ?_
  refine st_iload_n dX5_itemAt_8 rfl rfl ?_
  refine st_iadd dX5_itemAt_9 ?_
  obtain ⟨v1, e_v1, h⟩ := bnd h
  refine st_iald dX5_itemAt_10 (by decide) rfl v1 e_v1 ?_
  obtain rfl := Option.some.inj h
  exact st_iret dX5_itemAt_11 rfl hp
def f_X3_expect_l3 (x2 : Int32) (x3 : Int32) : Nat → Int32 → Hp → Option (Hp)
  | 0, _, _ => none
  | n + 1, x4, H =>
    if (H 7 3) ≤ x4 then
      some H
    else
      (f_X5_itemAt x2 (x3 + x4) H).bind fun v1 =>
      (as H 57 6 x4 v1).bind fun H2 =>
      f_X3_expect_l3 x2 x3 n (x4 + 1) H2
def f_X3_expect (x2 : Int32) (x3 : Int32) (H : Hp) : Option (Hp) :=
  (f_X3_expect_l3 x2 x3 fuel 0 H).bind fun l4 =>
  some l4
set_option maxHeartbeats 4000000 in
set_option maxRecDepth 100000 in
theorem k_X3_expect_l3 {D : Nat} (hD : 1 ≤ (D + 1)) (x2 : Int32) (x3 : Int32) {post : Option Value → Hp → Prop} : ∀ (n : Nat) (x4 : Int32) (H : Hp) (q : Hp), f_X3_expect_l3 x2 x3 n x4 H = some q → V (D + 1) RX3 mdX3_expect 37 [.null, .null, .null, .null, .null] [] q post → V (D + 1) RX3 mdX3_expect 3 [.ref 49, .ref 1, .int x2, .int x3, .int x4] [] H post := by
  intro n
  induction n with
  | zero => intro x4 H q h; simp [f_X3_expect_l3] at h
  | succ n ih =>
    intro x4 H q h k1
    rw [f_X3_expect_l3] at h
    refine st_iload dX3_expect_3 rfl ?_
    refine st_aload_n dX3_expect_5 rfl rfl ?_
    refine gR3 dX3_expect_6 (by decide) rfl 0 (by decide) fl_RX3_25 rfl 7 rfl ?_
    refine gI4 dX3_expect_9 (by decide) rfl 3 (by decide) fl_RX3_57 rfl rfl ?_
    refine st_ic_ge dX3_expect_12 37 (by decide) (fun c3 => ?_) (fun c3 => ?_)
    · replace h := (if_pos c3).symm.trans h
      obtain rfl := Option.some.inj h
      exact st_sub [.null, .null, .null, .null, .null] ⟨Or.inl rfl, Or.inl rfl, Or.inl rfl, Or.inl rfl, Or.inl rfl, trivial⟩ k1
    · replace h := (if_neg c3).symm.trans h
      refine st_aload_n dX3_expect_15 rfl rfl ?_
      refine gR3 dX3_expect_16 (by decide) rfl 4 (by decide) fl_RX3_22 rfl 57 rfl ?_
      refine st_iload dX3_expect_19 rfl ?_
      refine st_aload_n dX3_expect_21 rfl rfl ?_
      refine st_iload_n dX3_expect_22 rfl rfl ?_
      refine st_iload_n dX3_expect_23 rfl rfl ?_
      refine st_iload dX3_expect_24 rfl ?_
      refine st_iadd dX3_expect_26 ?_
      obtain ⟨v1, e_v1, h⟩ := bnd h
      refine st_callV [.int x2, .int (x3 + x4)] dX3_expect_27 co_X5_itemAt im_X5_itemAt se_X5_itemAt ml_RX3_99 rfl (by decide) rfl (rfl : classes[5]? = some (RX5, TX5, 3)) rfl (S := [.int x4, .ref 57]) rfl (Nat.le_of_ble_eq_true rfl) (k_X5_itemAt (by omega) x2 (x3 + x4) H _ e_v1 ?_)
      show V (D + 1) RX3 mdX3_expect 30 [.ref 49, .ref 1, .int x2, .int x3, .int x4] [.int v1, .int x4, .ref 57] H post
      obtain ⟨H2, e_H2, h⟩ := bnd h
      refine st_iast dX3_expect_30 (by decide) rfl H2 e_H2 ?_
      refine st_iinc dX3_expect_31 rfl (v := (x4 + 1)) rfl (by decide) [.ref 49, .ref 1, .int x2, .int x3, .int (x4 + 1)] rfl ?_
      refine st_goto dX3_expect_34 3 (by decide) ?_
      exact ih (x4 + 1) H2 q h k1
set_option maxHeartbeats 4000000 in
set_option maxRecDepth 100000 in
theorem k_X3_expect {D : Nat} (hD : 1 ≤ D) (x2 : Int32) (x3 : Int32) (H : Hp) (q : Hp) (h : f_X3_expect x2 x3 H = some q) {post : Option Value → Hp → Prop} (hp : post none q) : Sem D mdX3_expect [.ref 49, .ref 1, .int x2, .int x3] H post := by
  obtain ⟨D, rfl⟩ : ∃ E, D = E + 1 := ⟨D - 1, by omega⟩
  refine sem_of (own := RX3) rfl pn_RX3 (Nat.le_of_ble_eq_true rfl) [.ref 49, .ref 1, .int x2, .int x3, .null] ⟨Or.inr rfl, Or.inr rfl, Or.inr rfl, Or.inr rfl, rfl, trivial⟩ ?_
  unfold f_X3_expect at h
  refine st_iconst dX3_expect_0 (v := 0) rfl ?_
  refine st_istore dX3_expect_1 (by decide) [.ref 49, .ref 1, .int x2, .int x3, .int 0] rfl ?_
  obtain ⟨l4, e_l4, h⟩ := bnd h
  refine k_X3_expect_l3 (by omega) x2 x3 fuel 0 H _ e_l4 ?_
  obtain rfl := Option.some.inj h
  exact st_vret dX3_expect_37 rfl hp
def f_X3_isAsExpected_l2 (H : Hp) : Nat → Int32 → Option ((Unit) ⊕ (Int32))
  | 0, _ => none
  | n + 1, x1 =>
    if (H 7 3) ≤ x1 then
      some (.inl ())
    else
      (ag H 48 6 x1).bind fun v1 =>
      (ag H 57 6 x1).bind fun v2 =>
      if v1 = v2 then
        f_X3_isAsExpected_l2 H n (x1 + 1)
      else
        some (.inr 0)
def f_X3_isAsExpected (H : Hp) : Option (Int32) :=
  (f_X3_isAsExpected_l2 H fuel 0).bind fun l5 => Sum.elim (fun t6 =>
    some 1) (fun r => some r) l5
set_option maxHeartbeats 4000000 in
set_option maxRecDepth 100000 in
theorem k_X3_isAsExpected_l2 {D : Nat} (hD : 0 ≤ D) (H : Hp) {post : Option Value → Hp → Prop} : ∀ (n : Nat) (x1 : Int32) (q : (Unit) ⊕ (Int32)), f_X3_isAsExpected_l2 H n x1 = some q → (∀ t, q = .inl t → V D RX3 mdX3_isAsExpected 39 [.null, .null] [] H post) → (∀ r, q = .inr r → post (some (.int r)) H) → V D RX3 mdX3_isAsExpected 2 [.ref 49, .int x1] [] H post := by
  intro n
  induction n with
  | zero => intro x1 q h; simp [f_X3_isAsExpected_l2] at h
  | succ n ih =>
    intro x1 q h k1 k2
    rw [f_X3_isAsExpected_l2] at h
    refine st_iload_n dX3_isAsExpected_2 rfl rfl ?_
    refine st_aload_n dX3_isAsExpected_3 rfl rfl ?_
    refine gR3 dX3_isAsExpected_4 (by decide) rfl 0 (by decide) fl_RX3_25 rfl 7 rfl ?_
    refine gI4 dX3_isAsExpected_7 (by decide) rfl 3 (by decide) fl_RX3_57 rfl rfl ?_
    refine st_ic_ge dX3_isAsExpected_10 39 (by decide) (fun c3 => ?_) (fun c3 => ?_)
    · replace h := (if_pos c3).symm.trans h
      exact st_sub [.null, .null] ⟨Or.inl rfl, Or.inl rfl, trivial⟩ (k1 _ (Option.some.inj h).symm)
    · replace h := (if_neg c3).symm.trans h
      refine st_aload_n dX3_isAsExpected_13 rfl rfl ?_
      refine gR3 dX3_isAsExpected_14 (by decide) rfl 1 (by decide) fl_RX3_28 rfl 38 rfl ?_
      refine gR2 dX3_isAsExpected_17 (by decide) rfl 9 (by decide) fl_RX3_48 rfl 48 rfl ?_
      refine st_iload_n dX3_isAsExpected_20 rfl rfl ?_
      obtain ⟨v1, e_v1, h⟩ := bnd h
      refine st_iald dX3_isAsExpected_21 (by decide) rfl v1 e_v1 ?_
      refine st_aload_n dX3_isAsExpected_22 rfl rfl ?_
      refine gR3 dX3_isAsExpected_23 (by decide) rfl 4 (by decide) fl_RX3_22 rfl 57 rfl ?_
      refine st_iload_n dX3_isAsExpected_26 rfl rfl ?_
      obtain ⟨v2, e_v2, h⟩ := bnd h
      refine st_iald dX3_isAsExpected_27 (by decide) rfl v2 e_v2 ?_
      refine st_ic_eq dX3_isAsExpected_28 33 (by decide) (fun c4 => ?_) (fun c4 => ?_)
      · replace h := (if_pos c4).symm.trans h
        refine st_iinc dX3_isAsExpected_33 rfl (v := (x1 + 1)) rfl (by decide) [.ref 49, .int (x1 + 1)] rfl ?_
        refine st_goto dX3_isAsExpected_36 2 (by decide) ?_
        exact ih (x1 + 1) q h k1 k2
      · replace h := (if_neg c4).symm.trans h
        refine st_iconst dX3_isAsExpected_31 (v := 0) rfl ?_
        have hp := k2 _ (Option.some.inj h).symm
        exact st_zret dX3_isAsExpected_32 rfl (by first | rfl | (split <;> rfl) | (repeat (first | rfl | split))) hp
set_option maxHeartbeats 4000000 in
set_option maxRecDepth 100000 in
theorem k_X3_isAsExpected {D : Nat} (hD : 0 ≤ D) (H : Hp) (q : Int32) (h : f_X3_isAsExpected H = some q) {post : Option Value → Hp → Prop} (hp : post (some (.int q)) H) : Sem D mdX3_isAsExpected [.ref 49] H post := by
  refine sem_of (own := RX3) rfl pn_RX3 (Nat.le_of_ble_eq_true rfl) [.ref 49, .null] ⟨Or.inr rfl, rfl, trivial⟩ ?_
  unfold f_X3_isAsExpected at h
  refine st_iconst dX3_isAsExpected_0 (v := 0) rfl ?_
  refine st_istore_n dX3_isAsExpected_1 rfl (by decide) [.ref 49, .int 0] rfl ?_
  obtain ⟨l5, e_l5, h⟩ := bnd h
  refine k_X3_isAsExpected_l2 (by omega) H fuel 0 _ e_l5 (fun t6 z => ?_) (fun r z => ?_)
  · subst z
    rw [Sum.elim_inl] at h
    refine st_iconst dX3_isAsExpected_39 (v := 1) rfl ?_
    obtain rfl := Option.some.inj h
    exact st_zret dX3_isAsExpected_40 rfl (by first | rfl | (split <;> rfl) | (repeat (first | rfl | split))) hp
  · subst z
    rw [Sum.elim_inr] at h
    obtain rfl := Option.some.inj h
    exact hp
def f_X3_fittingPots_l22 (x1 : Int32) : Nat → Int32 → Int32 → Hp → Option ((Int32 × Hp) ⊕ (Int32 × Hp))
  | 0, _, _, _ => none
  | n + 1, x2, x3, H =>
    if 999 < x3 then
      some (.inl (x2, H))
    else
      (f_X2_share x3 H).bind fun H3 =>
      (f_X3_isAsExpected H3).bind fun v4 =>
      if v4 = 0 then
        f_X3_fittingPots_l22 x1 n x2 (x3 + 1) H3
      else
        if x1 = 0 then
          f_X3_fittingPots_l22 x1 n (x2 + 1) (x3 + 1) H3
        else
          some (.inr (x3, H3))
def f_X3_fittingPots (x1 : Int32) (H : Hp) : Option (Int32 × Hp) :=
  (f_X2_load H).bind fun H1 =>
  (f_X2_settle H1).bind fun H2 =>
  (f_X3_fittingPots_l22 x1 fuel 0 0 H2).bind fun l8 => Sum.elim (fun t9 =>
    some ((if x1 = 0 then t9.1 else (-1000000)), t9.2)) (fun r => some r) l8
set_option maxHeartbeats 4000000 in
set_option maxRecDepth 100000 in
theorem k_X3_fittingPots_l22 {D : Nat} (hD : 5 ≤ (D + 1)) (x1 : Int32) {post : Option Value → Hp → Prop} : ∀ (n : Nat) (x2 : Int32) (x3 : Int32) (H : Hp) (q : (Int32 × Hp) ⊕ (Int32 × Hp)), f_X3_fittingPots_l22 x1 n x2 x3 H = some q → (∀ t, q = .inl t → V (D + 1) RX3 mdX3_fittingPots 59 [.null, .int x1, .int t.1, .null] [] t.2 post) → (∀ r, q = .inr r → post (some (.int r.1)) r.2) → V (D + 1) RX3 mdX3_fittingPots 22 [.ref 49, .int x1, .int x2, .int x3] [] H post := by
  intro n
  induction n with
  | zero => intro x2 x3 H q h; simp [f_X3_fittingPots_l22] at h
  | succ n ih =>
    intro x2 x3 H q h k1 k2
    rw [f_X3_fittingPots_l22] at h
    refine st_iload_n dX3_fittingPots_22 rfl rfl ?_
    refine st_sipush dX3_fittingPots_23 (v := 999) (by decide) ?_
    refine st_ic_gt dX3_fittingPots_26 59 (by decide) (fun c5 => ?_) (fun c5 => ?_)
    · replace h := (if_pos c5).symm.trans h
      exact st_sub [.null, .int x1, .int x2, .null] ⟨Or.inl rfl, Or.inr rfl, Or.inr rfl, Or.inl rfl, trivial⟩ (k1 _ (Option.some.inj h).symm)
    · replace h := (if_neg c5).symm.trans h
      refine st_aload_n dX3_fittingPots_29 rfl rfl ?_
      refine gR3 dX3_fittingPots_30 (by decide) rfl 1 (by decide) fl_RX3_28 rfl 38 rfl ?_
      refine st_iload_n dX3_fittingPots_33 rfl rfl ?_
      obtain ⟨H3, e_H3, h⟩ := bnd h
      refine st_callV [.int x3] dX3_fittingPots_34 co_X2_share im_X2_share se_X2_share ml_RX3_104 rfl (by decide) rfl (rfl : classes[2]? = some (RX2, TX2, 15)) rfl (S := []) rfl (Nat.le_of_ble_eq_true rfl) (k_X2_share (by omega) x3 H _ e_H3 ?_)
      show V (D + 1) RX3 mdX3_fittingPots 37 [.ref 49, .int x1, .int x2, .int x3] [] H3 post
      refine st_aload_n dX3_fittingPots_37 rfl rfl ?_
      obtain ⟨v4, e_v4, h⟩ := bnd h
      refine st_callV [] dX3_fittingPots_38 co_X3_isAsExpected im_X3_isAsExpected se_X3_isAsExpected ml_RX3_107 rfl (by decide) rfl (rfl : classes[3]? = some (RX3, TX3, 5)) rfl (S := []) rfl (Nat.le_of_ble_eq_true rfl) (k_X3_isAsExpected (by omega) H3 _ e_v4 ?_)
      show V (D + 1) RX3 mdX3_fittingPots 41 [.ref 49, .int x1, .int x2, .int x3] [.int v4] H3 post
      refine st_if_eq dX3_fittingPots_41 53 (by decide) (fun c6 => ?_) (fun c6 => ?_)
      · replace h := (if_pos c6).symm.trans h
        refine st_iinc dX3_fittingPots_53 rfl (v := (x3 + 1)) rfl (by decide) [.ref 49, .int x1, .int x2, .int (x3 + 1)] rfl ?_
        refine st_goto dX3_fittingPots_56 22 (by decide) ?_
        exact ih x2 (x3 + 1) H3 q h k1 k2
      · replace h := (if_neg c6).symm.trans h
        refine st_iload_n dX3_fittingPots_44 rfl rfl ?_
        refine st_if_eq dX3_fittingPots_45 50 (by decide) (fun c7 => ?_) (fun c7 => ?_)
        · replace h := (if_pos c7).symm.trans h
          refine st_iinc dX3_fittingPots_50 rfl (v := (x2 + 1)) rfl (by decide) [.ref 49, .int x1, .int (x2 + 1), .int x3] rfl ?_
          refine st_iinc dX3_fittingPots_53 rfl (v := (x3 + 1)) rfl (by decide) [.ref 49, .int x1, .int (x2 + 1), .int (x3 + 1)] rfl ?_
          refine st_goto dX3_fittingPots_56 22 (by decide) ?_
          exact ih (x2 + 1) (x3 + 1) H3 q h k1 k2
        · replace h := (if_neg c7).symm.trans h
          refine st_iload_n dX3_fittingPots_48 rfl rfl ?_
          have hp := k2 _ (Option.some.inj h).symm
          exact st_iret dX3_fittingPots_49 rfl hp
set_option maxHeartbeats 4000000 in
set_option maxRecDepth 100000 in
theorem k_X3_fittingPots {D : Nat} (hD : 5 ≤ D) (x1 : Int32) (H : Hp) (q : Int32 × Hp) (h : f_X3_fittingPots x1 H = some q) {post : Option Value → Hp → Prop} (hp : post (some (.int q.1)) q.2) : Sem D mdX3_fittingPots [.ref 49, .int x1] H post := by
  obtain ⟨D, rfl⟩ : ∃ E, D = E + 1 := ⟨D - 1, by omega⟩
  refine sem_of (own := RX3) rfl pn_RX3 (Nat.le_of_ble_eq_true rfl) [.ref 49, .int x1, .null, .null] ⟨Or.inr rfl, Or.inr rfl, rfl, rfl, trivial⟩ ?_
  unfold f_X3_fittingPots at h
  refine st_iconst dX3_fittingPots_0 (v := 0) rfl ?_
  refine st_istore_n dX3_fittingPots_1 rfl (by decide) [.ref 49, .int x1, .int 0, .null] rfl ?_
  refine st_aload_n dX3_fittingPots_2 rfl rfl ?_
  refine gR3 dX3_fittingPots_3 (by decide) rfl 1 (by decide) fl_RX3_28 rfl 38 rfl ?_
  refine st_aload_n dX3_fittingPots_6 rfl rfl ?_
  refine gR3 dX3_fittingPots_7 (by decide) rfl 0 (by decide) fl_RX3_25 rfl 7 rfl ?_
  obtain ⟨H1, e_H1, h⟩ := bnd h
  refine st_callV [.ref 7] dX3_fittingPots_10 co_X2_load im_X2_load se_X2_load ml_RX3_32 rfl (by decide) rfl (rfl : classes[2]? = some (RX2, TX2, 15)) rfl (S := []) rfl (Nat.le_of_ble_eq_true rfl) (k_X2_load (by omega) H _ e_H1 ?_)
  show V (D + 1) RX3 mdX3_fittingPots 13 [.ref 49, .int x1, .int 0, .null] [] H1 post
  refine st_aload_n dX3_fittingPots_13 rfl rfl ?_
  refine gR3 dX3_fittingPots_14 (by decide) rfl 1 (by decide) fl_RX3_28 rfl 38 rfl ?_
  obtain ⟨H2, e_H2, h⟩ := bnd h
  refine st_callV [] dX3_fittingPots_17 co_X2_settle im_X2_settle se_X2_settle ml_RX3_45 rfl (by decide) rfl (rfl : classes[2]? = some (RX2, TX2, 15)) rfl (S := []) rfl (Nat.le_of_ble_eq_true rfl) (k_X2_settle (by omega) H1 _ e_H2 ?_)
  show V (D + 1) RX3 mdX3_fittingPots 20 [.ref 49, .int x1, .int 0, .null] [] H2 post
  refine st_iconst dX3_fittingPots_20 (v := 0) rfl ?_
  refine st_istore_n dX3_fittingPots_21 rfl (by decide) [.ref 49, .int x1, .int 0, .int 0] rfl ?_
  obtain ⟨l8, e_l8, h⟩ := bnd h
  refine k_X3_fittingPots_l22 (by omega) x1 fuel 0 0 H2 _ e_l8 (fun t9 z => ?_) (fun r z => ?_)
  · subst z
    rw [Sum.elim_inl] at h
    refine st_iload_n dX3_fittingPots_59 rfl rfl ?_
    have kj11 : ∀ z10 : Int32, z10 = (if x1 = 0 then t9.1 else (-1000000)) → V (D + 1) RX3 mdX3_fittingPots 69 [.null, .null, .null, .null] [.int z10] t9.2 post := by
      intro z10 ez10
      subst ez10
      obtain rfl := Option.some.inj h
      exact st_iret dX3_fittingPots_69 rfl hp
    refine st_if_eq dX3_fittingPots_60 68 (by decide) (fun c12 => ?_) (fun c12 => ?_)
    · refine st_iload_n dX3_fittingPots_68 rfl rfl ?_
      exact st_sub [.null, .null, .null, .null] ⟨Or.inl rfl, Or.inl rfl, Or.inl rfl, Or.inl rfl, trivial⟩ (kj11 _ (Eq.symm (if_pos c12)))
    · refine st_ldc dX3_fittingPots_63 cn_RX3_65 ?_
      refine st_goto dX3_fittingPots_65 69 (by decide) ?_
      exact st_sub [.null, .null, .null, .null] ⟨Or.inl rfl, Or.inl rfl, Or.inl rfl, Or.inl rfl, trivial⟩ (kj11 _ (Eq.symm (if_neg c12)))
  · subst z
    rw [Sum.elim_inr] at h
    obtain rfl := Option.some.inj h
    exact hp
def f_X3_fittingKinds_l15 (x1 : Int32) : Nat → Int32 → Int32 → Hp → Option (Int32 × Hp)
  | 0, _, _, _ => none
  | n + 1, x2, x3, H =>
    if 5 < x3 then
      some (x2, H)
    else
      (as H 42 6 x1 x3).bind fun H2 =>
      (f_X2_settle H2).bind fun H3 =>
      (f_X3_isAsExpected H3).bind fun v4 =>
      f_X3_fittingKinds_l15 x1 n (if v4 = 0 then x2 else (x2 ||| ((1 : Int32) <<< (x3 &&& 31)))) (x3 + 1) H3
def f_X3_fittingKinds (x1 : Int32) (H : Hp) : Option (Int32 × Hp) :=
  (f_X2_load H).bind fun H1 =>
  (f_X3_fittingKinds_l15 x1 fuel 0 1 H1).bind fun l9 =>
  some (l9.1, l9.2)
set_option maxHeartbeats 4000000 in
set_option maxRecDepth 100000 in
theorem k_X3_fittingKinds_l15 {D : Nat} (hD : 5 ≤ (D + 1)) (x1 : Int32) {post : Option Value → Hp → Prop} : ∀ (n : Nat) (x2 : Int32) (x3 : Int32) (H : Hp) (q : Int32 × Hp), f_X3_fittingKinds_l15 x1 n x2 x3 H = some q → V (D + 1) RX3 mdX3_fittingKinds 56 [.null, .null, .int q.1, .null] [] q.2 post → V (D + 1) RX3 mdX3_fittingKinds 15 [.ref 49, .int x1, .int x2, .int x3] [] H post := by
  intro n
  induction n with
  | zero => intro x2 x3 H q h; simp [f_X3_fittingKinds_l15] at h
  | succ n ih =>
    intro x2 x3 H q h k1
    rw [f_X3_fittingKinds_l15] at h
    refine st_iload_n dX3_fittingKinds_15 rfl rfl ?_
    refine st_iconst dX3_fittingKinds_16 (v := 5) rfl ?_
    refine st_ic_gt dX3_fittingKinds_17 56 (by decide) (fun c5 => ?_) (fun c5 => ?_)
    · replace h := (if_pos c5).symm.trans h
      obtain rfl := Option.some.inj h
      exact st_sub [.null, .null, .int x2, .null] ⟨Or.inl rfl, Or.inl rfl, Or.inr rfl, Or.inl rfl, trivial⟩ k1
    · replace h := (if_neg c5).symm.trans h
      refine st_aload_n dX3_fittingKinds_20 rfl rfl ?_
      refine gR3 dX3_fittingKinds_21 (by decide) rfl 1 (by decide) fl_RX3_28 rfl 38 rfl ?_
      refine gR2 dX3_fittingKinds_24 (by decide) rfl 3 (by decide) fl_RX3_111 rfl 42 rfl ?_
      refine st_iload_n dX3_fittingKinds_27 rfl rfl ?_
      refine st_iload_n dX3_fittingKinds_28 rfl rfl ?_
      obtain ⟨H2, e_H2, h⟩ := bnd h
      refine st_iast dX3_fittingKinds_29 (by decide) rfl H2 e_H2 ?_
      refine st_aload_n dX3_fittingKinds_30 rfl rfl ?_
      refine gR3 dX3_fittingKinds_31 (by decide) rfl 1 (by decide) fl_RX3_28 rfl 38 rfl ?_
      obtain ⟨H3, e_H3, h⟩ := bnd h
      refine st_callV [] dX3_fittingKinds_34 co_X2_settle im_X2_settle se_X2_settle ml_RX3_45 rfl (by decide) rfl (rfl : classes[2]? = some (RX2, TX2, 15)) rfl (S := []) rfl (Nat.le_of_ble_eq_true rfl) (k_X2_settle (by omega) H2 _ e_H3 ?_)
      show V (D + 1) RX3 mdX3_fittingKinds 37 [.ref 49, .int x1, .int x2, .int x3] [] H3 post
      refine st_aload_n dX3_fittingKinds_37 rfl rfl ?_
      obtain ⟨v4, e_v4, h⟩ := bnd h
      refine st_callV [] dX3_fittingKinds_38 co_X3_isAsExpected im_X3_isAsExpected se_X3_isAsExpected ml_RX3_107 rfl (by decide) rfl (rfl : classes[3]? = some (RX3, TX3, 5)) rfl (S := []) rfl (Nat.le_of_ble_eq_true rfl) (k_X3_isAsExpected (by omega) H3 _ e_v4 ?_)
      show V (D + 1) RX3 mdX3_fittingKinds 41 [.ref 49, .int x1, .int x2, .int x3] [.int v4] H3 post
      have kj7 : ∀ z6 : Int32, z6 = (if v4 = 0 then x2 else (x2 ||| ((1 : Int32) <<< (x3 &&& 31)))) → V (D + 1) RX3 mdX3_fittingKinds 50 [.ref 49, .int x1, .int z6, .int x3] [] H3 post := by
        intro z6 ez6
        subst ez6
        refine st_iinc dX3_fittingKinds_50 rfl (v := (x3 + 1)) rfl (by decide) [.ref 49, .int x1, .int (if v4 = 0 then x2 else (x2 ||| ((1 : Int32) <<< (x3 &&& 31)))), .int (x3 + 1)] rfl ?_
        refine st_goto dX3_fittingKinds_53 15 (by decide) ?_
        exact ih (if v4 = 0 then x2 else (x2 ||| ((1 : Int32) <<< (x3 &&& 31)))) (x3 + 1) H3 q h k1
      refine st_if_eq dX3_fittingKinds_41 50 (by decide) (fun c8 => ?_) (fun c8 => ?_)
      · exact (kj7 _ (Eq.symm (if_pos c8)))
      · refine st_iload_n dX3_fittingKinds_44 rfl rfl ?_
        refine st_iconst dX3_fittingKinds_45 (v := 1) rfl ?_
        refine st_iload_n dX3_fittingKinds_46 rfl rfl ?_
        refine st_ishl dX3_fittingKinds_47 ?_
        refine st_ior dX3_fittingKinds_48 ?_
        refine st_istore_n dX3_fittingKinds_49 rfl (by decide) [.ref 49, .int x1, .int (x2 ||| ((1 : Int32) <<< (x3 &&& 31))), .int x3] rfl ?_
        exact (kj7 _ (Eq.symm (if_neg c8)))
set_option maxHeartbeats 4000000 in
set_option maxRecDepth 100000 in
theorem k_X3_fittingKinds {D : Nat} (hD : 5 ≤ D) (x1 : Int32) (H : Hp) (q : Int32 × Hp) (h : f_X3_fittingKinds x1 H = some q) {post : Option Value → Hp → Prop} (hp : post (some (.int q.1)) q.2) : Sem D mdX3_fittingKinds [.ref 49, .int x1] H post := by
  obtain ⟨D, rfl⟩ : ∃ E, D = E + 1 := ⟨D - 1, by omega⟩
  refine sem_of (own := RX3) rfl pn_RX3 (Nat.le_of_ble_eq_true rfl) [.ref 49, .int x1, .null, .null] ⟨Or.inr rfl, Or.inr rfl, rfl, rfl, trivial⟩ ?_
  unfold f_X3_fittingKinds at h
  refine st_iconst dX3_fittingKinds_0 (v := 0) rfl ?_
  refine st_istore_n dX3_fittingKinds_1 rfl (by decide) [.ref 49, .int x1, .int 0, .null] rfl ?_
  refine st_aload_n dX3_fittingKinds_2 rfl rfl ?_
  refine gR3 dX3_fittingKinds_3 (by decide) rfl 1 (by decide) fl_RX3_28 rfl 38 rfl ?_
  refine st_aload_n dX3_fittingKinds_6 rfl rfl ?_
  refine gR3 dX3_fittingKinds_7 (by decide) rfl 0 (by decide) fl_RX3_25 rfl 7 rfl ?_
  obtain ⟨H1, e_H1, h⟩ := bnd h
  refine st_callV [.ref 7] dX3_fittingKinds_10 co_X2_load im_X2_load se_X2_load ml_RX3_32 rfl (by decide) rfl (rfl : classes[2]? = some (RX2, TX2, 15)) rfl (S := []) rfl (Nat.le_of_ble_eq_true rfl) (k_X2_load (by omega) H _ e_H1 ?_)
  show V (D + 1) RX3 mdX3_fittingKinds 13 [.ref 49, .int x1, .int 0, .null] [] H1 post
  refine st_iconst dX3_fittingKinds_13 (v := 1) rfl ?_
  refine st_istore_n dX3_fittingKinds_14 rfl (by decide) [.ref 49, .int x1, .int 0, .int 1] rfl ?_
  obtain ⟨l9, e_l9, h⟩ := bnd h
  refine k_X3_fittingKinds_l15 (by omega) x1 fuel 0 1 H1 _ e_l9 ?_
  refine st_iload_n dX3_fittingKinds_56 rfl rfl ?_
  obtain rfl := Option.some.inj h
  exact st_iret dX3_fittingKinds_57 rfl hp
def f_X3_fittingCoins_l67 (x2 : Int32) (x4 : Int32) (x5 : Int32) : Nat → Int32 → Int32 → Hp → Option ((Int32 × Hp) ⊕ (Int32 × Hp))
  | 0, _, _, _ => none
  | n + 1, x3, x6, H =>
    if 99 < x6 then
      some (.inl (x3, H))
    else
      (f_X2_add x4 x5 1 H).bind fun H7 =>
      (f_X2_settle H7).bind fun H8 =>
      (f_X3_isAsExpected H8).bind fun v9 =>
      if v9 = 0 then
        f_X3_fittingCoins_l67 x2 x4 x5 n x3 (x6 + 1) H8
      else
        if x2 = 0 then
          f_X3_fittingCoins_l67 x2 x4 x5 n (x3 + 1) (x6 + 1) H8
        else
          some (.inr (x6, H8))
def f_X3_fittingCoins (x1 : Int32) (x2 : Int32) (H : Hp) : Option (Int32 × Hp) :=
  (ag H 10 20 x1).bind fun v1 =>
  (ag H 9 10 v1).bind fun v2 =>
  (ag H 11 20 x1).bind fun v3 =>
  (f_X2_load H).bind fun H4 =>
  (ag H4 12 20 x1).bind fun v5 =>
  (f_X2_add v2 v3 (-v5) H4).bind fun H6 =>
  (f_X3_fittingCoins_l67 x2 v2 v3 fuel 0 1 H6).bind fun l13 => Sum.elim (fun t14 =>
    some ((if x2 = 0 then t14.1 else (-1000000)), t14.2)) (fun r => some r) l13
set_option maxHeartbeats 4000000 in
set_option maxRecDepth 100000 in
theorem k_X3_fittingCoins_l67 {D : Nat} (hD : 5 ≤ (D + 1)) (x2 : Int32) (x4 : Int32) (x5 : Int32) {post : Option Value → Hp → Prop} : ∀ (n : Nat) (x3 : Int32) (x6 : Int32) (H : Hp) (q : (Int32 × Hp) ⊕ (Int32 × Hp)), f_X3_fittingCoins_l67 x2 x4 x5 n x3 x6 H = some q → (∀ t, q = .inl t → V (D + 1) RX3 mdX3_fittingCoins 116 [.null, .null, .int x2, .int t.1, .null, .null, .null] [] t.2 post) → (∀ r, q = .inr r → post (some (.int r.1)) r.2) → V (D + 1) RX3 mdX3_fittingCoins 67 [.ref 49, .null, .int x2, .int x3, .int x4, .int x5, .int x6] [] H post := by
  intro n
  induction n with
  | zero => intro x3 x6 H q h; simp [f_X3_fittingCoins_l67] at h
  | succ n ih =>
    intro x3 x6 H q h k1 k2
    rw [f_X3_fittingCoins_l67] at h
    refine st_iload dX3_fittingCoins_67 rfl ?_
    refine st_bipush dX3_fittingCoins_69 (v := 99) (by decide) ?_
    refine st_ic_gt dX3_fittingCoins_71 116 (by decide) (fun c10 => ?_) (fun c10 => ?_)
    · replace h := (if_pos c10).symm.trans h
      exact st_sub [.null, .null, .int x2, .int x3, .null, .null, .null] ⟨Or.inl rfl, Or.inl rfl, Or.inr rfl, Or.inr rfl, Or.inl rfl, Or.inl rfl, Or.inl rfl, trivial⟩ (k1 _ (Option.some.inj h).symm)
    · replace h := (if_neg c10).symm.trans h
      refine st_aload_n dX3_fittingCoins_74 rfl rfl ?_
      refine gR3 dX3_fittingCoins_75 (by decide) rfl 1 (by decide) fl_RX3_28 rfl 38 rfl ?_
      refine st_iload dX3_fittingCoins_78 rfl ?_
      refine st_iload dX3_fittingCoins_80 rfl ?_
      refine st_iconst dX3_fittingCoins_82 (v := 1) rfl ?_
      obtain ⟨H7, e_H7, h⟩ := bnd h
      refine st_callV [.int x4, .int x5, .int 1] dX3_fittingCoins_83 co_X2_add im_X2_add se_X2_add ml_RX3_41 rfl (by decide) rfl (rfl : classes[2]? = some (RX2, TX2, 15)) rfl (S := []) rfl (Nat.le_of_ble_eq_true rfl) (k_X2_add (by omega) x4 x5 1 H _ e_H7 ?_)
      show V (D + 1) RX3 mdX3_fittingCoins 86 [.ref 49, .null, .int x2, .int x3, .int x4, .int x5, .int x6] [] H7 post
      refine st_aload_n dX3_fittingCoins_86 rfl rfl ?_
      refine gR3 dX3_fittingCoins_87 (by decide) rfl 1 (by decide) fl_RX3_28 rfl 38 rfl ?_
      obtain ⟨H8, e_H8, h⟩ := bnd h
      refine st_callV [] dX3_fittingCoins_90 co_X2_settle im_X2_settle se_X2_settle ml_RX3_45 rfl (by decide) rfl (rfl : classes[2]? = some (RX2, TX2, 15)) rfl (S := []) rfl (Nat.le_of_ble_eq_true rfl) (k_X2_settle (by omega) H7 _ e_H8 ?_)
      show V (D + 1) RX3 mdX3_fittingCoins 93 [.ref 49, .null, .int x2, .int x3, .int x4, .int x5, .int x6] [] H8 post
      refine st_aload_n dX3_fittingCoins_93 rfl rfl ?_
      obtain ⟨v9, e_v9, h⟩ := bnd h
      refine st_callV [] dX3_fittingCoins_94 co_X3_isAsExpected im_X3_isAsExpected se_X3_isAsExpected ml_RX3_107 rfl (by decide) rfl (rfl : classes[3]? = some (RX3, TX3, 5)) rfl (S := []) rfl (Nat.le_of_ble_eq_true rfl) (k_X3_isAsExpected (by omega) H8 _ e_v9 ?_)
      show V (D + 1) RX3 mdX3_fittingCoins 97 [.ref 49, .null, .int x2, .int x3, .int x4, .int x5, .int x6] [.int v9] H8 post
      refine st_if_eq dX3_fittingCoins_97 110 (by decide) (fun c11 => ?_) (fun c11 => ?_)
      · replace h := (if_pos c11).symm.trans h
        refine st_iinc dX3_fittingCoins_110 rfl (v := (x6 + 1)) rfl (by decide) [.ref 49, .null, .int x2, .int x3, .int x4, .int x5, .int (x6 + 1)] rfl ?_
        refine st_goto dX3_fittingCoins_113 67 (by decide) ?_
        exact ih x3 (x6 + 1) H8 q h k1 k2
      · replace h := (if_neg c11).symm.trans h
        refine st_iload_n dX3_fittingCoins_100 rfl rfl ?_
        refine st_if_eq dX3_fittingCoins_101 107 (by decide) (fun c12 => ?_) (fun c12 => ?_)
        · replace h := (if_pos c12).symm.trans h
          refine st_iinc dX3_fittingCoins_107 rfl (v := (x3 + 1)) rfl (by decide) [.ref 49, .null, .int x2, .int (x3 + 1), .int x4, .int x5, .int x6] rfl ?_
          refine st_iinc dX3_fittingCoins_110 rfl (v := (x6 + 1)) rfl (by decide) [.ref 49, .null, .int x2, .int (x3 + 1), .int x4, .int x5, .int (x6 + 1)] rfl ?_
          refine st_goto dX3_fittingCoins_113 67 (by decide) ?_
          exact ih (x3 + 1) (x6 + 1) H8 q h k1 k2
        · replace h := (if_neg c12).symm.trans h
          refine st_iload dX3_fittingCoins_104 rfl ?_
          have hp := k2 _ (Option.some.inj h).symm
          exact st_iret dX3_fittingCoins_106 rfl hp
set_option maxHeartbeats 4000000 in
set_option maxRecDepth 100000 in
theorem k_X3_fittingCoins {D : Nat} (hD : 5 ≤ D) (x1 : Int32) (x2 : Int32) (H : Hp) (q : Int32 × Hp) (h : f_X3_fittingCoins x1 x2 H = some q) {post : Option Value → Hp → Prop} (hp : post (some (.int q.1)) q.2) : Sem D mdX3_fittingCoins [.ref 49, .int x1, .int x2] H post := by
  obtain ⟨D, rfl⟩ : ∃ E, D = E + 1 := ⟨D - 1, by omega⟩
  refine sem_of (own := RX3) rfl pn_RX3 (Nat.le_of_ble_eq_true rfl) [.ref 49, .int x1, .int x2, .null, .null, .null, .null] ⟨Or.inr rfl, Or.inr rfl, Or.inr rfl, rfl, rfl, rfl, rfl, trivial⟩ ?_
  unfold f_X3_fittingCoins at h
  refine st_iconst dX3_fittingCoins_0 (v := 0) rfl ?_
  refine st_istore_n dX3_fittingCoins_1 rfl (by decide) [.ref 49, .int x1, .int x2, .int 0, .null, .null, .null] rfl ?_
  refine st_aload_n dX3_fittingCoins_2 rfl rfl ?_
  refine gR3 dX3_fittingCoins_3 (by decide) rfl 0 (by decide) fl_RX3_25 rfl 7 rfl ?_
  refine gR4 dX3_fittingCoins_6 (by decide) rfl 6 (by decide) fl_RX3_38 rfl 9 rfl ?_
  refine st_aload_n dX3_fittingCoins_9 rfl rfl ?_
  refine gR3 dX3_fittingCoins_10 (by decide) rfl 0 (by decide) fl_RX3_25 rfl 7 rfl ?_
  refine gR4 dX3_fittingCoins_13 (by decide) rfl 7 (by decide) fl_RX3_114 rfl 10 rfl ?_
  refine st_iload_n dX3_fittingCoins_16 rfl rfl ?_
  obtain ⟨v1, e_v1, h⟩ := bnd h
  refine st_iald dX3_fittingCoins_17 (by decide) rfl v1 e_v1 ?_
  obtain ⟨v2, e_v2, h⟩ := bnd h
  refine st_iald dX3_fittingCoins_18 (by decide) rfl v2 e_v2 ?_
  refine st_istore dX3_fittingCoins_19 (by decide) [.ref 49, .int x1, .int x2, .int 0, .int v2, .null, .null] rfl ?_
  refine st_aload_n dX3_fittingCoins_21 rfl rfl ?_
  refine gR3 dX3_fittingCoins_22 (by decide) rfl 0 (by decide) fl_RX3_25 rfl 7 rfl ?_
  refine gR4 dX3_fittingCoins_25 (by decide) rfl 8 (by decide) fl_RX3_117 rfl 11 rfl ?_
  refine st_iload_n dX3_fittingCoins_28 rfl rfl ?_
  obtain ⟨v3, e_v3, h⟩ := bnd h
  refine st_iald dX3_fittingCoins_29 (by decide) rfl v3 e_v3 ?_
  refine st_istore dX3_fittingCoins_30 (by decide) [.ref 49, .int x1, .int x2, .int 0, .int v2, .int v3, .null] rfl ?_
  refine st_aload_n dX3_fittingCoins_32 rfl rfl ?_
  refine gR3 dX3_fittingCoins_33 (by decide) rfl 1 (by decide) fl_RX3_28 rfl 38 rfl ?_
  refine st_aload_n dX3_fittingCoins_36 rfl rfl ?_
  refine gR3 dX3_fittingCoins_37 (by decide) rfl 0 (by decide) fl_RX3_25 rfl 7 rfl ?_
  obtain ⟨H4, e_H4, h⟩ := bnd h
  refine st_callV [.ref 7] dX3_fittingCoins_40 co_X2_load im_X2_load se_X2_load ml_RX3_32 rfl (by decide) rfl (rfl : classes[2]? = some (RX2, TX2, 15)) rfl (S := []) rfl (Nat.le_of_ble_eq_true rfl) (k_X2_load (by omega) H _ e_H4 ?_)
  show V (D + 1) RX3 mdX3_fittingCoins 43 [.ref 49, .int x1, .int x2, .int 0, .int v2, .int v3, .null] [] H4 post
  refine st_aload_n dX3_fittingCoins_43 rfl rfl ?_
  refine gR3 dX3_fittingCoins_44 (by decide) rfl 1 (by decide) fl_RX3_28 rfl 38 rfl ?_
  refine st_iload dX3_fittingCoins_47 rfl ?_
  refine st_iload dX3_fittingCoins_49 rfl ?_
  refine st_aload_n dX3_fittingCoins_51 rfl rfl ?_
  refine gR3 dX3_fittingCoins_52 (by decide) rfl 0 (by decide) fl_RX3_25 rfl 7 rfl ?_
  refine gR4 dX3_fittingCoins_55 (by decide) rfl 9 (by decide) fl_RX3_120 rfl 12 rfl ?_
  refine st_iload_n dX3_fittingCoins_58 rfl rfl ?_
  obtain ⟨v5, e_v5, h⟩ := bnd h
  refine st_iald dX3_fittingCoins_59 (by decide) rfl v5 e_v5 ?_
  refine st_ineg dX3_fittingCoins_60 ?_
  obtain ⟨H6, e_H6, h⟩ := bnd h
  refine st_callV [.int v2, .int v3, .int (-v5)] dX3_fittingCoins_61 co_X2_add im_X2_add se_X2_add ml_RX3_41 rfl (by decide) rfl (rfl : classes[2]? = some (RX2, TX2, 15)) rfl (S := []) rfl (Nat.le_of_ble_eq_true rfl) (k_X2_add (by omega) v2 v3 (-v5) H4 _ e_H6 ?_)
  show V (D + 1) RX3 mdX3_fittingCoins 64 [.ref 49, .int x1, .int x2, .int 0, .int v2, .int v3, .null] [] H6 post
  refine st_iconst dX3_fittingCoins_64 (v := 1) rfl ?_
  refine st_istore dX3_fittingCoins_65 (by decide) [.ref 49, .int x1, .int x2, .int 0, .int v2, .int v3, .int 1] rfl ?_
  refine st_sub [.ref 49, .null, .int x2, .int 0, .int v2, .int v3, .int 1] ⟨Or.inr rfl, Or.inl rfl, Or.inr rfl, Or.inr rfl, Or.inr rfl, Or.inr rfl, Or.inr rfl, trivial⟩ ?_
  obtain ⟨l13, e_l13, h⟩ := bnd h
  refine k_X3_fittingCoins_l67 (by omega) x2 v2 v3 fuel 0 1 H6 _ e_l13 (fun t14 z => ?_) (fun r z => ?_)
  · subst z
    rw [Sum.elim_inl] at h
    refine st_iload_n dX3_fittingCoins_116 rfl rfl ?_
    have kj16 : ∀ z15 : Int32, z15 = (if x2 = 0 then t14.1 else (-1000000)) → V (D + 1) RX3 mdX3_fittingCoins 126 [.null, .null, .null, .null, .null, .null, .null] [.int z15] t14.2 post := by
      intro z15 ez15
      subst ez15
      obtain rfl := Option.some.inj h
      exact st_iret dX3_fittingCoins_126 rfl hp
    refine st_if_eq dX3_fittingCoins_117 125 (by decide) (fun c17 => ?_) (fun c17 => ?_)
    · refine st_iload_n dX3_fittingCoins_125 rfl rfl ?_
      exact st_sub [.null, .null, .null, .null, .null, .null, .null] ⟨Or.inl rfl, Or.inl rfl, Or.inl rfl, Or.inl rfl, Or.inl rfl, Or.inl rfl, Or.inl rfl, trivial⟩ (kj16 _ (Eq.symm (if_pos c17)))
    · refine st_ldc dX3_fittingCoins_120 cn_RX3_65 ?_
      refine st_goto dX3_fittingCoins_122 126 (by decide) ?_
      exact st_sub [.null, .null, .null, .null, .null, .null, .null] ⟨Or.inl rfl, Or.inl rfl, Or.inl rfl, Or.inl rfl, Or.inl rfl, Or.inl rfl, Or.inl rfl, trivial⟩ (kj16 _ (Eq.symm (if_neg c17)))
  · subst z
    rw [Sum.elim_inr] at h
    obtain rfl := Option.some.inj h
    exact hp
def f_X7_who (x1 : Int32) (x2 : Int32) (x3 : Int32) (x4 : Int32) (H : Hp) : Option (Int32 × Hp) :=
  if (H 7 0) = 0 then
    some ((-1000002), H)
  else
    (f_X7_within x2 0 4).bind fun v1 =>
    if v1 = 0 then
      some ((-1000001), H)
    else
      (f_X5_isRow x3).bind fun v2 =>
      if v2 = 0 then
        some ((-1000001), H)
      else
        if x2 = 2 then
          (f_X7_isProject x1 H).bind fun v3 =>
          if v3 = 0 then
            some ((-1000001), H)
          else
            if x2 ≤ 2 then
              (f_X5_isMissing x3 H).bind fun v4 =>
              if v4 = 0 then
                (f_X5_hasPlaces x3 x4 (H 7 3) H).bind fun v5 =>
                if v5 = 0 then
                  (f_X7_found 2 H).bind fun q6 =>
                  some (q6.1, q6.2)
                else
                  (f_X3_expect x3 x4 H).bind fun H7 =>
                  if x2 = 0 then
                    (f_X3_fittingPots ((if x2 = 1 then 1 else 0) : Int32) H7).bind fun q8 =>
                    (f_X7_unmarred q8.1 q8.2).bind fun q9 =>
                    some (q9.1, q9.2)
                  else
                  if x2 = 1 then
                    (f_X3_fittingPots ((if x2 = 1 then 1 else 0) : Int32) H7).bind fun q10 =>
                    (f_X7_unmarred q10.1 q10.2).bind fun q11 =>
                    some (q11.1, q11.2)
                  else
                  if x2 = 2 then
                    (f_X3_fittingKinds x1 H7).bind fun q12 =>
                    (f_X7_unmarred q12.1 q12.2).bind fun q13 =>
                    some (q13.1, q13.2)
                  else
                    (f_X3_fittingCoins x1 ((if x2 = 4 then 1 else 0) : Int32) H7).bind fun q14 =>
                    (f_X7_unmarred q14.1 q14.2).bind fun q15 =>
                    some (q15.1, q15.2)
              else
                (f_X7_found 1 H).bind fun q16 =>
                some (q16.1, q16.2)
            else
              (f_X7_isGift x1 H).bind fun v17 =>
              if v17 = 0 then
                some ((-1000001), H)
              else
                (f_X5_isMissing x3 H).bind fun v18 =>
                if v18 = 0 then
                  (f_X5_hasPlaces x3 x4 (H 7 3) H).bind fun v19 =>
                  if v19 = 0 then
                    (f_X7_found 2 H).bind fun q20 =>
                    some (q20.1, q20.2)
                  else
                    (f_X3_expect x3 x4 H).bind fun H21 =>
                    if x2 = 0 then
                      (f_X3_fittingPots ((if x2 = 1 then 1 else 0) : Int32) H21).bind fun q22 =>
                      (f_X7_unmarred q22.1 q22.2).bind fun q23 =>
                      some (q23.1, q23.2)
                    else
                    if x2 = 1 then
                      (f_X3_fittingPots ((if x2 = 1 then 1 else 0) : Int32) H21).bind fun q24 =>
                      (f_X7_unmarred q24.1 q24.2).bind fun q25 =>
                      some (q25.1, q25.2)
                    else
                    if x2 = 2 then
                      (f_X3_fittingKinds x1 H21).bind fun q26 =>
                      (f_X7_unmarred q26.1 q26.2).bind fun q27 =>
                      some (q27.1, q27.2)
                    else
                      (f_X3_fittingCoins x1 ((if x2 = 4 then 1 else 0) : Int32) H21).bind fun q28 =>
                      (f_X7_unmarred q28.1 q28.2).bind fun q29 =>
                      some (q29.1, q29.2)
                else
                  (f_X7_found 1 H).bind fun q30 =>
                  some (q30.1, q30.2)
        else
          if x2 ≤ 2 then
            (f_X5_isMissing x3 H).bind fun v31 =>
            if v31 = 0 then
              (f_X5_hasPlaces x3 x4 (H 7 3) H).bind fun v32 =>
              if v32 = 0 then
                (f_X7_found 2 H).bind fun q33 =>
                some (q33.1, q33.2)
              else
                (f_X3_expect x3 x4 H).bind fun H34 =>
                if x2 = 0 then
                  (f_X3_fittingPots ((if x2 = 1 then 1 else 0) : Int32) H34).bind fun q35 =>
                  (f_X7_unmarred q35.1 q35.2).bind fun q36 =>
                  some (q36.1, q36.2)
                else
                if x2 = 1 then
                  (f_X3_fittingPots ((if x2 = 1 then 1 else 0) : Int32) H34).bind fun q37 =>
                  (f_X7_unmarred q37.1 q37.2).bind fun q38 =>
                  some (q38.1, q38.2)
                else
                if x2 = 2 then
                  (f_X3_fittingKinds x1 H34).bind fun q39 =>
                  (f_X7_unmarred q39.1 q39.2).bind fun q40 =>
                  some (q40.1, q40.2)
                else
                  (f_X3_fittingCoins x1 ((if x2 = 4 then 1 else 0) : Int32) H34).bind fun q41 =>
                  (f_X7_unmarred q41.1 q41.2).bind fun q42 =>
                  some (q42.1, q42.2)
            else
              (f_X7_found 1 H).bind fun q43 =>
              some (q43.1, q43.2)
          else
            (f_X7_isGift x1 H).bind fun v44 =>
            if v44 = 0 then
              some ((-1000001), H)
            else
              (f_X5_isMissing x3 H).bind fun v45 =>
              if v45 = 0 then
                (f_X5_hasPlaces x3 x4 (H 7 3) H).bind fun v46 =>
                if v46 = 0 then
                  (f_X7_found 2 H).bind fun q47 =>
                  some (q47.1, q47.2)
                else
                  (f_X3_expect x3 x4 H).bind fun H48 =>
                  if x2 = 0 then
                    (f_X3_fittingPots ((if x2 = 1 then 1 else 0) : Int32) H48).bind fun q49 =>
                    (f_X7_unmarred q49.1 q49.2).bind fun q50 =>
                    some (q50.1, q50.2)
                  else
                  if x2 = 1 then
                    (f_X3_fittingPots ((if x2 = 1 then 1 else 0) : Int32) H48).bind fun q51 =>
                    (f_X7_unmarred q51.1 q51.2).bind fun q52 =>
                    some (q52.1, q52.2)
                  else
                  if x2 = 2 then
                    (f_X3_fittingKinds x1 H48).bind fun q53 =>
                    (f_X7_unmarred q53.1 q53.2).bind fun q54 =>
                    some (q54.1, q54.2)
                  else
                    (f_X3_fittingCoins x1 ((if x2 = 4 then 1 else 0) : Int32) H48).bind fun q55 =>
                    (f_X7_unmarred q55.1 q55.2).bind fun q56 =>
                    some (q56.1, q56.2)
              else
                (f_X7_found 1 H).bind fun q57 =>
                some (q57.1, q57.2)
set_option maxHeartbeats 4000000 in
set_option maxRecDepth 100000 in
theorem k_X7_who {D : Nat} (hD : 6 ≤ D) (x1 : Int32) (x2 : Int32) (x3 : Int32) (x4 : Int32) (H : Hp) (q : Int32 × Hp) (h : f_X7_who x1 x2 x3 x4 H = some q) {post : Option Value → Hp → Prop} (hp : post (some (.int q.1)) q.2) : Sem D mdX7_who [.ref 0, .int x1, .int x2, .int x3, .int x4] H post := by
  obtain ⟨D, rfl⟩ : ∃ E, D = E + 1 := ⟨D - 1, by omega⟩
  refine sem_of (own := RX7) rfl pn_RX7 (Nat.le_of_ble_eq_true rfl) [.ref 0, .int x1, .int x2, .int x3, .int x4] ⟨Or.inr rfl, Or.inr rfl, Or.inr rfl, Or.inr rfl, Or.inr rfl, trivial⟩ ?_
  unfold f_X7_who at h
  refine st_aload_n dX7_who_0 rfl rfl ?_
  refine gR7 dX7_who_1 (by decide) rfl 2 (by decide) fl_RX7_26 rfl 7 rfl ?_
  refine gI4 dX7_who_4 (by decide) rfl 0 (by decide) fl_RX7_181 rfl rfl ?_
  refine st_if_ne dX7_who_7 13 (by decide) (fun c58 => ?_) (fun c58 => ?_)
  · replace h := (if_neg c58).symm.trans h
    refine st_iload_n dX7_who_13 rfl rfl ?_
    refine st_iconst dX7_who_14 (v := 0) rfl ?_
    refine st_iconst dX7_who_15 (v := 4) rfl ?_
    obtain ⟨v1, e_v1, h⟩ := bnd h
    refine st_callS [.int x2, .int 0, .int 4] dX7_who_16 co_X7_within sm_X7_within ml_RX7_73 rfl (S := []) rfl (Nat.le_of_ble_eq_true rfl) (k_X7_within (by omega) x2 0 4 H _ e_v1 ?_)
    show V (D + 1) RX7 mdX7_who 19 [.ref 0, .int x1, .int x2, .int x3, .int x4] [.int v1] H post
    refine st_if_eq dX7_who_19 29 (by decide) (fun c59 => ?_) (fun c59 => ?_)
    · replace h := (if_pos c59).symm.trans h
      refine st_ldc dX7_who_29 cn_RX7_77 ?_
      obtain rfl := Option.some.inj h
      exact st_iret dX7_who_31 rfl hp
    · replace h := (if_neg c59).symm.trans h
      refine st_iload_n dX7_who_22 rfl rfl ?_
      obtain ⟨v2, e_v2, h⟩ := bnd h
      refine st_callS [.int x3] dX7_who_23 co_X5_isRow sm_X5_isRow ml_RX7_69 rfl (S := []) rfl (Nat.le_of_ble_eq_true rfl) (k_X5_isRow (by omega) x3 H _ e_v2 ?_)
      show V (D + 1) RX7 mdX7_who 26 [.ref 0, .int x1, .int x2, .int x3, .int x4] [.int v2] H post
      refine st_if_ne dX7_who_26 32 (by decide) (fun c60 => ?_) (fun c60 => ?_)
      · replace h := (if_neg c60).symm.trans h
        refine st_iload_n dX7_who_32 rfl rfl ?_
        refine st_iconst dX7_who_33 (v := 2) rfl ?_
        refine st_ic_ne dX7_who_34 45 (by decide) (fun c61 => ?_) (fun c61 => ?_)
        · replace h := (if_neg c61).symm.trans h
          refine st_iload_n dX7_who_45 rfl rfl ?_
          refine st_iconst dX7_who_46 (v := 2) rfl ?_
          refine st_ic_le dX7_who_47 61 (by decide) (fun c93 => ?_) (fun c93 => ?_)
          · replace h := (if_pos c93).symm.trans h
            refine st_aload_n dX7_who_61 rfl rfl ?_
            refine gR7 dX7_who_62 (by decide) rfl 0 (by decide) fl_RX7_10 rfl 1 rfl ?_
            refine st_iload_n dX7_who_65 rfl rfl ?_
            obtain ⟨v31, e_v31, h⟩ := bnd h
            refine st_callV [.int x3] dX7_who_66 co_X5_isMissing im_X5_isMissing se_X5_isMissing ml_RX7_89 rfl (by decide) rfl (rfl : classes[5]? = some (RX5, TX5, 3)) rfl (S := []) rfl (Nat.le_of_ble_eq_true rfl) (k_X5_isMissing (by omega) x3 H _ e_v31 ?_)
            show V (D + 1) RX7 mdX7_who 69 [.ref 0, .int x1, .int x2, .int x3, .int x4] [.int v31] H post
            refine st_if_eq dX7_who_69 78 (by decide) (fun c94 => ?_) (fun c94 => ?_)
            · replace h := (if_pos c94).symm.trans h
              refine st_aload_n dX7_who_78 rfl rfl ?_
              refine gR7 dX7_who_79 (by decide) rfl 0 (by decide) fl_RX7_10 rfl 1 rfl ?_
              refine st_iload_n dX7_who_82 rfl rfl ?_
              refine st_iload dX7_who_83 rfl ?_
              refine st_aload_n dX7_who_85 rfl rfl ?_
              refine gR7 dX7_who_86 (by decide) rfl 2 (by decide) fl_RX7_26 rfl 7 rfl ?_
              refine gI4 dX7_who_89 (by decide) rfl 3 (by decide) fl_RX7_139 rfl rfl ?_
              obtain ⟨v32, e_v32, h⟩ := bnd h
              refine st_callV [.int x3, .int x4, .int (H 7 3)] dX7_who_92 co_X5_hasPlaces im_X5_hasPlaces se_X5_hasPlaces ml_RX7_92 rfl (by decide) rfl (rfl : classes[5]? = some (RX5, TX5, 3)) rfl (S := []) rfl (Nat.le_of_ble_eq_true rfl) (k_X5_hasPlaces (by omega) x3 x4 (H 7 3) H _ e_v32 ?_)
              show V (D + 1) RX7 mdX7_who 95 [.ref 0, .int x1, .int x2, .int x3, .int x4] [.int v32] H post
              refine st_if_ne dX7_who_95 104 (by decide) (fun c95 => ?_) (fun c95 => ?_)
              · replace h := (if_neg c95).symm.trans h
                refine st_aload_n dX7_who_104 rfl rfl ?_
                refine gR7 dX7_who_105 (by decide) rfl 7 (by decide) fl_RX7_56 rfl 49 rfl ?_
                refine st_aload_n dX7_who_108 rfl rfl ?_
                refine gR7 dX7_who_109 (by decide) rfl 0 (by decide) fl_RX7_10 rfl 1 rfl ?_
                refine st_iload_n dX7_who_112 rfl rfl ?_
                refine st_iload dX7_who_113 rfl ?_
                obtain ⟨H34, e_H34, h⟩ := bnd h
                refine st_callV [.ref 1, .int x3, .int x4] dX7_who_115 co_X3_expect im_X3_expect se_X3_expect ml_RX7_271 rfl (by decide) rfl (rfl : classes[3]? = some (RX3, TX3, 5)) rfl (S := []) rfl (Nat.le_of_ble_eq_true rfl) (k_X3_expect (by omega) x3 x4 H _ e_H34 ?_)
                show V (D + 1) RX7 mdX7_who 118 [.ref 0, .int x1, .int x2, .int x3, .int x4] [] H34 post
                refine st_iload_n dX7_who_118 rfl rfl ?_
                by_cases s96 : x2 = 0
                · replace h := (if_pos s96).symm.trans h
                  refine st_tabIn dX7_who_119 (by rw [s96]; decide) (by rw [s96]; decide) (by rw [s96] <;> rfl) 144 (by decide) ?_
                  refine st_aload_n dX7_who_144 rfl rfl ?_
                  refine st_aload_n dX7_who_145 rfl rfl ?_
                  refine gR7 dX7_who_146 (by decide) rfl 7 (by decide) fl_RX7_56 rfl 49 rfl ?_
                  refine st_iload_n dX7_who_149 rfl rfl ?_
                  refine st_iconst dX7_who_150 (v := 1) rfl ?_
                  have kj98 : ∀ z97 : Int32, z97 = ((if x2 = 1 then 1 else 0) : Int32) → V (D + 1) RX7 mdX7_who 159 [.null, .null, .null, .null, .null] [.int z97, .ref 49, .ref 0] H34 post := by
                    intro z97 ez97
                    subst ez97
                    obtain ⟨q35, e_q35, h⟩ := bnd h
                    refine st_callV [.int ((if x2 = 1 then 1 else 0) : Int32)] dX7_who_159 co_X3_fittingPots im_X3_fittingPots se_X3_fittingPots ml_RX7_275 rfl (by decide) rfl (rfl : classes[3]? = some (RX3, TX3, 5)) rfl (S := [.ref 0]) rfl (Nat.le_of_ble_eq_true rfl) (k_X3_fittingPots (by omega) ((if x2 = 1 then 1 else 0) : Int32) H34 _ e_q35 ?_)
                    show V (D + 1) RX7 mdX7_who 162 [.null, .null, .null, .null, .null] [.int q35.1, .ref 0] q35.2 post
                    obtain ⟨q36, e_q36, h⟩ := bnd h
                    refine st_callV [.int q35.1] dX7_who_162 co_X7_unmarred im_X7_unmarred se_X7_unmarred ml_RX7_86 rfl (by decide) rfl (rfl : classes[7]? = some (RX7, TX7, 11)) rfl (S := []) rfl (Nat.le_of_ble_eq_true rfl) (k_X7_unmarred (by omega) q35.1 q35.2 _ e_q36 ?_)
                    show V (D + 1) RX7 mdX7_who 165 [.null, .null, .null, .null, .null] [.int q36.1] q36.2 post
                    obtain rfl := Option.some.inj h
                    exact st_iret dX7_who_165 rfl hp
                  refine st_ic_ne dX7_who_151 158 (by decide) (fun c99 => ?_) (fun c99 => ?_)
                  · refine st_iconst dX7_who_158 (v := 0) rfl ?_
                    exact st_sub [.null, .null, .null, .null, .null] ⟨Or.inl rfl, Or.inl rfl, Or.inl rfl, Or.inl rfl, Or.inl rfl, trivial⟩ (kj98 _ (Eq.symm (if_neg c99)))
                  · refine st_iconst dX7_who_154 (v := 1) rfl ?_
                    refine st_goto dX7_who_155 159 (by decide) ?_
                    exact st_sub [.null, .null, .null, .null, .null] ⟨Or.inl rfl, Or.inl rfl, Or.inl rfl, Or.inl rfl, Or.inl rfl, trivial⟩ (kj98 _ (Eq.symm (if_pos c99)))
                · replace h := (if_neg s96).symm.trans h
                  by_cases s100 : x2 = 1
                  · replace h := (if_pos s100).symm.trans h
                    refine st_tabIn dX7_who_119 (by rw [s100]; decide) (by rw [s100]; decide) (by rw [s100] <;> rfl) 144 (by decide) ?_
                    refine st_aload_n dX7_who_144 rfl rfl ?_
                    refine st_aload_n dX7_who_145 rfl rfl ?_
                    refine gR7 dX7_who_146 (by decide) rfl 7 (by decide) fl_RX7_56 rfl 49 rfl ?_
                    refine st_iload_n dX7_who_149 rfl rfl ?_
                    refine st_iconst dX7_who_150 (v := 1) rfl ?_
                    have kj102 : ∀ z101 : Int32, z101 = ((if x2 = 1 then 1 else 0) : Int32) → V (D + 1) RX7 mdX7_who 159 [.null, .null, .null, .null, .null] [.int z101, .ref 49, .ref 0] H34 post := by
                      intro z101 ez101
                      subst ez101
                      obtain ⟨q37, e_q37, h⟩ := bnd h
                      refine st_callV [.int ((if x2 = 1 then 1 else 0) : Int32)] dX7_who_159 co_X3_fittingPots im_X3_fittingPots se_X3_fittingPots ml_RX7_275 rfl (by decide) rfl (rfl : classes[3]? = some (RX3, TX3, 5)) rfl (S := [.ref 0]) rfl (Nat.le_of_ble_eq_true rfl) (k_X3_fittingPots (by omega) ((if x2 = 1 then 1 else 0) : Int32) H34 _ e_q37 ?_)
                      show V (D + 1) RX7 mdX7_who 162 [.null, .null, .null, .null, .null] [.int q37.1, .ref 0] q37.2 post
                      obtain ⟨q38, e_q38, h⟩ := bnd h
                      refine st_callV [.int q37.1] dX7_who_162 co_X7_unmarred im_X7_unmarred se_X7_unmarred ml_RX7_86 rfl (by decide) rfl (rfl : classes[7]? = some (RX7, TX7, 11)) rfl (S := []) rfl (Nat.le_of_ble_eq_true rfl) (k_X7_unmarred (by omega) q37.1 q37.2 _ e_q38 ?_)
                      show V (D + 1) RX7 mdX7_who 165 [.null, .null, .null, .null, .null] [.int q38.1] q38.2 post
                      obtain rfl := Option.some.inj h
                      exact st_iret dX7_who_165 rfl hp
                    refine st_ic_ne dX7_who_151 158 (by decide) (fun c103 => ?_) (fun c103 => ?_)
                    · refine st_iconst dX7_who_158 (v := 0) rfl ?_
                      exact st_sub [.null, .null, .null, .null, .null] ⟨Or.inl rfl, Or.inl rfl, Or.inl rfl, Or.inl rfl, Or.inl rfl, trivial⟩ (kj102 _ (Eq.symm (if_neg c103)))
                    · refine st_iconst dX7_who_154 (v := 1) rfl ?_
                      refine st_goto dX7_who_155 159 (by decide) ?_
                      exact st_sub [.null, .null, .null, .null, .null] ⟨Or.inl rfl, Or.inl rfl, Or.inl rfl, Or.inl rfl, Or.inl rfl, trivial⟩ (kj102 _ (Eq.symm (if_pos c103)))
                  · replace h := (if_neg s100).symm.trans h
                    by_cases s104 : x2 = 2
                    · replace h := (if_pos s104).symm.trans h
                      refine st_tabIn dX7_who_119 (by rw [s104]; decide) (by rw [s104]; decide) (by rw [s104] <;> rfl) 166 (by decide) ?_
                      refine st_aload_n dX7_who_166 rfl rfl ?_
                      refine st_aload_n dX7_who_167 rfl rfl ?_
                      refine gR7 dX7_who_168 (by decide) rfl 7 (by decide) fl_RX7_56 rfl 49 rfl ?_
                      refine st_iload_n dX7_who_171 rfl rfl ?_
                      obtain ⟨q39, e_q39, h⟩ := bnd h
                      refine st_callV [.int x1] dX7_who_172 co_X3_fittingKinds im_X3_fittingKinds se_X3_fittingKinds ml_RX7_279 rfl (by decide) rfl (rfl : classes[3]? = some (RX3, TX3, 5)) rfl (S := [.ref 0]) rfl (Nat.le_of_ble_eq_true rfl) (k_X3_fittingKinds (by omega) x1 H34 _ e_q39 ?_)
                      show V (D + 1) RX7 mdX7_who 175 [.ref 0, .int x1, .int x2, .int x3, .int x4] [.int q39.1, .ref 0] q39.2 post
                      obtain ⟨q40, e_q40, h⟩ := bnd h
                      refine st_callV [.int q39.1] dX7_who_175 co_X7_unmarred im_X7_unmarred se_X7_unmarred ml_RX7_86 rfl (by decide) rfl (rfl : classes[7]? = some (RX7, TX7, 11)) rfl (S := []) rfl (Nat.le_of_ble_eq_true rfl) (k_X7_unmarred (by omega) q39.1 q39.2 _ e_q40 ?_)
                      show V (D + 1) RX7 mdX7_who 178 [.ref 0, .int x1, .int x2, .int x3, .int x4] [.int q40.1] q40.2 post
                      obtain rfl := Option.some.inj h
                      exact st_iret dX7_who_178 rfl hp
                    · replace h := (if_neg s104).symm.trans h
                      have ts96 := lv_neT s96 (a := 0) (by decide)
                      have ts100 := lv_neT s100 (a := 1) (by decide)
                      have ts104 := lv_neT s104 (a := 2) (by decide)
                      refine st_tabOut dX7_who_119 (by omega) 179 (by decide) ?_
                      refine st_aload_n dX7_who_179 rfl rfl ?_
                      refine st_aload_n dX7_who_180 rfl rfl ?_
                      refine gR7 dX7_who_181 (by decide) rfl 7 (by decide) fl_RX7_56 rfl 49 rfl ?_
                      refine st_iload_n dX7_who_184 rfl rfl ?_
                      refine st_iload_n dX7_who_185 rfl rfl ?_
                      refine st_iconst dX7_who_186 (v := 4) rfl ?_
                      have kj106 : ∀ z105 : Int32, z105 = ((if x2 = 4 then 1 else 0) : Int32) → V (D + 1) RX7 mdX7_who 195 [.null, .null, .null, .null, .null] [.int z105, .int x1, .ref 49, .ref 0] H34 post := by
                        intro z105 ez105
                        subst ez105
                        obtain ⟨q41, e_q41, h⟩ := bnd h
                        refine st_callV [.int x1, .int ((if x2 = 4 then 1 else 0) : Int32)] dX7_who_195 co_X3_fittingCoins im_X3_fittingCoins se_X3_fittingCoins ml_RX7_282 rfl (by decide) rfl (rfl : classes[3]? = some (RX3, TX3, 5)) rfl (S := [.ref 0]) rfl (Nat.le_of_ble_eq_true rfl) (k_X3_fittingCoins (by omega) x1 ((if x2 = 4 then 1 else 0) : Int32) H34 _ e_q41 ?_)
                        show V (D + 1) RX7 mdX7_who 198 [.null, .null, .null, .null, .null] [.int q41.1, .ref 0] q41.2 post
                        obtain ⟨q42, e_q42, h⟩ := bnd h
                        refine st_callV [.int q41.1] dX7_who_198 co_X7_unmarred im_X7_unmarred se_X7_unmarred ml_RX7_86 rfl (by decide) rfl (rfl : classes[7]? = some (RX7, TX7, 11)) rfl (S := []) rfl (Nat.le_of_ble_eq_true rfl) (k_X7_unmarred (by omega) q41.1 q41.2 _ e_q42 ?_)
                        show V (D + 1) RX7 mdX7_who 201 [.null, .null, .null, .null, .null] [.int q42.1] q42.2 post
                        obtain rfl := Option.some.inj h
                        exact st_iret dX7_who_201 rfl hp
                      refine st_ic_ne dX7_who_187 194 (by decide) (fun c107 => ?_) (fun c107 => ?_)
                      · refine st_iconst dX7_who_194 (v := 0) rfl ?_
                        exact st_sub [.null, .null, .null, .null, .null] ⟨Or.inl rfl, Or.inl rfl, Or.inl rfl, Or.inl rfl, Or.inl rfl, trivial⟩ (kj106 _ (Eq.symm (if_neg c107)))
                      · refine st_iconst dX7_who_190 (v := 1) rfl ?_
                        refine st_goto dX7_who_191 195 (by decide) ?_
                        exact st_sub [.null, .null, .null, .null, .null] ⟨Or.inl rfl, Or.inl rfl, Or.inl rfl, Or.inl rfl, Or.inl rfl, trivial⟩ (kj106 _ (Eq.symm (if_pos c107)))
              · replace h := (if_pos c95).symm.trans h
                refine st_aload_n dX7_who_98 rfl rfl ?_
                refine st_iconst dX7_who_99 (v := 2) rfl ?_
                obtain ⟨q33, e_q33, h⟩ := bnd h
                refine st_callV [.int 2] dX7_who_100 co_X7_found im_X7_found se_X7_found ml_RX7_78 rfl (by decide) rfl (rfl : classes[7]? = some (RX7, TX7, 11)) rfl (S := []) rfl (Nat.le_of_ble_eq_true rfl) (k_X7_found (by omega) 2 H _ e_q33 ?_)
                show V (D + 1) RX7 mdX7_who 103 [.ref 0, .int x1, .int x2, .int x3, .int x4] [.int q33.1] q33.2 post
                obtain rfl := Option.some.inj h
                exact st_iret dX7_who_103 rfl hp
            · replace h := (if_neg c94).symm.trans h
              refine st_aload_n dX7_who_72 rfl rfl ?_
              refine st_iconst dX7_who_73 (v := 1) rfl ?_
              obtain ⟨q43, e_q43, h⟩ := bnd h
              refine st_callV [.int 1] dX7_who_74 co_X7_found im_X7_found se_X7_found ml_RX7_78 rfl (by decide) rfl (rfl : classes[7]? = some (RX7, TX7, 11)) rfl (S := []) rfl (Nat.le_of_ble_eq_true rfl) (k_X7_found (by omega) 1 H _ e_q43 ?_)
              show V (D + 1) RX7 mdX7_who 77 [.ref 0, .int x1, .int x2, .int x3, .int x4] [.int q43.1] q43.2 post
              obtain rfl := Option.some.inj h
              exact st_iret dX7_who_77 rfl hp
          · replace h := (if_neg c93).symm.trans h
            refine st_aload_n dX7_who_50 rfl rfl ?_
            refine st_iload_n dX7_who_51 rfl rfl ?_
            obtain ⟨v44, e_v44, h⟩ := bnd h
            refine st_callV [.int x1] dX7_who_52 co_X7_isGift im_X7_isGift se_X7_isGift ml_RX7_165 rfl (by decide) rfl (rfl : classes[7]? = some (RX7, TX7, 11)) rfl (S := []) rfl (Nat.le_of_ble_eq_true rfl) (k_X7_isGift (by omega) x1 H _ e_v44 ?_)
            show V (D + 1) RX7 mdX7_who 55 [.ref 0, .int x1, .int x2, .int x3, .int x4] [.int v44] H post
            refine st_if_ne dX7_who_55 61 (by decide) (fun c108 => ?_) (fun c108 => ?_)
            · replace h := (if_neg c108).symm.trans h
              refine st_aload_n dX7_who_61 rfl rfl ?_
              refine gR7 dX7_who_62 (by decide) rfl 0 (by decide) fl_RX7_10 rfl 1 rfl ?_
              refine st_iload_n dX7_who_65 rfl rfl ?_
              obtain ⟨v45, e_v45, h⟩ := bnd h
              refine st_callV [.int x3] dX7_who_66 co_X5_isMissing im_X5_isMissing se_X5_isMissing ml_RX7_89 rfl (by decide) rfl (rfl : classes[5]? = some (RX5, TX5, 3)) rfl (S := []) rfl (Nat.le_of_ble_eq_true rfl) (k_X5_isMissing (by omega) x3 H _ e_v45 ?_)
              show V (D + 1) RX7 mdX7_who 69 [.ref 0, .int x1, .int x2, .int x3, .int x4] [.int v45] H post
              refine st_if_eq dX7_who_69 78 (by decide) (fun c109 => ?_) (fun c109 => ?_)
              · replace h := (if_pos c109).symm.trans h
                refine st_aload_n dX7_who_78 rfl rfl ?_
                refine gR7 dX7_who_79 (by decide) rfl 0 (by decide) fl_RX7_10 rfl 1 rfl ?_
                refine st_iload_n dX7_who_82 rfl rfl ?_
                refine st_iload dX7_who_83 rfl ?_
                refine st_aload_n dX7_who_85 rfl rfl ?_
                refine gR7 dX7_who_86 (by decide) rfl 2 (by decide) fl_RX7_26 rfl 7 rfl ?_
                refine gI4 dX7_who_89 (by decide) rfl 3 (by decide) fl_RX7_139 rfl rfl ?_
                obtain ⟨v46, e_v46, h⟩ := bnd h
                refine st_callV [.int x3, .int x4, .int (H 7 3)] dX7_who_92 co_X5_hasPlaces im_X5_hasPlaces se_X5_hasPlaces ml_RX7_92 rfl (by decide) rfl (rfl : classes[5]? = some (RX5, TX5, 3)) rfl (S := []) rfl (Nat.le_of_ble_eq_true rfl) (k_X5_hasPlaces (by omega) x3 x4 (H 7 3) H _ e_v46 ?_)
                show V (D + 1) RX7 mdX7_who 95 [.ref 0, .int x1, .int x2, .int x3, .int x4] [.int v46] H post
                refine st_if_ne dX7_who_95 104 (by decide) (fun c110 => ?_) (fun c110 => ?_)
                · replace h := (if_neg c110).symm.trans h
                  refine st_aload_n dX7_who_104 rfl rfl ?_
                  refine gR7 dX7_who_105 (by decide) rfl 7 (by decide) fl_RX7_56 rfl 49 rfl ?_
                  refine st_aload_n dX7_who_108 rfl rfl ?_
                  refine gR7 dX7_who_109 (by decide) rfl 0 (by decide) fl_RX7_10 rfl 1 rfl ?_
                  refine st_iload_n dX7_who_112 rfl rfl ?_
                  refine st_iload dX7_who_113 rfl ?_
                  obtain ⟨H48, e_H48, h⟩ := bnd h
                  refine st_callV [.ref 1, .int x3, .int x4] dX7_who_115 co_X3_expect im_X3_expect se_X3_expect ml_RX7_271 rfl (by decide) rfl (rfl : classes[3]? = some (RX3, TX3, 5)) rfl (S := []) rfl (Nat.le_of_ble_eq_true rfl) (k_X3_expect (by omega) x3 x4 H _ e_H48 ?_)
                  show V (D + 1) RX7 mdX7_who 118 [.ref 0, .int x1, .int x2, .int x3, .int x4] [] H48 post
                  refine st_iload_n dX7_who_118 rfl rfl ?_
                  by_cases s111 : x2 = 0
                  · replace h := (if_pos s111).symm.trans h
                    refine st_tabIn dX7_who_119 (by rw [s111]; decide) (by rw [s111]; decide) (by rw [s111] <;> rfl) 144 (by decide) ?_
                    refine st_aload_n dX7_who_144 rfl rfl ?_
                    refine st_aload_n dX7_who_145 rfl rfl ?_
                    refine gR7 dX7_who_146 (by decide) rfl 7 (by decide) fl_RX7_56 rfl 49 rfl ?_
                    refine st_iload_n dX7_who_149 rfl rfl ?_
                    refine st_iconst dX7_who_150 (v := 1) rfl ?_
                    have kj113 : ∀ z112 : Int32, z112 = ((if x2 = 1 then 1 else 0) : Int32) → V (D + 1) RX7 mdX7_who 159 [.null, .null, .null, .null, .null] [.int z112, .ref 49, .ref 0] H48 post := by
                      intro z112 ez112
                      subst ez112
                      obtain ⟨q49, e_q49, h⟩ := bnd h
                      refine st_callV [.int ((if x2 = 1 then 1 else 0) : Int32)] dX7_who_159 co_X3_fittingPots im_X3_fittingPots se_X3_fittingPots ml_RX7_275 rfl (by decide) rfl (rfl : classes[3]? = some (RX3, TX3, 5)) rfl (S := [.ref 0]) rfl (Nat.le_of_ble_eq_true rfl) (k_X3_fittingPots (by omega) ((if x2 = 1 then 1 else 0) : Int32) H48 _ e_q49 ?_)
                      show V (D + 1) RX7 mdX7_who 162 [.null, .null, .null, .null, .null] [.int q49.1, .ref 0] q49.2 post
                      obtain ⟨q50, e_q50, h⟩ := bnd h
                      refine st_callV [.int q49.1] dX7_who_162 co_X7_unmarred im_X7_unmarred se_X7_unmarred ml_RX7_86 rfl (by decide) rfl (rfl : classes[7]? = some (RX7, TX7, 11)) rfl (S := []) rfl (Nat.le_of_ble_eq_true rfl) (k_X7_unmarred (by omega) q49.1 q49.2 _ e_q50 ?_)
                      show V (D + 1) RX7 mdX7_who 165 [.null, .null, .null, .null, .null] [.int q50.1] q50.2 post
                      obtain rfl := Option.some.inj h
                      exact st_iret dX7_who_165 rfl hp
                    refine st_ic_ne dX7_who_151 158 (by decide) (fun c114 => ?_) (fun c114 => ?_)
                    · refine st_iconst dX7_who_158 (v := 0) rfl ?_
                      exact st_sub [.null, .null, .null, .null, .null] ⟨Or.inl rfl, Or.inl rfl, Or.inl rfl, Or.inl rfl, Or.inl rfl, trivial⟩ (kj113 _ (Eq.symm (if_neg c114)))
                    · refine st_iconst dX7_who_154 (v := 1) rfl ?_
                      refine st_goto dX7_who_155 159 (by decide) ?_
                      exact st_sub [.null, .null, .null, .null, .null] ⟨Or.inl rfl, Or.inl rfl, Or.inl rfl, Or.inl rfl, Or.inl rfl, trivial⟩ (kj113 _ (Eq.symm (if_pos c114)))
                  · replace h := (if_neg s111).symm.trans h
                    by_cases s115 : x2 = 1
                    · replace h := (if_pos s115).symm.trans h
                      refine st_tabIn dX7_who_119 (by rw [s115]; decide) (by rw [s115]; decide) (by rw [s115] <;> rfl) 144 (by decide) ?_
                      refine st_aload_n dX7_who_144 rfl rfl ?_
                      refine st_aload_n dX7_who_145 rfl rfl ?_
                      refine gR7 dX7_who_146 (by decide) rfl 7 (by decide) fl_RX7_56 rfl 49 rfl ?_
                      refine st_iload_n dX7_who_149 rfl rfl ?_
                      refine st_iconst dX7_who_150 (v := 1) rfl ?_
                      have kj117 : ∀ z116 : Int32, z116 = ((if x2 = 1 then 1 else 0) : Int32) → V (D + 1) RX7 mdX7_who 159 [.null, .null, .null, .null, .null] [.int z116, .ref 49, .ref 0] H48 post := by
                        intro z116 ez116
                        subst ez116
                        obtain ⟨q51, e_q51, h⟩ := bnd h
                        refine st_callV [.int ((if x2 = 1 then 1 else 0) : Int32)] dX7_who_159 co_X3_fittingPots im_X3_fittingPots se_X3_fittingPots ml_RX7_275 rfl (by decide) rfl (rfl : classes[3]? = some (RX3, TX3, 5)) rfl (S := [.ref 0]) rfl (Nat.le_of_ble_eq_true rfl) (k_X3_fittingPots (by omega) ((if x2 = 1 then 1 else 0) : Int32) H48 _ e_q51 ?_)
                        show V (D + 1) RX7 mdX7_who 162 [.null, .null, .null, .null, .null] [.int q51.1, .ref 0] q51.2 post
                        obtain ⟨q52, e_q52, h⟩ := bnd h
                        refine st_callV [.int q51.1] dX7_who_162 co_X7_unmarred im_X7_unmarred se_X7_unmarred ml_RX7_86 rfl (by decide) rfl (rfl : classes[7]? = some (RX7, TX7, 11)) rfl (S := []) rfl (Nat.le_of_ble_eq_true rfl) (k_X7_unmarred (by omega) q51.1 q51.2 _ e_q52 ?_)
                        show V (D + 1) RX7 mdX7_who 165 [.null, .null, .null, .null, .null] [.int q52.1] q52.2 post
                        obtain rfl := Option.some.inj h
                        exact st_iret dX7_who_165 rfl hp
                      refine st_ic_ne dX7_who_151 158 (by decide) (fun c118 => ?_) (fun c118 => ?_)
                      · refine st_iconst dX7_who_158 (v := 0) rfl ?_
                        exact st_sub [.null, .null, .null, .null, .null] ⟨Or.inl rfl, Or.inl rfl, Or.inl rfl, Or.inl rfl, Or.inl rfl, trivial⟩ (kj117 _ (Eq.symm (if_neg c118)))
                      · refine st_iconst dX7_who_154 (v := 1) rfl ?_
                        refine st_goto dX7_who_155 159 (by decide) ?_
                        exact st_sub [.null, .null, .null, .null, .null] ⟨Or.inl rfl, Or.inl rfl, Or.inl rfl, Or.inl rfl, Or.inl rfl, trivial⟩ (kj117 _ (Eq.symm (if_pos c118)))
                    · replace h := (if_neg s115).symm.trans h
                      by_cases s119 : x2 = 2
                      · replace h := (if_pos s119).symm.trans h
                        refine st_tabIn dX7_who_119 (by rw [s119]; decide) (by rw [s119]; decide) (by rw [s119] <;> rfl) 166 (by decide) ?_
                        refine st_aload_n dX7_who_166 rfl rfl ?_
                        refine st_aload_n dX7_who_167 rfl rfl ?_
                        refine gR7 dX7_who_168 (by decide) rfl 7 (by decide) fl_RX7_56 rfl 49 rfl ?_
                        refine st_iload_n dX7_who_171 rfl rfl ?_
                        obtain ⟨q53, e_q53, h⟩ := bnd h
                        refine st_callV [.int x1] dX7_who_172 co_X3_fittingKinds im_X3_fittingKinds se_X3_fittingKinds ml_RX7_279 rfl (by decide) rfl (rfl : classes[3]? = some (RX3, TX3, 5)) rfl (S := [.ref 0]) rfl (Nat.le_of_ble_eq_true rfl) (k_X3_fittingKinds (by omega) x1 H48 _ e_q53 ?_)
                        show V (D + 1) RX7 mdX7_who 175 [.ref 0, .int x1, .int x2, .int x3, .int x4] [.int q53.1, .ref 0] q53.2 post
                        obtain ⟨q54, e_q54, h⟩ := bnd h
                        refine st_callV [.int q53.1] dX7_who_175 co_X7_unmarred im_X7_unmarred se_X7_unmarred ml_RX7_86 rfl (by decide) rfl (rfl : classes[7]? = some (RX7, TX7, 11)) rfl (S := []) rfl (Nat.le_of_ble_eq_true rfl) (k_X7_unmarred (by omega) q53.1 q53.2 _ e_q54 ?_)
                        show V (D + 1) RX7 mdX7_who 178 [.ref 0, .int x1, .int x2, .int x3, .int x4] [.int q54.1] q54.2 post
                        obtain rfl := Option.some.inj h
                        exact st_iret dX7_who_178 rfl hp
                      · replace h := (if_neg s119).symm.trans h
                        have ts111 := lv_neT s111 (a := 0) (by decide)
                        have ts115 := lv_neT s115 (a := 1) (by decide)
                        have ts119 := lv_neT s119 (a := 2) (by decide)
                        refine st_tabOut dX7_who_119 (by omega) 179 (by decide) ?_
                        refine st_aload_n dX7_who_179 rfl rfl ?_
                        refine st_aload_n dX7_who_180 rfl rfl ?_
                        refine gR7 dX7_who_181 (by decide) rfl 7 (by decide) fl_RX7_56 rfl 49 rfl ?_
                        refine st_iload_n dX7_who_184 rfl rfl ?_
                        refine st_iload_n dX7_who_185 rfl rfl ?_
                        refine st_iconst dX7_who_186 (v := 4) rfl ?_
                        have kj121 : ∀ z120 : Int32, z120 = ((if x2 = 4 then 1 else 0) : Int32) → V (D + 1) RX7 mdX7_who 195 [.null, .null, .null, .null, .null] [.int z120, .int x1, .ref 49, .ref 0] H48 post := by
                          intro z120 ez120
                          subst ez120
                          obtain ⟨q55, e_q55, h⟩ := bnd h
                          refine st_callV [.int x1, .int ((if x2 = 4 then 1 else 0) : Int32)] dX7_who_195 co_X3_fittingCoins im_X3_fittingCoins se_X3_fittingCoins ml_RX7_282 rfl (by decide) rfl (rfl : classes[3]? = some (RX3, TX3, 5)) rfl (S := [.ref 0]) rfl (Nat.le_of_ble_eq_true rfl) (k_X3_fittingCoins (by omega) x1 ((if x2 = 4 then 1 else 0) : Int32) H48 _ e_q55 ?_)
                          show V (D + 1) RX7 mdX7_who 198 [.null, .null, .null, .null, .null] [.int q55.1, .ref 0] q55.2 post
                          obtain ⟨q56, e_q56, h⟩ := bnd h
                          refine st_callV [.int q55.1] dX7_who_198 co_X7_unmarred im_X7_unmarred se_X7_unmarred ml_RX7_86 rfl (by decide) rfl (rfl : classes[7]? = some (RX7, TX7, 11)) rfl (S := []) rfl (Nat.le_of_ble_eq_true rfl) (k_X7_unmarred (by omega) q55.1 q55.2 _ e_q56 ?_)
                          show V (D + 1) RX7 mdX7_who 201 [.null, .null, .null, .null, .null] [.int q56.1] q56.2 post
                          obtain rfl := Option.some.inj h
                          exact st_iret dX7_who_201 rfl hp
                        refine st_ic_ne dX7_who_187 194 (by decide) (fun c122 => ?_) (fun c122 => ?_)
                        · refine st_iconst dX7_who_194 (v := 0) rfl ?_
                          exact st_sub [.null, .null, .null, .null, .null] ⟨Or.inl rfl, Or.inl rfl, Or.inl rfl, Or.inl rfl, Or.inl rfl, trivial⟩ (kj121 _ (Eq.symm (if_neg c122)))
                        · refine st_iconst dX7_who_190 (v := 1) rfl ?_
                          refine st_goto dX7_who_191 195 (by decide) ?_
                          exact st_sub [.null, .null, .null, .null, .null] ⟨Or.inl rfl, Or.inl rfl, Or.inl rfl, Or.inl rfl, Or.inl rfl, trivial⟩ (kj121 _ (Eq.symm (if_pos c122)))
                · replace h := (if_pos c110).symm.trans h
                  refine st_aload_n dX7_who_98 rfl rfl ?_
                  refine st_iconst dX7_who_99 (v := 2) rfl ?_
                  obtain ⟨q47, e_q47, h⟩ := bnd h
                  refine st_callV [.int 2] dX7_who_100 co_X7_found im_X7_found se_X7_found ml_RX7_78 rfl (by decide) rfl (rfl : classes[7]? = some (RX7, TX7, 11)) rfl (S := []) rfl (Nat.le_of_ble_eq_true rfl) (k_X7_found (by omega) 2 H _ e_q47 ?_)
                  show V (D + 1) RX7 mdX7_who 103 [.ref 0, .int x1, .int x2, .int x3, .int x4] [.int q47.1] q47.2 post
                  obtain rfl := Option.some.inj h
                  exact st_iret dX7_who_103 rfl hp
              · replace h := (if_neg c109).symm.trans h
                refine st_aload_n dX7_who_72 rfl rfl ?_
                refine st_iconst dX7_who_73 (v := 1) rfl ?_
                obtain ⟨q57, e_q57, h⟩ := bnd h
                refine st_callV [.int 1] dX7_who_74 co_X7_found im_X7_found se_X7_found ml_RX7_78 rfl (by decide) rfl (rfl : classes[7]? = some (RX7, TX7, 11)) rfl (S := []) rfl (Nat.le_of_ble_eq_true rfl) (k_X7_found (by omega) 1 H _ e_q57 ?_)
                show V (D + 1) RX7 mdX7_who 77 [.ref 0, .int x1, .int x2, .int x3, .int x4] [.int q57.1] q57.2 post
                obtain rfl := Option.some.inj h
                exact st_iret dX7_who_77 rfl hp
            · replace h := (if_pos c108).symm.trans h
              refine st_ldc dX7_who_58 cn_RX7_77 ?_
              obtain rfl := Option.some.inj h
              exact st_iret dX7_who_60 rfl hp
        · replace h := (if_pos c61).symm.trans h
          refine st_aload_n dX7_who_37 rfl rfl ?_
          refine st_iload_n dX7_who_38 rfl rfl ?_
          obtain ⟨v3, e_v3, h⟩ := bnd h
          refine st_callV [.int x1] dX7_who_39 co_X7_isProject im_X7_isProject se_X7_isProject ml_RX7_152 rfl (by decide) rfl (rfl : classes[7]? = some (RX7, TX7, 11)) rfl (S := []) rfl (Nat.le_of_ble_eq_true rfl) (k_X7_isProject (by omega) x1 H _ e_v3 ?_)
          show V (D + 1) RX7 mdX7_who 42 [.ref 0, .int x1, .int x2, .int x3, .int x4] [.int v3] H post
          refine st_if_eq dX7_who_42 58 (by decide) (fun c62 => ?_) (fun c62 => ?_)
          · replace h := (if_pos c62).symm.trans h
            refine st_ldc dX7_who_58 cn_RX7_77 ?_
            obtain rfl := Option.some.inj h
            exact st_iret dX7_who_60 rfl hp
          · replace h := (if_neg c62).symm.trans h
            refine st_iload_n dX7_who_45 rfl rfl ?_
            refine st_iconst dX7_who_46 (v := 2) rfl ?_
            refine st_ic_le dX7_who_47 61 (by decide) (fun c63 => ?_) (fun c63 => ?_)
            · replace h := (if_pos c63).symm.trans h
              refine st_aload_n dX7_who_61 rfl rfl ?_
              refine gR7 dX7_who_62 (by decide) rfl 0 (by decide) fl_RX7_10 rfl 1 rfl ?_
              refine st_iload_n dX7_who_65 rfl rfl ?_
              obtain ⟨v4, e_v4, h⟩ := bnd h
              refine st_callV [.int x3] dX7_who_66 co_X5_isMissing im_X5_isMissing se_X5_isMissing ml_RX7_89 rfl (by decide) rfl (rfl : classes[5]? = some (RX5, TX5, 3)) rfl (S := []) rfl (Nat.le_of_ble_eq_true rfl) (k_X5_isMissing (by omega) x3 H _ e_v4 ?_)
              show V (D + 1) RX7 mdX7_who 69 [.ref 0, .int x1, .int x2, .int x3, .int x4] [.int v4] H post
              refine st_if_eq dX7_who_69 78 (by decide) (fun c64 => ?_) (fun c64 => ?_)
              · replace h := (if_pos c64).symm.trans h
                refine st_aload_n dX7_who_78 rfl rfl ?_
                refine gR7 dX7_who_79 (by decide) rfl 0 (by decide) fl_RX7_10 rfl 1 rfl ?_
                refine st_iload_n dX7_who_82 rfl rfl ?_
                refine st_iload dX7_who_83 rfl ?_
                refine st_aload_n dX7_who_85 rfl rfl ?_
                refine gR7 dX7_who_86 (by decide) rfl 2 (by decide) fl_RX7_26 rfl 7 rfl ?_
                refine gI4 dX7_who_89 (by decide) rfl 3 (by decide) fl_RX7_139 rfl rfl ?_
                obtain ⟨v5, e_v5, h⟩ := bnd h
                refine st_callV [.int x3, .int x4, .int (H 7 3)] dX7_who_92 co_X5_hasPlaces im_X5_hasPlaces se_X5_hasPlaces ml_RX7_92 rfl (by decide) rfl (rfl : classes[5]? = some (RX5, TX5, 3)) rfl (S := []) rfl (Nat.le_of_ble_eq_true rfl) (k_X5_hasPlaces (by omega) x3 x4 (H 7 3) H _ e_v5 ?_)
                show V (D + 1) RX7 mdX7_who 95 [.ref 0, .int x1, .int x2, .int x3, .int x4] [.int v5] H post
                refine st_if_ne dX7_who_95 104 (by decide) (fun c65 => ?_) (fun c65 => ?_)
                · replace h := (if_neg c65).symm.trans h
                  refine st_aload_n dX7_who_104 rfl rfl ?_
                  refine gR7 dX7_who_105 (by decide) rfl 7 (by decide) fl_RX7_56 rfl 49 rfl ?_
                  refine st_aload_n dX7_who_108 rfl rfl ?_
                  refine gR7 dX7_who_109 (by decide) rfl 0 (by decide) fl_RX7_10 rfl 1 rfl ?_
                  refine st_iload_n dX7_who_112 rfl rfl ?_
                  refine st_iload dX7_who_113 rfl ?_
                  obtain ⟨H7, e_H7, h⟩ := bnd h
                  refine st_callV [.ref 1, .int x3, .int x4] dX7_who_115 co_X3_expect im_X3_expect se_X3_expect ml_RX7_271 rfl (by decide) rfl (rfl : classes[3]? = some (RX3, TX3, 5)) rfl (S := []) rfl (Nat.le_of_ble_eq_true rfl) (k_X3_expect (by omega) x3 x4 H _ e_H7 ?_)
                  show V (D + 1) RX7 mdX7_who 118 [.ref 0, .int x1, .int x2, .int x3, .int x4] [] H7 post
                  refine st_iload_n dX7_who_118 rfl rfl ?_
                  by_cases s66 : x2 = 0
                  · replace h := (if_pos s66).symm.trans h
                    refine st_tabIn dX7_who_119 (by rw [s66]; decide) (by rw [s66]; decide) (by rw [s66] <;> rfl) 144 (by decide) ?_
                    refine st_aload_n dX7_who_144 rfl rfl ?_
                    refine st_aload_n dX7_who_145 rfl rfl ?_
                    refine gR7 dX7_who_146 (by decide) rfl 7 (by decide) fl_RX7_56 rfl 49 rfl ?_
                    refine st_iload_n dX7_who_149 rfl rfl ?_
                    refine st_iconst dX7_who_150 (v := 1) rfl ?_
                    have kj68 : ∀ z67 : Int32, z67 = ((if x2 = 1 then 1 else 0) : Int32) → V (D + 1) RX7 mdX7_who 159 [.null, .null, .null, .null, .null] [.int z67, .ref 49, .ref 0] H7 post := by
                      intro z67 ez67
                      subst ez67
                      obtain ⟨q8, e_q8, h⟩ := bnd h
                      refine st_callV [.int ((if x2 = 1 then 1 else 0) : Int32)] dX7_who_159 co_X3_fittingPots im_X3_fittingPots se_X3_fittingPots ml_RX7_275 rfl (by decide) rfl (rfl : classes[3]? = some (RX3, TX3, 5)) rfl (S := [.ref 0]) rfl (Nat.le_of_ble_eq_true rfl) (k_X3_fittingPots (by omega) ((if x2 = 1 then 1 else 0) : Int32) H7 _ e_q8 ?_)
                      show V (D + 1) RX7 mdX7_who 162 [.null, .null, .null, .null, .null] [.int q8.1, .ref 0] q8.2 post
                      obtain ⟨q9, e_q9, h⟩ := bnd h
                      refine st_callV [.int q8.1] dX7_who_162 co_X7_unmarred im_X7_unmarred se_X7_unmarred ml_RX7_86 rfl (by decide) rfl (rfl : classes[7]? = some (RX7, TX7, 11)) rfl (S := []) rfl (Nat.le_of_ble_eq_true rfl) (k_X7_unmarred (by omega) q8.1 q8.2 _ e_q9 ?_)
                      show V (D + 1) RX7 mdX7_who 165 [.null, .null, .null, .null, .null] [.int q9.1] q9.2 post
                      obtain rfl := Option.some.inj h
                      exact st_iret dX7_who_165 rfl hp
                    refine st_ic_ne dX7_who_151 158 (by decide) (fun c69 => ?_) (fun c69 => ?_)
                    · refine st_iconst dX7_who_158 (v := 0) rfl ?_
                      exact st_sub [.null, .null, .null, .null, .null] ⟨Or.inl rfl, Or.inl rfl, Or.inl rfl, Or.inl rfl, Or.inl rfl, trivial⟩ (kj68 _ (Eq.symm (if_neg c69)))
                    · refine st_iconst dX7_who_154 (v := 1) rfl ?_
                      refine st_goto dX7_who_155 159 (by decide) ?_
                      exact st_sub [.null, .null, .null, .null, .null] ⟨Or.inl rfl, Or.inl rfl, Or.inl rfl, Or.inl rfl, Or.inl rfl, trivial⟩ (kj68 _ (Eq.symm (if_pos c69)))
                  · replace h := (if_neg s66).symm.trans h
                    by_cases s70 : x2 = 1
                    · replace h := (if_pos s70).symm.trans h
                      refine st_tabIn dX7_who_119 (by rw [s70]; decide) (by rw [s70]; decide) (by rw [s70] <;> rfl) 144 (by decide) ?_
                      refine st_aload_n dX7_who_144 rfl rfl ?_
                      refine st_aload_n dX7_who_145 rfl rfl ?_
                      refine gR7 dX7_who_146 (by decide) rfl 7 (by decide) fl_RX7_56 rfl 49 rfl ?_
                      refine st_iload_n dX7_who_149 rfl rfl ?_
                      refine st_iconst dX7_who_150 (v := 1) rfl ?_
                      have kj72 : ∀ z71 : Int32, z71 = ((if x2 = 1 then 1 else 0) : Int32) → V (D + 1) RX7 mdX7_who 159 [.null, .null, .null, .null, .null] [.int z71, .ref 49, .ref 0] H7 post := by
                        intro z71 ez71
                        subst ez71
                        obtain ⟨q10, e_q10, h⟩ := bnd h
                        refine st_callV [.int ((if x2 = 1 then 1 else 0) : Int32)] dX7_who_159 co_X3_fittingPots im_X3_fittingPots se_X3_fittingPots ml_RX7_275 rfl (by decide) rfl (rfl : classes[3]? = some (RX3, TX3, 5)) rfl (S := [.ref 0]) rfl (Nat.le_of_ble_eq_true rfl) (k_X3_fittingPots (by omega) ((if x2 = 1 then 1 else 0) : Int32) H7 _ e_q10 ?_)
                        show V (D + 1) RX7 mdX7_who 162 [.null, .null, .null, .null, .null] [.int q10.1, .ref 0] q10.2 post
                        obtain ⟨q11, e_q11, h⟩ := bnd h
                        refine st_callV [.int q10.1] dX7_who_162 co_X7_unmarred im_X7_unmarred se_X7_unmarred ml_RX7_86 rfl (by decide) rfl (rfl : classes[7]? = some (RX7, TX7, 11)) rfl (S := []) rfl (Nat.le_of_ble_eq_true rfl) (k_X7_unmarred (by omega) q10.1 q10.2 _ e_q11 ?_)
                        show V (D + 1) RX7 mdX7_who 165 [.null, .null, .null, .null, .null] [.int q11.1] q11.2 post
                        obtain rfl := Option.some.inj h
                        exact st_iret dX7_who_165 rfl hp
                      refine st_ic_ne dX7_who_151 158 (by decide) (fun c73 => ?_) (fun c73 => ?_)
                      · refine st_iconst dX7_who_158 (v := 0) rfl ?_
                        exact st_sub [.null, .null, .null, .null, .null] ⟨Or.inl rfl, Or.inl rfl, Or.inl rfl, Or.inl rfl, Or.inl rfl, trivial⟩ (kj72 _ (Eq.symm (if_neg c73)))
                      · refine st_iconst dX7_who_154 (v := 1) rfl ?_
                        refine st_goto dX7_who_155 159 (by decide) ?_
                        exact st_sub [.null, .null, .null, .null, .null] ⟨Or.inl rfl, Or.inl rfl, Or.inl rfl, Or.inl rfl, Or.inl rfl, trivial⟩ (kj72 _ (Eq.symm (if_pos c73)))
                    · replace h := (if_neg s70).symm.trans h
                      by_cases s74 : x2 = 2
                      · replace h := (if_pos s74).symm.trans h
                        refine st_tabIn dX7_who_119 (by rw [s74]; decide) (by rw [s74]; decide) (by rw [s74] <;> rfl) 166 (by decide) ?_
                        refine st_aload_n dX7_who_166 rfl rfl ?_
                        refine st_aload_n dX7_who_167 rfl rfl ?_
                        refine gR7 dX7_who_168 (by decide) rfl 7 (by decide) fl_RX7_56 rfl 49 rfl ?_
                        refine st_iload_n dX7_who_171 rfl rfl ?_
                        obtain ⟨q12, e_q12, h⟩ := bnd h
                        refine st_callV [.int x1] dX7_who_172 co_X3_fittingKinds im_X3_fittingKinds se_X3_fittingKinds ml_RX7_279 rfl (by decide) rfl (rfl : classes[3]? = some (RX3, TX3, 5)) rfl (S := [.ref 0]) rfl (Nat.le_of_ble_eq_true rfl) (k_X3_fittingKinds (by omega) x1 H7 _ e_q12 ?_)
                        show V (D + 1) RX7 mdX7_who 175 [.ref 0, .int x1, .int x2, .int x3, .int x4] [.int q12.1, .ref 0] q12.2 post
                        obtain ⟨q13, e_q13, h⟩ := bnd h
                        refine st_callV [.int q12.1] dX7_who_175 co_X7_unmarred im_X7_unmarred se_X7_unmarred ml_RX7_86 rfl (by decide) rfl (rfl : classes[7]? = some (RX7, TX7, 11)) rfl (S := []) rfl (Nat.le_of_ble_eq_true rfl) (k_X7_unmarred (by omega) q12.1 q12.2 _ e_q13 ?_)
                        show V (D + 1) RX7 mdX7_who 178 [.ref 0, .int x1, .int x2, .int x3, .int x4] [.int q13.1] q13.2 post
                        obtain rfl := Option.some.inj h
                        exact st_iret dX7_who_178 rfl hp
                      · replace h := (if_neg s74).symm.trans h
                        have ts66 := lv_neT s66 (a := 0) (by decide)
                        have ts70 := lv_neT s70 (a := 1) (by decide)
                        have ts74 := lv_neT s74 (a := 2) (by decide)
                        refine st_tabOut dX7_who_119 (by omega) 179 (by decide) ?_
                        refine st_aload_n dX7_who_179 rfl rfl ?_
                        refine st_aload_n dX7_who_180 rfl rfl ?_
                        refine gR7 dX7_who_181 (by decide) rfl 7 (by decide) fl_RX7_56 rfl 49 rfl ?_
                        refine st_iload_n dX7_who_184 rfl rfl ?_
                        refine st_iload_n dX7_who_185 rfl rfl ?_
                        refine st_iconst dX7_who_186 (v := 4) rfl ?_
                        have kj76 : ∀ z75 : Int32, z75 = ((if x2 = 4 then 1 else 0) : Int32) → V (D + 1) RX7 mdX7_who 195 [.null, .null, .null, .null, .null] [.int z75, .int x1, .ref 49, .ref 0] H7 post := by
                          intro z75 ez75
                          subst ez75
                          obtain ⟨q14, e_q14, h⟩ := bnd h
                          refine st_callV [.int x1, .int ((if x2 = 4 then 1 else 0) : Int32)] dX7_who_195 co_X3_fittingCoins im_X3_fittingCoins se_X3_fittingCoins ml_RX7_282 rfl (by decide) rfl (rfl : classes[3]? = some (RX3, TX3, 5)) rfl (S := [.ref 0]) rfl (Nat.le_of_ble_eq_true rfl) (k_X3_fittingCoins (by omega) x1 ((if x2 = 4 then 1 else 0) : Int32) H7 _ e_q14 ?_)
                          show V (D + 1) RX7 mdX7_who 198 [.null, .null, .null, .null, .null] [.int q14.1, .ref 0] q14.2 post
                          obtain ⟨q15, e_q15, h⟩ := bnd h
                          refine st_callV [.int q14.1] dX7_who_198 co_X7_unmarred im_X7_unmarred se_X7_unmarred ml_RX7_86 rfl (by decide) rfl (rfl : classes[7]? = some (RX7, TX7, 11)) rfl (S := []) rfl (Nat.le_of_ble_eq_true rfl) (k_X7_unmarred (by omega) q14.1 q14.2 _ e_q15 ?_)
                          show V (D + 1) RX7 mdX7_who 201 [.null, .null, .null, .null, .null] [.int q15.1] q15.2 post
                          obtain rfl := Option.some.inj h
                          exact st_iret dX7_who_201 rfl hp
                        refine st_ic_ne dX7_who_187 194 (by decide) (fun c77 => ?_) (fun c77 => ?_)
                        · refine st_iconst dX7_who_194 (v := 0) rfl ?_
                          exact st_sub [.null, .null, .null, .null, .null] ⟨Or.inl rfl, Or.inl rfl, Or.inl rfl, Or.inl rfl, Or.inl rfl, trivial⟩ (kj76 _ (Eq.symm (if_neg c77)))
                        · refine st_iconst dX7_who_190 (v := 1) rfl ?_
                          refine st_goto dX7_who_191 195 (by decide) ?_
                          exact st_sub [.null, .null, .null, .null, .null] ⟨Or.inl rfl, Or.inl rfl, Or.inl rfl, Or.inl rfl, Or.inl rfl, trivial⟩ (kj76 _ (Eq.symm (if_pos c77)))
                · replace h := (if_pos c65).symm.trans h
                  refine st_aload_n dX7_who_98 rfl rfl ?_
                  refine st_iconst dX7_who_99 (v := 2) rfl ?_
                  obtain ⟨q6, e_q6, h⟩ := bnd h
                  refine st_callV [.int 2] dX7_who_100 co_X7_found im_X7_found se_X7_found ml_RX7_78 rfl (by decide) rfl (rfl : classes[7]? = some (RX7, TX7, 11)) rfl (S := []) rfl (Nat.le_of_ble_eq_true rfl) (k_X7_found (by omega) 2 H _ e_q6 ?_)
                  show V (D + 1) RX7 mdX7_who 103 [.ref 0, .int x1, .int x2, .int x3, .int x4] [.int q6.1] q6.2 post
                  obtain rfl := Option.some.inj h
                  exact st_iret dX7_who_103 rfl hp
              · replace h := (if_neg c64).symm.trans h
                refine st_aload_n dX7_who_72 rfl rfl ?_
                refine st_iconst dX7_who_73 (v := 1) rfl ?_
                obtain ⟨q16, e_q16, h⟩ := bnd h
                refine st_callV [.int 1] dX7_who_74 co_X7_found im_X7_found se_X7_found ml_RX7_78 rfl (by decide) rfl (rfl : classes[7]? = some (RX7, TX7, 11)) rfl (S := []) rfl (Nat.le_of_ble_eq_true rfl) (k_X7_found (by omega) 1 H _ e_q16 ?_)
                show V (D + 1) RX7 mdX7_who 77 [.ref 0, .int x1, .int x2, .int x3, .int x4] [.int q16.1] q16.2 post
                obtain rfl := Option.some.inj h
                exact st_iret dX7_who_77 rfl hp
            · replace h := (if_neg c63).symm.trans h
              refine st_aload_n dX7_who_50 rfl rfl ?_
              refine st_iload_n dX7_who_51 rfl rfl ?_
              obtain ⟨v17, e_v17, h⟩ := bnd h
              refine st_callV [.int x1] dX7_who_52 co_X7_isGift im_X7_isGift se_X7_isGift ml_RX7_165 rfl (by decide) rfl (rfl : classes[7]? = some (RX7, TX7, 11)) rfl (S := []) rfl (Nat.le_of_ble_eq_true rfl) (k_X7_isGift (by omega) x1 H _ e_v17 ?_)
              show V (D + 1) RX7 mdX7_who 55 [.ref 0, .int x1, .int x2, .int x3, .int x4] [.int v17] H post
              refine st_if_ne dX7_who_55 61 (by decide) (fun c78 => ?_) (fun c78 => ?_)
              · replace h := (if_neg c78).symm.trans h
                refine st_aload_n dX7_who_61 rfl rfl ?_
                refine gR7 dX7_who_62 (by decide) rfl 0 (by decide) fl_RX7_10 rfl 1 rfl ?_
                refine st_iload_n dX7_who_65 rfl rfl ?_
                obtain ⟨v18, e_v18, h⟩ := bnd h
                refine st_callV [.int x3] dX7_who_66 co_X5_isMissing im_X5_isMissing se_X5_isMissing ml_RX7_89 rfl (by decide) rfl (rfl : classes[5]? = some (RX5, TX5, 3)) rfl (S := []) rfl (Nat.le_of_ble_eq_true rfl) (k_X5_isMissing (by omega) x3 H _ e_v18 ?_)
                show V (D + 1) RX7 mdX7_who 69 [.ref 0, .int x1, .int x2, .int x3, .int x4] [.int v18] H post
                refine st_if_eq dX7_who_69 78 (by decide) (fun c79 => ?_) (fun c79 => ?_)
                · replace h := (if_pos c79).symm.trans h
                  refine st_aload_n dX7_who_78 rfl rfl ?_
                  refine gR7 dX7_who_79 (by decide) rfl 0 (by decide) fl_RX7_10 rfl 1 rfl ?_
                  refine st_iload_n dX7_who_82 rfl rfl ?_
                  refine st_iload dX7_who_83 rfl ?_
                  refine st_aload_n dX7_who_85 rfl rfl ?_
                  refine gR7 dX7_who_86 (by decide) rfl 2 (by decide) fl_RX7_26 rfl 7 rfl ?_
                  refine gI4 dX7_who_89 (by decide) rfl 3 (by decide) fl_RX7_139 rfl rfl ?_
                  obtain ⟨v19, e_v19, h⟩ := bnd h
                  refine st_callV [.int x3, .int x4, .int (H 7 3)] dX7_who_92 co_X5_hasPlaces im_X5_hasPlaces se_X5_hasPlaces ml_RX7_92 rfl (by decide) rfl (rfl : classes[5]? = some (RX5, TX5, 3)) rfl (S := []) rfl (Nat.le_of_ble_eq_true rfl) (k_X5_hasPlaces (by omega) x3 x4 (H 7 3) H _ e_v19 ?_)
                  show V (D + 1) RX7 mdX7_who 95 [.ref 0, .int x1, .int x2, .int x3, .int x4] [.int v19] H post
                  refine st_if_ne dX7_who_95 104 (by decide) (fun c80 => ?_) (fun c80 => ?_)
                  · replace h := (if_neg c80).symm.trans h
                    refine st_aload_n dX7_who_104 rfl rfl ?_
                    refine gR7 dX7_who_105 (by decide) rfl 7 (by decide) fl_RX7_56 rfl 49 rfl ?_
                    refine st_aload_n dX7_who_108 rfl rfl ?_
                    refine gR7 dX7_who_109 (by decide) rfl 0 (by decide) fl_RX7_10 rfl 1 rfl ?_
                    refine st_iload_n dX7_who_112 rfl rfl ?_
                    refine st_iload dX7_who_113 rfl ?_
                    obtain ⟨H21, e_H21, h⟩ := bnd h
                    refine st_callV [.ref 1, .int x3, .int x4] dX7_who_115 co_X3_expect im_X3_expect se_X3_expect ml_RX7_271 rfl (by decide) rfl (rfl : classes[3]? = some (RX3, TX3, 5)) rfl (S := []) rfl (Nat.le_of_ble_eq_true rfl) (k_X3_expect (by omega) x3 x4 H _ e_H21 ?_)
                    show V (D + 1) RX7 mdX7_who 118 [.ref 0, .int x1, .int x2, .int x3, .int x4] [] H21 post
                    refine st_iload_n dX7_who_118 rfl rfl ?_
                    by_cases s81 : x2 = 0
                    · replace h := (if_pos s81).symm.trans h
                      refine st_tabIn dX7_who_119 (by rw [s81]; decide) (by rw [s81]; decide) (by rw [s81] <;> rfl) 144 (by decide) ?_
                      refine st_aload_n dX7_who_144 rfl rfl ?_
                      refine st_aload_n dX7_who_145 rfl rfl ?_
                      refine gR7 dX7_who_146 (by decide) rfl 7 (by decide) fl_RX7_56 rfl 49 rfl ?_
                      refine st_iload_n dX7_who_149 rfl rfl ?_
                      refine st_iconst dX7_who_150 (v := 1) rfl ?_
                      have kj83 : ∀ z82 : Int32, z82 = ((if x2 = 1 then 1 else 0) : Int32) → V (D + 1) RX7 mdX7_who 159 [.null, .null, .null, .null, .null] [.int z82, .ref 49, .ref 0] H21 post := by
                        intro z82 ez82
                        subst ez82
                        obtain ⟨q22, e_q22, h⟩ := bnd h
                        refine st_callV [.int ((if x2 = 1 then 1 else 0) : Int32)] dX7_who_159 co_X3_fittingPots im_X3_fittingPots se_X3_fittingPots ml_RX7_275 rfl (by decide) rfl (rfl : classes[3]? = some (RX3, TX3, 5)) rfl (S := [.ref 0]) rfl (Nat.le_of_ble_eq_true rfl) (k_X3_fittingPots (by omega) ((if x2 = 1 then 1 else 0) : Int32) H21 _ e_q22 ?_)
                        show V (D + 1) RX7 mdX7_who 162 [.null, .null, .null, .null, .null] [.int q22.1, .ref 0] q22.2 post
                        obtain ⟨q23, e_q23, h⟩ := bnd h
                        refine st_callV [.int q22.1] dX7_who_162 co_X7_unmarred im_X7_unmarred se_X7_unmarred ml_RX7_86 rfl (by decide) rfl (rfl : classes[7]? = some (RX7, TX7, 11)) rfl (S := []) rfl (Nat.le_of_ble_eq_true rfl) (k_X7_unmarred (by omega) q22.1 q22.2 _ e_q23 ?_)
                        show V (D + 1) RX7 mdX7_who 165 [.null, .null, .null, .null, .null] [.int q23.1] q23.2 post
                        obtain rfl := Option.some.inj h
                        exact st_iret dX7_who_165 rfl hp
                      refine st_ic_ne dX7_who_151 158 (by decide) (fun c84 => ?_) (fun c84 => ?_)
                      · refine st_iconst dX7_who_158 (v := 0) rfl ?_
                        exact st_sub [.null, .null, .null, .null, .null] ⟨Or.inl rfl, Or.inl rfl, Or.inl rfl, Or.inl rfl, Or.inl rfl, trivial⟩ (kj83 _ (Eq.symm (if_neg c84)))
                      · refine st_iconst dX7_who_154 (v := 1) rfl ?_
                        refine st_goto dX7_who_155 159 (by decide) ?_
                        exact st_sub [.null, .null, .null, .null, .null] ⟨Or.inl rfl, Or.inl rfl, Or.inl rfl, Or.inl rfl, Or.inl rfl, trivial⟩ (kj83 _ (Eq.symm (if_pos c84)))
                    · replace h := (if_neg s81).symm.trans h
                      by_cases s85 : x2 = 1
                      · replace h := (if_pos s85).symm.trans h
                        refine st_tabIn dX7_who_119 (by rw [s85]; decide) (by rw [s85]; decide) (by rw [s85] <;> rfl) 144 (by decide) ?_
                        refine st_aload_n dX7_who_144 rfl rfl ?_
                        refine st_aload_n dX7_who_145 rfl rfl ?_
                        refine gR7 dX7_who_146 (by decide) rfl 7 (by decide) fl_RX7_56 rfl 49 rfl ?_
                        refine st_iload_n dX7_who_149 rfl rfl ?_
                        refine st_iconst dX7_who_150 (v := 1) rfl ?_
                        have kj87 : ∀ z86 : Int32, z86 = ((if x2 = 1 then 1 else 0) : Int32) → V (D + 1) RX7 mdX7_who 159 [.null, .null, .null, .null, .null] [.int z86, .ref 49, .ref 0] H21 post := by
                          intro z86 ez86
                          subst ez86
                          obtain ⟨q24, e_q24, h⟩ := bnd h
                          refine st_callV [.int ((if x2 = 1 then 1 else 0) : Int32)] dX7_who_159 co_X3_fittingPots im_X3_fittingPots se_X3_fittingPots ml_RX7_275 rfl (by decide) rfl (rfl : classes[3]? = some (RX3, TX3, 5)) rfl (S := [.ref 0]) rfl (Nat.le_of_ble_eq_true rfl) (k_X3_fittingPots (by omega) ((if x2 = 1 then 1 else 0) : Int32) H21 _ e_q24 ?_)
                          show V (D + 1) RX7 mdX7_who 162 [.null, .null, .null, .null, .null] [.int q24.1, .ref 0] q24.2 post
                          obtain ⟨q25, e_q25, h⟩ := bnd h
                          refine st_callV [.int q24.1] dX7_who_162 co_X7_unmarred im_X7_unmarred se_X7_unmarred ml_RX7_86 rfl (by decide) rfl (rfl : classes[7]? = some (RX7, TX7, 11)) rfl (S := []) rfl (Nat.le_of_ble_eq_true rfl) (k_X7_unmarred (by omega) q24.1 q24.2 _ e_q25 ?_)
                          show V (D + 1) RX7 mdX7_who 165 [.null, .null, .null, .null, .null] [.int q25.1] q25.2 post
                          obtain rfl := Option.some.inj h
                          exact st_iret dX7_who_165 rfl hp
                        refine st_ic_ne dX7_who_151 158 (by decide) (fun c88 => ?_) (fun c88 => ?_)
                        · refine st_iconst dX7_who_158 (v := 0) rfl ?_
                          exact st_sub [.null, .null, .null, .null, .null] ⟨Or.inl rfl, Or.inl rfl, Or.inl rfl, Or.inl rfl, Or.inl rfl, trivial⟩ (kj87 _ (Eq.symm (if_neg c88)))
                        · refine st_iconst dX7_who_154 (v := 1) rfl ?_
                          refine st_goto dX7_who_155 159 (by decide) ?_
                          exact st_sub [.null, .null, .null, .null, .null] ⟨Or.inl rfl, Or.inl rfl, Or.inl rfl, Or.inl rfl, Or.inl rfl, trivial⟩ (kj87 _ (Eq.symm (if_pos c88)))
                      · replace h := (if_neg s85).symm.trans h
                        by_cases s89 : x2 = 2
                        · replace h := (if_pos s89).symm.trans h
                          refine st_tabIn dX7_who_119 (by rw [s89]; decide) (by rw [s89]; decide) (by rw [s89] <;> rfl) 166 (by decide) ?_
                          refine st_aload_n dX7_who_166 rfl rfl ?_
                          refine st_aload_n dX7_who_167 rfl rfl ?_
                          refine gR7 dX7_who_168 (by decide) rfl 7 (by decide) fl_RX7_56 rfl 49 rfl ?_
                          refine st_iload_n dX7_who_171 rfl rfl ?_
                          obtain ⟨q26, e_q26, h⟩ := bnd h
                          refine st_callV [.int x1] dX7_who_172 co_X3_fittingKinds im_X3_fittingKinds se_X3_fittingKinds ml_RX7_279 rfl (by decide) rfl (rfl : classes[3]? = some (RX3, TX3, 5)) rfl (S := [.ref 0]) rfl (Nat.le_of_ble_eq_true rfl) (k_X3_fittingKinds (by omega) x1 H21 _ e_q26 ?_)
                          show V (D + 1) RX7 mdX7_who 175 [.ref 0, .int x1, .int x2, .int x3, .int x4] [.int q26.1, .ref 0] q26.2 post
                          obtain ⟨q27, e_q27, h⟩ := bnd h
                          refine st_callV [.int q26.1] dX7_who_175 co_X7_unmarred im_X7_unmarred se_X7_unmarred ml_RX7_86 rfl (by decide) rfl (rfl : classes[7]? = some (RX7, TX7, 11)) rfl (S := []) rfl (Nat.le_of_ble_eq_true rfl) (k_X7_unmarred (by omega) q26.1 q26.2 _ e_q27 ?_)
                          show V (D + 1) RX7 mdX7_who 178 [.ref 0, .int x1, .int x2, .int x3, .int x4] [.int q27.1] q27.2 post
                          obtain rfl := Option.some.inj h
                          exact st_iret dX7_who_178 rfl hp
                        · replace h := (if_neg s89).symm.trans h
                          have ts81 := lv_neT s81 (a := 0) (by decide)
                          have ts85 := lv_neT s85 (a := 1) (by decide)
                          have ts89 := lv_neT s89 (a := 2) (by decide)
                          refine st_tabOut dX7_who_119 (by omega) 179 (by decide) ?_
                          refine st_aload_n dX7_who_179 rfl rfl ?_
                          refine st_aload_n dX7_who_180 rfl rfl ?_
                          refine gR7 dX7_who_181 (by decide) rfl 7 (by decide) fl_RX7_56 rfl 49 rfl ?_
                          refine st_iload_n dX7_who_184 rfl rfl ?_
                          refine st_iload_n dX7_who_185 rfl rfl ?_
                          refine st_iconst dX7_who_186 (v := 4) rfl ?_
                          have kj91 : ∀ z90 : Int32, z90 = ((if x2 = 4 then 1 else 0) : Int32) → V (D + 1) RX7 mdX7_who 195 [.null, .null, .null, .null, .null] [.int z90, .int x1, .ref 49, .ref 0] H21 post := by
                            intro z90 ez90
                            subst ez90
                            obtain ⟨q28, e_q28, h⟩ := bnd h
                            refine st_callV [.int x1, .int ((if x2 = 4 then 1 else 0) : Int32)] dX7_who_195 co_X3_fittingCoins im_X3_fittingCoins se_X3_fittingCoins ml_RX7_282 rfl (by decide) rfl (rfl : classes[3]? = some (RX3, TX3, 5)) rfl (S := [.ref 0]) rfl (Nat.le_of_ble_eq_true rfl) (k_X3_fittingCoins (by omega) x1 ((if x2 = 4 then 1 else 0) : Int32) H21 _ e_q28 ?_)
                            show V (D + 1) RX7 mdX7_who 198 [.null, .null, .null, .null, .null] [.int q28.1, .ref 0] q28.2 post
                            obtain ⟨q29, e_q29, h⟩ := bnd h
                            refine st_callV [.int q28.1] dX7_who_198 co_X7_unmarred im_X7_unmarred se_X7_unmarred ml_RX7_86 rfl (by decide) rfl (rfl : classes[7]? = some (RX7, TX7, 11)) rfl (S := []) rfl (Nat.le_of_ble_eq_true rfl) (k_X7_unmarred (by omega) q28.1 q28.2 _ e_q29 ?_)
                            show V (D + 1) RX7 mdX7_who 201 [.null, .null, .null, .null, .null] [.int q29.1] q29.2 post
                            obtain rfl := Option.some.inj h
                            exact st_iret dX7_who_201 rfl hp
                          refine st_ic_ne dX7_who_187 194 (by decide) (fun c92 => ?_) (fun c92 => ?_)
                          · refine st_iconst dX7_who_194 (v := 0) rfl ?_
                            exact st_sub [.null, .null, .null, .null, .null] ⟨Or.inl rfl, Or.inl rfl, Or.inl rfl, Or.inl rfl, Or.inl rfl, trivial⟩ (kj91 _ (Eq.symm (if_neg c92)))
                          · refine st_iconst dX7_who_190 (v := 1) rfl ?_
                            refine st_goto dX7_who_191 195 (by decide) ?_
                            exact st_sub [.null, .null, .null, .null, .null] ⟨Or.inl rfl, Or.inl rfl, Or.inl rfl, Or.inl rfl, Or.inl rfl, trivial⟩ (kj91 _ (Eq.symm (if_pos c92)))
                  · replace h := (if_pos c80).symm.trans h
                    refine st_aload_n dX7_who_98 rfl rfl ?_
                    refine st_iconst dX7_who_99 (v := 2) rfl ?_
                    obtain ⟨q20, e_q20, h⟩ := bnd h
                    refine st_callV [.int 2] dX7_who_100 co_X7_found im_X7_found se_X7_found ml_RX7_78 rfl (by decide) rfl (rfl : classes[7]? = some (RX7, TX7, 11)) rfl (S := []) rfl (Nat.le_of_ble_eq_true rfl) (k_X7_found (by omega) 2 H _ e_q20 ?_)
                    show V (D + 1) RX7 mdX7_who 103 [.ref 0, .int x1, .int x2, .int x3, .int x4] [.int q20.1] q20.2 post
                    obtain rfl := Option.some.inj h
                    exact st_iret dX7_who_103 rfl hp
                · replace h := (if_neg c79).symm.trans h
                  refine st_aload_n dX7_who_72 rfl rfl ?_
                  refine st_iconst dX7_who_73 (v := 1) rfl ?_
                  obtain ⟨q30, e_q30, h⟩ := bnd h
                  refine st_callV [.int 1] dX7_who_74 co_X7_found im_X7_found se_X7_found ml_RX7_78 rfl (by decide) rfl (rfl : classes[7]? = some (RX7, TX7, 11)) rfl (S := []) rfl (Nat.le_of_ble_eq_true rfl) (k_X7_found (by omega) 1 H _ e_q30 ?_)
                  show V (D + 1) RX7 mdX7_who 77 [.ref 0, .int x1, .int x2, .int x3, .int x4] [.int q30.1] q30.2 post
                  obtain rfl := Option.some.inj h
                  exact st_iret dX7_who_77 rfl hp
              · replace h := (if_pos c78).symm.trans h
                refine st_ldc dX7_who_58 cn_RX7_77 ?_
                obtain rfl := Option.some.inj h
                exact st_iret dX7_who_60 rfl hp
      · replace h := (if_pos c60).symm.trans h
        refine st_ldc dX7_who_29 cn_RX7_77 ?_
        obtain rfl := Option.some.inj h
        exact st_iret dX7_who_31 rfl hp
  · replace h := (if_pos c58).symm.trans h
    refine st_ldc dX7_who_10 cn_RX7_145 ?_
    obtain rfl := Option.some.inj h
    exact st_iret dX7_who_12 rfl hp
def f_X3_casesPaid : Nat → Int32 → Int32 → Int32 → Int32 → Hp → Option (Int64 × Hp)
  | 0, _, _, _, _, _ => none
  | n + 1, x1, x2, x3, x4, H =>
  if x1 < 10 then
    (f_X2_gives x1 H).bind fun v1 =>
    if v1 = 0 then
      (f_X3_casesPaid n (x1 + 1) x2 x3 x4 H).bind fun q2 =>
      some (q2.1, q2.2)
    else
      Option.bind (
        if 10 ≤ x4 then
          some (0, H)
        else
          (f_X3_casesPaid n (x1 + 1) x2 x3 x4 H).bind fun q3 =>
          some ((0 + ((10 - x4).toInt64 * q3.1)), q3.2)) fun j4 =>
      Option.bind (
        if x4 ≤ 0 then
          some (j4.1, j4.2)
        else
          (f_X2_leave x1 j4.2).bind fun H5 =>
          (f_X3_casesPaid n (x1 + 1) x2 x3 x4 H5).bind fun q6 =>
          (f_X2_join x1 q6.2).bind fun H7 =>
          some ((j4.1 + (x4.toInt64 * q6.1)), H7)) fun j8 =>
      some (j8.1, j8.2)
  else
    (f_X2_settle H).bind fun H9 =>
    (ag H9 48 6 x2).bind fun v10 =>
    some (((if v10 < x3 then 0 else 1) : Int64), H9)
set_option maxHeartbeats 4000000 in
set_option maxRecDepth 100000 in
theorem k_X3_casesPaid : ∀ (n D : Nat), 4 + n ≤ D → ∀ x1 : Int32, ∀ x2 : Int32, ∀ x3 : Int32, ∀ x4 : Int32, ∀ (H : Hp) (q : Int64 × Hp), f_X3_casesPaid n x1 x2 x3 x4 H = some q → ∀ {post : Option Value → Hp → Prop}, post (some (.long q.1)) q.2 → Sem D mdX3_casesPaid [.ref 49, .int x1, .int x2, .int x3, .int x4] H post := by
  intro n
  induction n with
  | zero => intro D hD x1 x2 x3 x4 H q h; simp [f_X3_casesPaid] at h
  | succ n ih =>
    intro D hD x1 x2 x3 x4 H q h post hp
    obtain ⟨D, rfl⟩ : ∃ E, D = E + 1 := ⟨D - 1, by omega⟩
    refine sem_of (own := RX3) rfl pn_RX3 (Nat.le_of_ble_eq_true rfl) [.ref 49, .int x1, .int x2, .int x3, .int x4, .null, .null] ⟨Or.inr rfl, Or.inr rfl, Or.inr rfl, Or.inr rfl, Or.inr rfl, rfl, rfl, trivial⟩ ?_
    rw [f_X3_casesPaid] at h
    refine st_iload_n dX3_casesPaid_0 rfl rfl ?_
    refine st_bipush dX3_casesPaid_1 (v := 10) (by decide) ?_
    refine st_ic_lt dX3_casesPaid_3 32 (by decide) (fun c11 => ?_) (fun c11 => ?_)
    · replace h := (if_pos c11).symm.trans h
      refine st_aload_n dX3_casesPaid_32 rfl rfl ?_
      refine gR3 dX3_casesPaid_33 (by decide) rfl 1 (by decide) fl_RX3_28 rfl 38 rfl ?_
      refine st_iload_n dX3_casesPaid_36 rfl rfl ?_
      obtain ⟨v1, e_v1, h⟩ := bnd h
      refine st_callV [.int x1] dX3_casesPaid_37 co_X2_gives im_X2_gives se_X2_gives ml_RX3_66 rfl (by decide) rfl (rfl : classes[2]? = some (RX2, TX2, 15)) rfl (S := []) rfl (Nat.le_of_ble_eq_true rfl) (k_X2_gives (by omega) x1 H _ e_v1 ?_)
      show V (D + 1) RX3 mdX3_casesPaid 40 [.ref 49, .int x1, .int x2, .int x3, .int x4, .null, .null] [.int v1] H post
      refine st_if_ne dX3_casesPaid_40 55 (by decide) (fun c12 => ?_) (fun c12 => ?_)
      · replace h := (if_neg c12).symm.trans h
        refine st_lconst dX3_casesPaid_55 (v := 0) rfl ?_
        refine st_lstore dX3_casesPaid_56 (by decide) [.ref 49, .int x1, .int x2, .int x3, .int x4, .long 0, .null] rfl ?_
        refine st_iload dX3_casesPaid_58 rfl ?_
        refine st_bipush dX3_casesPaid_60 (v := 10) (by decide) ?_
        obtain ⟨j4, e_j4, h⟩ := bnd h
        have kj13 : V (D + 1) RX3 mdX3_casesPaid 88 [.ref 49, .int x1, .int x2, .int x3, .int x4, .long j4.1, .null] [] j4.2 post := by
          refine st_iload dX3_casesPaid_88 rfl ?_
          obtain ⟨j8, e_j8, h⟩ := bnd h
          have kj14 : V (D + 1) RX3 mdX3_casesPaid 129 [.null, .null, .null, .null, .null, .long j8.1, .null] [] j8.2 post := by
            refine st_lload dX3_casesPaid_129 rfl ?_
            obtain rfl := Option.some.inj h
            exact st_lret dX3_casesPaid_131 rfl hp
          refine st_if_le dX3_casesPaid_90 129 (by decide) (fun c15 => ?_) (fun c15 => ?_)
          · replace e_j8 := (if_pos c15).symm.trans e_j8
            obtain rfl := Option.some.inj e_j8
            exact st_sub [.null, .null, .null, .null, .null, .long j4.1, .null] ⟨Or.inl rfl, Or.inl rfl, Or.inl rfl, Or.inl rfl, Or.inl rfl, Or.inr rfl, Or.inl rfl, trivial⟩ kj14
          · replace e_j8 := (if_neg c15).symm.trans e_j8
            refine st_aload_n dX3_casesPaid_93 rfl rfl ?_
            refine gR3 dX3_casesPaid_94 (by decide) rfl 1 (by decide) fl_RX3_28 rfl 38 rfl ?_
            refine st_iload_n dX3_casesPaid_97 rfl rfl ?_
            obtain ⟨H5, e_H5, e_j8⟩ := bnd e_j8
            refine st_callV [.int x1] dX3_casesPaid_98 co_X2_leave im_X2_leave se_X2_leave ml_RX3_70 rfl (by decide) rfl (rfl : classes[2]? = some (RX2, TX2, 15)) rfl (S := []) rfl (Nat.le_of_ble_eq_true rfl) (k_X2_leave (by omega) x1 j4.2 _ e_H5 ?_)
            show V (D + 1) RX3 mdX3_casesPaid 101 [.ref 49, .int x1, .int x2, .int x3, .int x4, .long j4.1, .null] [] H5 post
            refine st_lload dX3_casesPaid_101 rfl ?_
            refine st_iload dX3_casesPaid_103 rfl ?_
            refine st_i2l dX3_casesPaid_105 ?_
            refine st_aload_n dX3_casesPaid_106 rfl rfl ?_
            refine st_iload_n dX3_casesPaid_107 rfl rfl ?_
            refine st_iconst dX3_casesPaid_108 (v := 1) rfl ?_
            refine st_iadd dX3_casesPaid_109 ?_
            refine st_iload_n dX3_casesPaid_110 rfl rfl ?_
            refine st_iload_n dX3_casesPaid_111 rfl rfl ?_
            refine st_iload dX3_casesPaid_112 rfl ?_
            obtain ⟨q6, e_q6, e_j8⟩ := bnd e_j8
            refine st_callV [.int (x1 + 1), .int x2, .int x3, .int x4] dX3_casesPaid_114 co_X3_casesPaid im_X3_casesPaid se_X3_casesPaid ml_RX3_123 rfl (by decide) rfl (rfl : classes[3]? = some (RX3, TX3, 5)) rfl (S := [.long x4.toInt64, .long j4.1]) rfl (Nat.le_of_ble_eq_true rfl) (ih _ (by omega) (x1 + 1) x2 x3 x4 H5 _ e_q6 ?_)
            show V (D + 1) RX3 mdX3_casesPaid 117 [.ref 49, .int x1, .int x2, .int x3, .int x4, .long j4.1, .null] [.long q6.1, .long x4.toInt64, .long j4.1] q6.2 post
            refine st_lmul dX3_casesPaid_117 ?_
            refine st_ladd dX3_casesPaid_118 ?_
            refine st_lstore dX3_casesPaid_119 (by decide) [.ref 49, .int x1, .int x2, .int x3, .int x4, .long (j4.1 + (x4.toInt64 * q6.1)), .null] rfl ?_
            refine st_aload_n dX3_casesPaid_121 rfl rfl ?_
            refine gR3 dX3_casesPaid_122 (by decide) rfl 1 (by decide) fl_RX3_28 rfl 38 rfl ?_
            refine st_iload_n dX3_casesPaid_125 rfl rfl ?_
            obtain ⟨H7, e_H7, e_j8⟩ := bnd e_j8
            refine st_callV [.int x1] dX3_casesPaid_126 co_X2_join im_X2_join se_X2_join ml_RX3_74 rfl (by decide) rfl (rfl : classes[2]? = some (RX2, TX2, 15)) rfl (S := []) rfl (Nat.le_of_ble_eq_true rfl) (k_X2_join (by omega) x1 q6.2 _ e_H7 ?_)
            show V (D + 1) RX3 mdX3_casesPaid 129 [.ref 49, .int x1, .int x2, .int x3, .int x4, .long (j4.1 + (x4.toInt64 * q6.1)), .null] [] H7 post
            obtain rfl := Option.some.inj e_j8
            exact st_sub [.null, .null, .null, .null, .null, .long (j4.1 + (x4.toInt64 * q6.1)), .null] ⟨Or.inl rfl, Or.inl rfl, Or.inl rfl, Or.inl rfl, Or.inl rfl, Or.inr rfl, Or.inl rfl, trivial⟩ kj14
        refine st_ic_ge dX3_casesPaid_62 88 (by decide) (fun c16 => ?_) (fun c16 => ?_)
        · replace e_j4 := (if_pos c16).symm.trans e_j4
          obtain rfl := Option.some.inj e_j4
          exact kj13
        · replace e_j4 := (if_neg c16).symm.trans e_j4
          refine st_lload dX3_casesPaid_65 rfl ?_
          refine st_bipush dX3_casesPaid_67 (v := 10) (by decide) ?_
          refine st_iload dX3_casesPaid_69 rfl ?_
          refine st_isub dX3_casesPaid_71 ?_
          refine st_i2l dX3_casesPaid_72 ?_
          refine st_aload_n dX3_casesPaid_73 rfl rfl ?_
          refine st_iload_n dX3_casesPaid_74 rfl rfl ?_
          refine st_iconst dX3_casesPaid_75 (v := 1) rfl ?_
          refine st_iadd dX3_casesPaid_76 ?_
          refine st_iload_n dX3_casesPaid_77 rfl rfl ?_
          refine st_iload_n dX3_casesPaid_78 rfl rfl ?_
          refine st_iload dX3_casesPaid_79 rfl ?_
          obtain ⟨q3, e_q3, e_j4⟩ := bnd e_j4
          refine st_callV [.int (x1 + 1), .int x2, .int x3, .int x4] dX3_casesPaid_81 co_X3_casesPaid im_X3_casesPaid se_X3_casesPaid ml_RX3_123 rfl (by decide) rfl (rfl : classes[3]? = some (RX3, TX3, 5)) rfl (S := [.long (10 - x4).toInt64, .long 0]) rfl (Nat.le_of_ble_eq_true rfl) (ih _ (by omega) (x1 + 1) x2 x3 x4 H _ e_q3 ?_)
          show V (D + 1) RX3 mdX3_casesPaid 84 [.ref 49, .int x1, .int x2, .int x3, .int x4, .long 0, .null] [.long q3.1, .long (10 - x4).toInt64, .long 0] q3.2 post
          refine st_lmul dX3_casesPaid_84 ?_
          refine st_ladd dX3_casesPaid_85 ?_
          refine st_lstore dX3_casesPaid_86 (by decide) [.ref 49, .int x1, .int x2, .int x3, .int x4, .long (0 + ((10 - x4).toInt64 * q3.1)), .null] rfl ?_
          obtain rfl := Option.some.inj e_j4
          exact kj13
      · replace h := (if_pos c12).symm.trans h
        refine st_aload_n dX3_casesPaid_43 rfl rfl ?_
        refine st_iload_n dX3_casesPaid_44 rfl rfl ?_
        refine st_iconst dX3_casesPaid_45 (v := 1) rfl ?_
        refine st_iadd dX3_casesPaid_46 ?_
        refine st_iload_n dX3_casesPaid_47 rfl rfl ?_
        refine st_iload_n dX3_casesPaid_48 rfl rfl ?_
        refine st_iload dX3_casesPaid_49 rfl ?_
        obtain ⟨q2, e_q2, h⟩ := bnd h
        refine st_callV [.int (x1 + 1), .int x2, .int x3, .int x4] dX3_casesPaid_51 co_X3_casesPaid im_X3_casesPaid se_X3_casesPaid ml_RX3_123 rfl (by decide) rfl (rfl : classes[3]? = some (RX3, TX3, 5)) rfl (S := []) rfl (Nat.le_of_ble_eq_true rfl) (ih _ (by omega) (x1 + 1) x2 x3 x4 H _ e_q2 ?_)
        show V (D + 1) RX3 mdX3_casesPaid 54 [.ref 49, .int x1, .int x2, .int x3, .int x4, .null, .null] [.long q2.1] q2.2 post
        obtain rfl := Option.some.inj h
        exact st_lret dX3_casesPaid_54 rfl hp
    · replace h := (if_neg c11).symm.trans h
      refine st_aload_n dX3_casesPaid_6 rfl rfl ?_
      refine gR3 dX3_casesPaid_7 (by decide) rfl 1 (by decide) fl_RX3_28 rfl 38 rfl ?_
      obtain ⟨H9, e_H9, h⟩ := bnd h
      refine st_callV [] dX3_casesPaid_10 co_X2_settle im_X2_settle se_X2_settle ml_RX3_45 rfl (by decide) rfl (rfl : classes[2]? = some (RX2, TX2, 15)) rfl (S := []) rfl (Nat.le_of_ble_eq_true rfl) (k_X2_settle (by omega) H _ e_H9 ?_)
      show V (D + 1) RX3 mdX3_casesPaid 13 [.ref 49, .int x1, .int x2, .int x3, .int x4, .null, .null] [] H9 post
      refine st_aload_n dX3_casesPaid_13 rfl rfl ?_
      refine gR3 dX3_casesPaid_14 (by decide) rfl 1 (by decide) fl_RX3_28 rfl 38 rfl ?_
      refine gR2 dX3_casesPaid_17 (by decide) rfl 9 (by decide) fl_RX3_48 rfl 48 rfl ?_
      refine st_iload_n dX3_casesPaid_20 rfl rfl ?_
      obtain ⟨v10, e_v10, h⟩ := bnd h
      refine st_iald dX3_casesPaid_21 (by decide) rfl v10 e_v10 ?_
      refine st_iload_n dX3_casesPaid_22 rfl rfl ?_
      have kj18 : ∀ z17 : Int64, z17 = ((if v10 < x3 then 0 else 1) : Int64) → V (D + 1) RX3 mdX3_casesPaid 31 [.null, .null, .null, .null, .null, .null, .null] [.long z17] H9 post := by
        intro z17 ez17
        subst ez17
        obtain rfl := Option.some.inj h
        exact st_lret dX3_casesPaid_31 rfl hp
      refine st_ic_lt dX3_casesPaid_23 30 (by decide) (fun c19 => ?_) (fun c19 => ?_)
      · refine st_lconst dX3_casesPaid_30 (v := 0) rfl ?_
        exact st_sub [.null, .null, .null, .null, .null, .null, .null] ⟨Or.inl rfl, Or.inl rfl, Or.inl rfl, Or.inl rfl, Or.inl rfl, Or.inl rfl, Or.inl rfl, trivial⟩ (kj18 _ (Eq.symm (if_pos c19)))
      · refine st_lconst dX3_casesPaid_26 (v := 1) rfl ?_
        refine st_goto dX3_casesPaid_27 31 (by decide) ?_
        exact st_sub [.null, .null, .null, .null, .null, .null, .null] ⟨Or.inl rfl, Or.inl rfl, Or.inl rfl, Or.inl rfl, Or.inl rfl, Or.inl rfl, Or.inl rfl, trivial⟩ (kj18 _ (Eq.symm (if_neg c19)))
