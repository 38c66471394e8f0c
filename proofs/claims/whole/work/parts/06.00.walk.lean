def f_X5_isRow (x0 : Int32) : Option (Int32) :=
  some ((if x0 < 0 then 0 else (if 8 ≤ x0 then 0 else 1)) : Int32)
set_option maxHeartbeats 4000000 in
set_option maxRecDepth 100000 in
theorem k_X5_isRow {D : Nat} (hD : 0 ≤ D) (x0 : Int32) (H : Hp) (q : Int32) (h : f_X5_isRow x0 = some q) {post : Option Value → Hp → Prop} (hp : post (some (.int q)) H) : Sem D mdX5_isRow [.int x0] H post := by
  refine sem_of (own := RX5) rfl pn_RX5 (Nat.le_of_ble_eq_true rfl) [.int x0] ⟨Or.inr rfl, trivial⟩ ?_
  unfold f_X5_isRow at h
  refine st_iload_n dX5_isRow_0 rfl rfl ?_
  have kj2 : ∀ z1 : Int32, z1 = ((if x0 < 0 then 0 else (if 8 ≤ x0 then 0 else 1)) : Int32) → V D RX5 mdX5_isRow 15 [.null] [.int z1] H post := by
    intro z1 ez1
    subst ez1
    obtain rfl := Option.some.inj h
    exact st_zret dX5_isRow_15 rfl (by first | rfl | (split <;> rfl) | (repeat (first | rfl | split))) hp
  refine st_if_lt dX5_isRow_1 14 (by decide) (fun c3 => ?_) (fun c3 => ?_)
  · refine st_iconst dX5_isRow_14 (v := 0) rfl ?_
    exact st_sub [.null] ⟨Or.inl rfl, trivial⟩ (kj2 _ (Eq.symm (if_pos c3)))
  · refine st_iload_n dX5_isRow_4 rfl rfl ?_
    refine st_bipush dX5_isRow_5 (v := 8) (by decide) ?_
    refine st_ic_ge dX5_isRow_7 14 (by decide) (fun c4 => ?_) (fun c4 => ?_)
    · refine st_iconst dX5_isRow_14 (v := 0) rfl ?_
      exact st_sub [.null] ⟨Or.inl rfl, trivial⟩ (kj2 _ (Eq.symm ((if_neg c3).trans (if_pos c4))))
    · refine st_iconst dX5_isRow_10 (v := 1) rfl ?_
      refine st_goto dX5_isRow_11 15 (by decide) ?_
      exact st_sub [.null] ⟨Or.inl rfl, trivial⟩ (kj2 _ (Eq.symm ((if_neg c3).trans (if_neg c4))))
def f_X7_within (x0 : Int32) (x1 : Int32) (x2 : Int32) : Option (Int32) :=
  some ((if x0 < x1 then 0 else (if x2 < x0 then 0 else 1)) : Int32)
set_option maxHeartbeats 4000000 in
set_option maxRecDepth 100000 in
theorem k_X7_within {D : Nat} (hD : 0 ≤ D) (x0 : Int32) (x1 : Int32) (x2 : Int32) (H : Hp) (q : Int32) (h : f_X7_within x0 x1 x2 = some q) {post : Option Value → Hp → Prop} (hp : post (some (.int q)) H) : Sem D mdX7_within [.int x0, .int x1, .int x2] H post := by
  refine sem_of (own := RX7) rfl pn_RX7 (Nat.le_of_ble_eq_true rfl) [.int x0, .int x1, .int x2] ⟨Or.inr rfl, Or.inr rfl, Or.inr rfl, trivial⟩ ?_
  unfold f_X7_within at h
  refine st_iload_n dX7_within_0 rfl rfl ?_
  refine st_iload_n dX7_within_1 rfl rfl ?_
  have kj2 : ∀ z1 : Int32, z1 = ((if x0 < x1 then 0 else (if x2 < x0 then 0 else 1)) : Int32) → V D RX7 mdX7_within 15 [.null, .null, .null] [.int z1] H post := by
    intro z1 ez1
    subst ez1
    obtain rfl := Option.some.inj h
    exact st_zret dX7_within_15 rfl (by first | rfl | (split <;> rfl) | (repeat (first | rfl | split))) hp
  refine st_ic_lt dX7_within_2 14 (by decide) (fun c3 => ?_) (fun c3 => ?_)
  · refine st_iconst dX7_within_14 (v := 0) rfl ?_
    exact st_sub [.null, .null, .null] ⟨Or.inl rfl, Or.inl rfl, Or.inl rfl, trivial⟩ (kj2 _ (Eq.symm (if_pos c3)))
  · refine st_iload_n dX7_within_5 rfl rfl ?_
    refine st_iload_n dX7_within_6 rfl rfl ?_
    refine st_ic_gt dX7_within_7 14 (by decide) (fun c4 => ?_) (fun c4 => ?_)
    · refine st_iconst dX7_within_14 (v := 0) rfl ?_
      exact st_sub [.null, .null, .null] ⟨Or.inl rfl, Or.inl rfl, Or.inl rfl, trivial⟩ (kj2 _ (Eq.symm ((if_neg c3).trans (if_pos c4))))
    · refine st_iconst dX7_within_10 (v := 1) rfl ?_
      refine st_goto dX7_within_11 15 (by decide) ?_
      exact st_sub [.null, .null, .null] ⟨Or.inl rfl, Or.inl rfl, Or.inl rfl, trivial⟩ (kj2 _ (Eq.symm ((if_neg c3).trans (if_neg c4))))
def f_X5_lay_l17 (x1 : Int32) (x3 : Int32) : Nat → Int32 → Hp → Option (Hp)
  | 0, _, _ => none
  | n + 1, x4, H =>
    if x3 ≤ x4 then
      some H
    else
      (as H 4 320 ((x1 * 40) + x4) 0).bind fun H3 =>
      f_X5_lay_l17 x1 x3 n (x4 + 1) H3
def f_X5_lay (x1 : Int32) (x2 : Int32) (x3 : Int32) (H : Hp) : Option (Hp) :=
  (as H 2 8 x1 x2).bind fun H1 =>
  (as H1 3 8 x1 x3).bind fun H2 =>
  (f_X5_lay_l17 x1 x3 fuel 0 H2).bind fun l5 =>
  some l5
set_option maxHeartbeats 4000000 in
set_option maxRecDepth 100000 in
theorem k_X5_lay_l17 {D : Nat} (hD : 0 ≤ D) (x1 : Int32) (x3 : Int32) {post : Option Value → Hp → Prop} : ∀ (n : Nat) (x4 : Int32) (H : Hp) (q : Hp), f_X5_lay_l17 x1 x3 n x4 H = some q → V D RX5 mdX5_lay 42 [.null, .null, .null, .null, .null] [] q post → V D RX5 mdX5_lay 17 [.ref 1, .int x1, .null, .int x3, .int x4] [] H post := by
  intro n
  induction n with
  | zero => intro x4 H q h; simp [f_X5_lay_l17] at h
  | succ n ih =>
    intro x4 H q h k1
    rw [f_X5_lay_l17] at h
    refine st_iload dX5_lay_17 rfl ?_
    refine st_iload_n dX5_lay_19 rfl rfl ?_
    refine st_ic_ge dX5_lay_20 42 (by decide) (fun c4 => ?_) (fun c4 => ?_)
    · replace h := (if_pos c4).symm.trans h
      obtain rfl := Option.some.inj h
      exact st_sub [.null, .null, .null, .null, .null] ⟨Or.inl rfl, Or.inl rfl, Or.inl rfl, Or.inl rfl, Or.inl rfl, trivial⟩ k1
    · replace h := (if_neg c4).symm.trans h
      refine st_aload_n dX5_lay_23 rfl rfl ?_
      refine gR5 dX5_lay_24 (by decide) rfl 2 (by decide) fl_RX5_16 rfl 4 rfl ?_
      refine st_iload_n dX5_lay_27 rfl rfl ?_
      refine st_bipush dX5_lay_28 (v := 40) (by decide) ?_
      refine st_imul dX5_lay_30 ?_
      refine st_iload dX5_lay_31 rfl ?_
      refine st_iadd dX5_lay_33 ?_
      refine st_iconst dX5_lay_34 (v := 0) rfl ?_
      obtain ⟨H3, e_H3, h⟩ := bnd h
      refine st_iast dX5_lay_35 (by decide) rfl H3 e_H3 ?_
      refine st_iinc dX5_lay_36 rfl (v := (x4 + 1)) rfl (by decide) [.ref 1, .int x1, .null, .int x3, .int (x4 + 1)] rfl ?_
      refine st_goto dX5_lay_39 17 (by decide) ?_
      exact ih (x4 + 1) H3 q h k1
set_option maxHeartbeats 4000000 in
set_option maxRecDepth 100000 in
theorem k_X5_lay {D : Nat} (hD : 0 ≤ D) (x1 : Int32) (x2 : Int32) (x3 : Int32) (H : Hp) (q : Hp) (h : f_X5_lay x1 x2 x3 H = some q) {post : Option Value → Hp → Prop} (hp : post none q) : Sem D mdX5_lay [.ref 1, .int x1, .int x2, .int x3] H post := by
  refine sem_of (own := RX5) rfl pn_RX5 (Nat.le_of_ble_eq_true rfl) [.ref 1, .int x1, .int x2, .int x3, .null] ⟨Or.inr rfl, Or.inr rfl, Or.inr rfl, Or.inr rfl, rfl, trivial⟩ ?_
  unfold f_X5_lay at h
  refine st_aload_n dX5_lay_0 rfl rfl ?_
  refine gR5 dX5_lay_1 (by decide) rfl 0 (by decide) fl_RX5_9 rfl 2 rfl ?_
  refine st_iload_n dX5_lay_4 rfl rfl ?_
  refine st_iload_n dX5_lay_5 rfl rfl ?_
  obtain ⟨H1, e_H1, h⟩ := bnd h
  refine st_iast dX5_lay_6 (by decide) rfl H1 e_H1 ?_
  refine st_aload_n dX5_lay_7 rfl rfl ?_
  refine gR5 dX5_lay_8 (by decide) rfl 1 (by decide) fl_RX5_13 rfl 3 rfl ?_
  refine st_iload_n dX5_lay_11 rfl rfl ?_
  refine st_iload_n dX5_lay_12 rfl rfl ?_
  obtain ⟨H2, e_H2, h⟩ := bnd h
  refine st_iast dX5_lay_13 (by decide) rfl H2 e_H2 ?_
  refine st_iconst dX5_lay_14 (v := 0) rfl ?_
  refine st_istore dX5_lay_15 (by decide) [.ref 1, .int x1, .int x2, .int x3, .int 0] rfl ?_
  refine st_sub [.ref 1, .int x1, .null, .int x3, .int 0] ⟨Or.inr rfl, Or.inr rfl, Or.inl rfl, Or.inr rfl, Or.inr rfl, trivial⟩ ?_
  obtain ⟨l5, e_l5, h⟩ := bnd h
  refine k_X5_lay_l17 (by omega) x1 x3 fuel 0 H2 _ e_l5 ?_
  obtain rfl := Option.some.inj h
  exact st_vret dX5_lay_42 rfl hp
def f_X7_unmarred (x1 : Int32) (H : Hp) : Option (Int32 × Hp) :=
  (pf H 0 10 0).bind fun H1 =>
  some (x1, H1)
set_option maxHeartbeats 4000000 in
set_option maxRecDepth 100000 in
theorem k_X7_unmarred {D : Nat} (hD : 0 ≤ D) (x1 : Int32) (H : Hp) (q : Int32 × Hp) (h : f_X7_unmarred x1 H = some q) {post : Option Value → Hp → Prop} (hp : post (some (.int q.1)) q.2) : Sem D mdX7_unmarred [.ref 0, .int x1] H post := by
  refine sem_of (own := RX7) rfl pn_RX7 (Nat.le_of_ble_eq_true rfl) [.ref 0, .int x1] ⟨Or.inr rfl, Or.inr rfl, trivial⟩ ?_
  unfold f_X7_unmarred at h
  refine st_aload_n dX7_unmarred_0 rfl rfl ?_
  refine st_iconst dX7_unmarred_1 (v := 0) rfl ?_
  obtain ⟨H1, e_H1, h⟩ := bnd h
  refine pI7 dX7_unmarred_2 (by decide) rfl 10 (by decide) fl_RX7_315 rfl rfl rfl rfl e_H1 ?_
  refine st_iload_n dX7_unmarred_5 rfl rfl ?_
  obtain rfl := Option.some.inj h
  exact st_iret dX7_unmarred_6 rfl hp
def f_X7_found (x1 : Int32) (H : Hp) : Option (Int32 × Hp) :=
  (pf H 0 10 x1).bind fun H1 =>
  some (((-1000010) - x1), H1)
set_option maxHeartbeats 4000000 in
set_option maxRecDepth 100000 in
theorem k_X7_found {D : Nat} (hD : 0 ≤ D) (x1 : Int32) (H : Hp) (q : Int32 × Hp) (h : f_X7_found x1 H = some q) {post : Option Value → Hp → Prop} (hp : post (some (.int q.1)) q.2) : Sem D mdX7_found [.ref 0, .int x1] H post := by
  refine sem_of (own := RX7) rfl pn_RX7 (Nat.le_of_ble_eq_true rfl) [.ref 0, .int x1] ⟨Or.inr rfl, Or.inr rfl, trivial⟩ ?_
  unfold f_X7_found at h
  refine st_aload_n dX7_found_0 rfl rfl ?_
  refine st_iload_n dX7_found_1 rfl rfl ?_
  obtain ⟨H1, e_H1, h⟩ := bnd h
  refine pI7 dX7_found_2 (by decide) rfl 10 (by decide) fl_RX7_315 rfl rfl rfl rfl e_H1 ?_
  refine st_ldcw dX7_found_5 cn_RX7_321 ?_
  refine st_iload_n dX7_found_8 rfl rfl ?_
  refine st_isub dX7_found_9 ?_
  obtain rfl := Option.some.inj h
  exact st_iret dX7_found_10 rfl hp
def f_X7_row (x1 : Int32) (x2 : Int32) (x3 : Int32) (H : Hp) : Option (Int32 × Hp) :=
  (f_X5_isRow x1).bind fun v1 =>
  if v1 = 0 then
    some ((-1000001), H)
  else
    (f_X7_within x2 0 2).bind fun v2 =>
    if v2 = 0 then
      some ((-1000001), H)
    else
      if x3 ≤ 40 then
        if 0 ≤ x3 then
          (f_X5_lay x1 x2 x3 H).bind fun H3 =>
          (f_X7_unmarred x3 H3).bind fun q4 =>
          some (q4.1, q4.2)
        else
          (f_X7_found 4 H).bind fun q5 =>
          some (q5.1, q5.2)
      else
        some ((-1000001), H)
set_option maxHeartbeats 4000000 in
set_option maxRecDepth 100000 in
theorem k_X7_row {D : Nat} (hD : 1 ≤ D) (x1 : Int32) (x2 : Int32) (x3 : Int32) (H : Hp) (q : Int32 × Hp) (h : f_X7_row x1 x2 x3 H = some q) {post : Option Value → Hp → Prop} (hp : post (some (.int q.1)) q.2) : Sem D mdX7_row [.ref 0, .int x1, .int x2, .int x3] H post := by
  obtain ⟨D, rfl⟩ : ∃ E, D = E + 1 := ⟨D - 1, by omega⟩
  refine sem_of (own := RX7) rfl pn_RX7 (Nat.le_of_ble_eq_true rfl) [.ref 0, .int x1, .int x2, .int x3] ⟨Or.inr rfl, Or.inr rfl, Or.inr rfl, Or.inr rfl, trivial⟩ ?_
  unfold f_X7_row at h
  refine st_iload_n dX7_row_0 rfl rfl ?_
  obtain ⟨v1, e_v1, h⟩ := bnd h
  refine st_callS [.int x1] dX7_row_1 co_X5_isRow sm_X5_isRow ml_RX7_69 rfl (S := []) rfl (Nat.le_of_ble_eq_true rfl) (k_X5_isRow (by omega) x1 H _ e_v1 ?_)
  show V (D + 1) RX7 mdX7_row 4 [.ref 0, .int x1, .int x2, .int x3] [.int v1] H post
  refine st_if_eq dX7_row_4 22 (by decide) (fun c6 => ?_) (fun c6 => ?_)
  · replace h := (if_pos c6).symm.trans h
    refine st_ldc dX7_row_22 cn_RX7_77 ?_
    obtain rfl := Option.some.inj h
    exact st_iret dX7_row_24 rfl hp
  · replace h := (if_neg c6).symm.trans h
    refine st_iload_n dX7_row_7 rfl rfl ?_
    refine st_iconst dX7_row_8 (v := 0) rfl ?_
    refine st_iconst dX7_row_9 (v := 2) rfl ?_
    obtain ⟨v2, e_v2, h⟩ := bnd h
    refine st_callS [.int x2, .int 0, .int 2] dX7_row_10 co_X7_within sm_X7_within ml_RX7_73 rfl (S := []) rfl (Nat.le_of_ble_eq_true rfl) (k_X7_within (by omega) x2 0 2 H _ e_v2 ?_)
    show V (D + 1) RX7 mdX7_row 13 [.ref 0, .int x1, .int x2, .int x3] [.int v2] H post
    refine st_if_eq dX7_row_13 22 (by decide) (fun c7 => ?_) (fun c7 => ?_)
    · replace h := (if_pos c7).symm.trans h
      refine st_ldc dX7_row_22 cn_RX7_77 ?_
      obtain rfl := Option.some.inj h
      exact st_iret dX7_row_24 rfl hp
    · replace h := (if_neg c7).symm.trans h
      refine st_iload_n dX7_row_16 rfl rfl ?_
      refine st_bipush dX7_row_17 (v := 40) (by decide) ?_
      refine st_ic_le dX7_row_19 25 (by decide) (fun c8 => ?_) (fun c8 => ?_)
      · replace h := (if_pos c8).symm.trans h
        refine st_iload_n dX7_row_25 rfl rfl ?_
        refine st_if_ge dX7_row_26 35 (by decide) (fun c9 => ?_) (fun c9 => ?_)
        · replace h := (if_pos c9).symm.trans h
          refine st_aload_n dX7_row_35 rfl rfl ?_
          refine gR7 dX7_row_36 (by decide) rfl 0 (by decide) fl_RX7_10 rfl 1 rfl ?_
          refine st_iload_n dX7_row_39 rfl rfl ?_
          refine st_iload_n dX7_row_40 rfl rfl ?_
          refine st_iload_n dX7_row_41 rfl rfl ?_
          obtain ⟨H3, e_H3, h⟩ := bnd h
          refine st_callV [.int x1, .int x2, .int x3] dX7_row_42 co_X5_lay im_X5_lay se_X5_lay ml_RX7_82 rfl (by decide) rfl (rfl : classes[5]? = some (RX5, TX5, 3)) rfl (S := []) rfl (Nat.le_of_ble_eq_true rfl) (k_X5_lay (by omega) x1 x2 x3 H _ e_H3 ?_)
          show V (D + 1) RX7 mdX7_row 45 [.ref 0, .int x1, .int x2, .int x3] [] H3 post
          refine st_aload_n dX7_row_45 rfl rfl ?_
          refine st_iload_n dX7_row_46 rfl rfl ?_
          obtain ⟨q4, e_q4, h⟩ := bnd h
          refine st_callV [.int x3] dX7_row_47 co_X7_unmarred im_X7_unmarred se_X7_unmarred ml_RX7_86 rfl (by decide) rfl (rfl : classes[7]? = some (RX7, TX7, 11)) rfl (S := []) rfl (Nat.le_of_ble_eq_true rfl) (k_X7_unmarred (by omega) x3 H3 _ e_q4 ?_)
          show V (D + 1) RX7 mdX7_row 50 [.ref 0, .int x1, .int x2, .int x3] [.int q4.1] q4.2 post
          obtain rfl := Option.some.inj h
          exact st_iret dX7_row_50 rfl hp
        · replace h := (if_neg c9).symm.trans h
          refine st_aload_n dX7_row_29 rfl rfl ?_
          refine st_iconst dX7_row_30 (v := 4) rfl ?_
          obtain ⟨q5, e_q5, h⟩ := bnd h
          refine st_callV [.int 4] dX7_row_31 co_X7_found im_X7_found se_X7_found ml_RX7_78 rfl (by decide) rfl (rfl : classes[7]? = some (RX7, TX7, 11)) rfl (S := []) rfl (Nat.le_of_ble_eq_true rfl) (k_X7_found (by omega) 4 H _ e_q5 ?_)
          show V (D + 1) RX7 mdX7_row 34 [.ref 0, .int x1, .int x2, .int x3] [.int q5.1] q5.2 post
          obtain rfl := Option.some.inj h
          exact st_iret dX7_row_34 rfl hp
      · replace h := (if_neg c8).symm.trans h
        refine st_ldc dX7_row_22 cn_RX7_77 ?_
        obtain rfl := Option.some.inj h
        exact st_iret dX7_row_24 rfl hp
def f_X5_isMissing (x1 : Int32) (H : Hp) : Option (Int32) :=
  (ag H 2 8 x1).bind fun v1 =>
  some ((if v1 = (-1) then 1 else 0) : Int32)
set_option maxHeartbeats 4000000 in
set_option maxRecDepth 100000 in
theorem k_X5_isMissing {D : Nat} (hD : 0 ≤ D) (x1 : Int32) (H : Hp) (q : Int32) (h : f_X5_isMissing x1 H = some q) {post : Option Value → Hp → Prop} (hp : post (some (.int q)) H) : Sem D mdX5_isMissing [.ref 1, .int x1] H post := by
  refine sem_of (own := RX5) rfl pn_RX5 (Nat.le_of_ble_eq_true rfl) [.ref 1, .int x1] ⟨Or.inr rfl, Or.inr rfl, trivial⟩ ?_
  unfold f_X5_isMissing at h
  refine st_aload_n dX5_isMissing_0 rfl rfl ?_
  refine gR5 dX5_isMissing_1 (by decide) rfl 0 (by decide) fl_RX5_9 rfl 2 rfl ?_
  refine st_iload_n dX5_isMissing_4 rfl rfl ?_
  obtain ⟨v1, e_v1, h⟩ := bnd h
  refine st_iald dX5_isMissing_5 (by decide) rfl v1 e_v1 ?_
  refine st_iconst dX5_isMissing_6 (v := (-1)) rfl ?_
  have kj3 : ∀ z2 : Int32, z2 = ((if v1 = (-1) then 1 else 0) : Int32) → V D RX5 mdX5_isMissing 15 [.null, .null] [.int z2] H post := by
    intro z2 ez2
    subst ez2
    obtain rfl := Option.some.inj h
    exact st_zret dX5_isMissing_15 rfl (by first | rfl | (split <;> rfl) | (repeat (first | rfl | split))) hp
  refine st_ic_ne dX5_isMissing_7 14 (by decide) (fun c4 => ?_) (fun c4 => ?_)
  · refine st_iconst dX5_isMissing_14 (v := 0) rfl ?_
    exact st_sub [.null, .null] ⟨Or.inl rfl, Or.inl rfl, trivial⟩ (kj3 _ (Eq.symm (if_neg c4)))
  · refine st_iconst dX5_isMissing_10 (v := 1) rfl ?_
    refine st_goto dX5_isMissing_11 15 (by decide) ?_
    exact st_sub [.null, .null] ⟨Or.inl rfl, Or.inl rfl, trivial⟩ (kj3 _ (Eq.symm (if_pos c4)))
def f_X5_hasPlaces (x1 : Int32) (x2 : Int32) (x3 : Int32) (H : Hp) : Option (Int32) :=
  Option.bind (
    if x2 < 0 then
      some 0
    else
      if x3 < 0 then
        some 0
      else
        (ag H 3 8 x1).bind fun v1 =>
        if (v1 - x3) < x2 then
          some 0
        else
          some 1) fun j2 =>
  zr j2
set_option maxHeartbeats 4000000 in
set_option maxRecDepth 100000 in
theorem k_X5_hasPlaces {D : Nat} (hD : 0 ≤ D) (x1 : Int32) (x2 : Int32) (x3 : Int32) (H : Hp) (q : Int32) (h : f_X5_hasPlaces x1 x2 x3 H = some q) {post : Option Value → Hp → Prop} (hp : post (some (.int q)) H) : Sem D mdX5_hasPlaces [.ref 1, .int x1, .int x2, .int x3] H post := by
  refine sem_of (own := RX5) rfl pn_RX5 (Nat.le_of_ble_eq_true rfl) [.ref 1, .int x1, .int x2, .int x3] ⟨Or.inr rfl, Or.inr rfl, Or.inr rfl, Or.inr rfl, trivial⟩ ?_
  unfold f_X5_hasPlaces at h
  refine st_iload_n dX5_hasPlaces_0 rfl rfl ?_
  obtain ⟨j2, e_j2, h⟩ := bnd h
  have kj3 : V D RX5 mdX5_hasPlaces 25 [.null, .null, .null, .null] [.int j2] H post := by
    obtain ⟨rfl, hz⟩ := zr_some h
    exact st_zret dX5_hasPlaces_25 rfl hz hp
  refine st_if_lt dX5_hasPlaces_1 24 (by decide) (fun c4 => ?_) (fun c4 => ?_)
  · replace e_j2 := (if_pos c4).symm.trans e_j2
    refine st_iconst dX5_hasPlaces_24 (v := 0) rfl ?_
    obtain rfl := Option.some.inj e_j2
    exact st_sub [.null, .null, .null, .null] ⟨Or.inl rfl, Or.inl rfl, Or.inl rfl, Or.inl rfl, trivial⟩ kj3
  · replace e_j2 := (if_neg c4).symm.trans e_j2
    refine st_iload_n dX5_hasPlaces_4 rfl rfl ?_
    refine st_if_lt dX5_hasPlaces_5 24 (by decide) (fun c5 => ?_) (fun c5 => ?_)
    · replace e_j2 := (if_pos c5).symm.trans e_j2
      refine st_iconst dX5_hasPlaces_24 (v := 0) rfl ?_
      obtain rfl := Option.some.inj e_j2
      exact st_sub [.null, .null, .null, .null] ⟨Or.inl rfl, Or.inl rfl, Or.inl rfl, Or.inl rfl, trivial⟩ kj3
    · replace e_j2 := (if_neg c5).symm.trans e_j2
      refine st_iload_n dX5_hasPlaces_8 rfl rfl ?_
      refine st_aload_n dX5_hasPlaces_9 rfl rfl ?_
      refine gR5 dX5_hasPlaces_10 (by decide) rfl 1 (by decide) fl_RX5_13 rfl 3 rfl ?_
      refine st_iload_n dX5_hasPlaces_13 rfl rfl ?_
      obtain ⟨v1, e_v1, e_j2⟩ := bnd e_j2
      refine st_iald dX5_hasPlaces_14 (by decide) rfl v1 e_v1 ?_
      refine st_iload_n dX5_hasPlaces_15 rfl rfl ?_
      refine st_isub dX5_hasPlaces_16 ?_
      refine st_ic_gt dX5_hasPlaces_17 24 (by decide) (fun c6 => ?_) (fun c6 => ?_)
      · replace e_j2 := (if_pos c6).symm.trans e_j2
        refine st_iconst dX5_hasPlaces_24 (v := 0) rfl ?_
        obtain rfl := Option.some.inj e_j2
        exact st_sub [.null, .null, .null, .null] ⟨Or.inl rfl, Or.inl rfl, Or.inl rfl, Or.inl rfl, trivial⟩ kj3
      · replace e_j2 := (if_neg c6).symm.trans e_j2
        refine st_iconst dX5_hasPlaces_20 (v := 1) rfl ?_
        refine st_goto dX5_hasPlaces_21 25 (by decide) ?_
        obtain rfl := Option.some.inj e_j2
        exact st_sub [.null, .null, .null, .null] ⟨Or.inl rfl, Or.inl rfl, Or.inl rfl, Or.inl rfl, trivial⟩ kj3
def f_X5_store (x1 : Int32) (x2 : Int32) (x3 : Int32) (H : Hp) : Option (Int32 × Hp) :=
  (ag H 2 8 x1).bind fun v1 =>
  Option.bind (
    if v1 = 0 then
      some x3.toInt8.toInt32
    else
      (ag H 2 8 x1).bind fun v2 =>
      if v2 = 1 then
        some x3.toInt16.toInt32
      else
        some x3) fun j3 =>
  (as H 4 320 ((x1 * 40) + x2) j3).bind fun H4 =>
  some (j3, H4)
set_option maxHeartbeats 4000000 in
set_option maxRecDepth 100000 in
theorem k_X5_store {D : Nat} (hD : 0 ≤ D) (x1 : Int32) (x2 : Int32) (x3 : Int32) (H : Hp) (q : Int32 × Hp) (h : f_X5_store x1 x2 x3 H = some q) {post : Option Value → Hp → Prop} (hp : post (some (.int q.1)) q.2) : Sem D mdX5_store [.ref 1, .int x1, .int x2, .int x3] H post := by
  refine sem_of (own := RX5) rfl pn_RX5 (Nat.le_of_ble_eq_true rfl) [.ref 1, .int x1, .int x2, .int x3, .null] ⟨Or.inr rfl, Or.inr rfl, Or.inr rfl, Or.inr rfl, rfl, trivial⟩ ?_
  unfold f_X5_store at h
  refine st_iload_n dX5_store_0 rfl rfl ?_
  refine st_istore dX5_store_1 (by decide) [.ref 1, .int x1, .int x2, .int x3, .int x3] rfl ?_
  refine st_aload_n dX5_store_3 rfl rfl ?_
  refine gR5 dX5_store_4 (by decide) rfl 0 (by decide) fl_RX5_9 rfl 2 rfl ?_
  refine st_iload_n dX5_store_7 rfl rfl ?_
  obtain ⟨v1, e_v1, h⟩ := bnd h
  refine st_iald dX5_store_8 (by decide) rfl v1 e_v1 ?_
  obtain ⟨j3, e_j3, h⟩ := bnd h
  have kj5 : V D RX5 mdX5_store 33 [.ref 1, .int x1, .int x2, .null, .int j3] [] H post := by
    refine st_aload_n dX5_store_33 rfl rfl ?_
    refine gR5 dX5_store_34 (by decide) rfl 2 (by decide) fl_RX5_16 rfl 4 rfl ?_
    refine st_iload_n dX5_store_37 rfl rfl ?_
    refine st_bipush dX5_store_38 (v := 40) (by decide) ?_
    refine st_imul dX5_store_40 ?_
    refine st_iload_n dX5_store_41 rfl rfl ?_
    refine st_iadd dX5_store_42 ?_
    refine st_iload dX5_store_43 rfl ?_
    obtain ⟨H4, e_H4, h⟩ := bnd h
    refine st_iast dX5_store_45 (by decide) rfl H4 e_H4 ?_
    refine st_iload dX5_store_46 rfl ?_
    obtain rfl := Option.some.inj h
    exact st_iret dX5_store_48 rfl hp
  refine st_if_ne dX5_store_9 19 (by decide) (fun c6 => ?_) (fun c6 => ?_)
  · replace e_j3 := (if_neg c6).symm.trans e_j3
    refine st_aload_n dX5_store_19 rfl rfl ?_
    refine gR5 dX5_store_20 (by decide) rfl 0 (by decide) fl_RX5_9 rfl 2 rfl ?_
    refine st_iload_n dX5_store_23 rfl rfl ?_
    obtain ⟨v2, e_v2, e_j3⟩ := bnd e_j3
    refine st_iald dX5_store_24 (by decide) rfl v2 e_v2 ?_
    refine st_iconst dX5_store_25 (v := 1) rfl ?_
    refine st_ic_ne dX5_store_26 33 (by decide) (fun c7 => ?_) (fun c7 => ?_)
    · replace e_j3 := (if_neg c7).symm.trans e_j3
      obtain rfl := Option.some.inj e_j3
      exact st_sub [.ref 1, .int x1, .int x2, .null, .int x3] ⟨Or.inr rfl, Or.inr rfl, Or.inr rfl, Or.inl rfl, Or.inr rfl, trivial⟩ kj5
    · replace e_j3 := (if_pos c7).symm.trans e_j3
      refine st_iload_n dX5_store_29 rfl rfl ?_
      refine st_i2s dX5_store_30 ?_
      refine st_istore dX5_store_31 (by decide) [.ref 1, .int x1, .int x2, .int x3, .int x3.toInt16.toInt32] rfl ?_
      obtain rfl := Option.some.inj e_j3
      exact st_sub [.ref 1, .int x1, .int x2, .null, .int x3.toInt16.toInt32] ⟨Or.inr rfl, Or.inr rfl, Or.inr rfl, Or.inl rfl, Or.inr rfl, trivial⟩ kj5
  · replace e_j3 := (if_pos c6).symm.trans e_j3
    refine st_iload_n dX5_store_12 rfl rfl ?_
    refine st_i2b dX5_store_13 ?_
    refine st_istore dX5_store_14 (by decide) [.ref 1, .int x1, .int x2, .int x3, .int x3.toInt8.toInt32] rfl ?_
    refine st_goto dX5_store_16 33 (by decide) ?_
    obtain rfl := Option.some.inj e_j3
    exact st_sub [.ref 1, .int x1, .int x2, .null, .int x3.toInt8.toInt32] ⟨Or.inr rfl, Or.inr rfl, Or.inr rfl, Or.inl rfl, Or.inr rfl, trivial⟩ kj5
def f_X7_set (x1 : Int32) (x2 : Int32) (x3 : Int32) (H : Hp) : Option (Int32 × Hp) :=
  (f_X5_isRow x1).bind fun v1 =>
  if v1 = 0 then
    some ((-1000001), H)
  else
    (f_X5_isMissing x1 H).bind fun v2 =>
    if v2 = 0 then
      (f_X5_hasPlaces x1 x2 1 H).bind fun v3 =>
      if v3 = 0 then
        (f_X7_found 2 H).bind fun q4 =>
        some (q4.1, q4.2)
      else
        (f_X5_store x1 x2 x3 H).bind fun q5 =>
        (f_X7_unmarred q5.1 q5.2).bind fun q6 =>
        some (q6.1, q6.2)
    else
      (f_X7_found 1 H).bind fun q7 =>
      some (q7.1, q7.2)
set_option maxHeartbeats 4000000 in
set_option maxRecDepth 100000 in
theorem k_X7_set {D : Nat} (hD : 1 ≤ D) (x1 : Int32) (x2 : Int32) (x3 : Int32) (H : Hp) (q : Int32 × Hp) (h : f_X7_set x1 x2 x3 H = some q) {post : Option Value → Hp → Prop} (hp : post (some (.int q.1)) q.2) : Sem D mdX7_set [.ref 0, .int x1, .int x2, .int x3] H post := by
  obtain ⟨D, rfl⟩ : ∃ E, D = E + 1 := ⟨D - 1, by omega⟩
  refine sem_of (own := RX7) rfl pn_RX7 (Nat.le_of_ble_eq_true rfl) [.ref 0, .int x1, .int x2, .int x3] ⟨Or.inr rfl, Or.inr rfl, Or.inr rfl, Or.inr rfl, trivial⟩ ?_
  unfold f_X7_set at h
  refine st_iload_n dX7_set_0 rfl rfl ?_
  obtain ⟨v1, e_v1, h⟩ := bnd h
  refine st_callS [.int x1] dX7_set_1 co_X5_isRow sm_X5_isRow ml_RX7_69 rfl (S := []) rfl (Nat.le_of_ble_eq_true rfl) (k_X5_isRow (by omega) x1 H _ e_v1 ?_)
  show V (D + 1) RX7 mdX7_set 4 [.ref 0, .int x1, .int x2, .int x3] [.int v1] H post
  refine st_if_ne dX7_set_4 10 (by decide) (fun c8 => ?_) (fun c8 => ?_)
  · replace h := (if_neg c8).symm.trans h
    refine st_aload_n dX7_set_10 rfl rfl ?_
    refine gR7 dX7_set_11 (by decide) rfl 0 (by decide) fl_RX7_10 rfl 1 rfl ?_
    refine st_iload_n dX7_set_14 rfl rfl ?_
    obtain ⟨v2, e_v2, h⟩ := bnd h
    refine st_callV [.int x1] dX7_set_15 co_X5_isMissing im_X5_isMissing se_X5_isMissing ml_RX7_89 rfl (by decide) rfl (rfl : classes[5]? = some (RX5, TX5, 3)) rfl (S := []) rfl (Nat.le_of_ble_eq_true rfl) (k_X5_isMissing (by omega) x1 H _ e_v2 ?_)
    show V (D + 1) RX7 mdX7_set 18 [.ref 0, .int x1, .int x2, .int x3] [.int v2] H post
    refine st_if_eq dX7_set_18 27 (by decide) (fun c9 => ?_) (fun c9 => ?_)
    · replace h := (if_pos c9).symm.trans h
      refine st_aload_n dX7_set_27 rfl rfl ?_
      refine gR7 dX7_set_28 (by decide) rfl 0 (by decide) fl_RX7_10 rfl 1 rfl ?_
      refine st_iload_n dX7_set_31 rfl rfl ?_
      refine st_iload_n dX7_set_32 rfl rfl ?_
      refine st_iconst dX7_set_33 (v := 1) rfl ?_
      obtain ⟨v3, e_v3, h⟩ := bnd h
      refine st_callV [.int x1, .int x2, .int 1] dX7_set_34 co_X5_hasPlaces im_X5_hasPlaces se_X5_hasPlaces ml_RX7_92 rfl (by decide) rfl (rfl : classes[5]? = some (RX5, TX5, 3)) rfl (S := []) rfl (Nat.le_of_ble_eq_true rfl) (k_X5_hasPlaces (by omega) x1 x2 1 H _ e_v3 ?_)
      show V (D + 1) RX7 mdX7_set 37 [.ref 0, .int x1, .int x2, .int x3] [.int v3] H post
      refine st_if_ne dX7_set_37 46 (by decide) (fun c10 => ?_) (fun c10 => ?_)
      · replace h := (if_neg c10).symm.trans h
        refine st_aload_n dX7_set_46 rfl rfl ?_
        refine st_aload_n dX7_set_47 rfl rfl ?_
        refine gR7 dX7_set_48 (by decide) rfl 0 (by decide) fl_RX7_10 rfl 1 rfl ?_
        refine st_iload_n dX7_set_51 rfl rfl ?_
        refine st_iload_n dX7_set_52 rfl rfl ?_
        refine st_iload_n dX7_set_53 rfl rfl ?_
        obtain ⟨q5, e_q5, h⟩ := bnd h
        refine st_callV [.int x1, .int x2, .int x3] dX7_set_54 co_X5_store im_X5_store se_X5_store ml_RX7_95 rfl (by decide) rfl (rfl : classes[5]? = some (RX5, TX5, 3)) rfl (S := [.ref 0]) rfl (Nat.le_of_ble_eq_true rfl) (k_X5_store (by omega) x1 x2 x3 H _ e_q5 ?_)
        show V (D + 1) RX7 mdX7_set 57 [.ref 0, .int x1, .int x2, .int x3] [.int q5.1, .ref 0] q5.2 post
        obtain ⟨q6, e_q6, h⟩ := bnd h
        refine st_callV [.int q5.1] dX7_set_57 co_X7_unmarred im_X7_unmarred se_X7_unmarred ml_RX7_86 rfl (by decide) rfl (rfl : classes[7]? = some (RX7, TX7, 11)) rfl (S := []) rfl (Nat.le_of_ble_eq_true rfl) (k_X7_unmarred (by omega) q5.1 q5.2 _ e_q6 ?_)
        show V (D + 1) RX7 mdX7_set 60 [.ref 0, .int x1, .int x2, .int x3] [.int q6.1] q6.2 post
        obtain rfl := Option.some.inj h
        exact st_iret dX7_set_60 rfl hp
      · replace h := (if_pos c10).symm.trans h
        refine st_aload_n dX7_set_40 rfl rfl ?_
        refine st_iconst dX7_set_41 (v := 2) rfl ?_
        obtain ⟨q4, e_q4, h⟩ := bnd h
        refine st_callV [.int 2] dX7_set_42 co_X7_found im_X7_found se_X7_found ml_RX7_78 rfl (by decide) rfl (rfl : classes[7]? = some (RX7, TX7, 11)) rfl (S := []) rfl (Nat.le_of_ble_eq_true rfl) (k_X7_found (by omega) 2 H _ e_q4 ?_)
        show V (D + 1) RX7 mdX7_set 45 [.ref 0, .int x1, .int x2, .int x3] [.int q4.1] q4.2 post
        obtain rfl := Option.some.inj h
        exact st_iret dX7_set_45 rfl hp
    · replace h := (if_neg c9).symm.trans h
      refine st_aload_n dX7_set_21 rfl rfl ?_
      refine st_iconst dX7_set_22 (v := 1) rfl ?_
      obtain ⟨q7, e_q7, h⟩ := bnd h
      refine st_callV [.int 1] dX7_set_23 co_X7_found im_X7_found se_X7_found ml_RX7_78 rfl (by decide) rfl (rfl : classes[7]? = some (RX7, TX7, 11)) rfl (S := []) rfl (Nat.le_of_ble_eq_true rfl) (k_X7_found (by omega) 1 H _ e_q7 ?_)
      show V (D + 1) RX7 mdX7_set 26 [.ref 0, .int x1, .int x2, .int x3] [.int q7.1] q7.2 post
      obtain rfl := Option.some.inj h
      exact st_iret dX7_set_26 rfl hp
  · replace h := (if_pos c8).symm.trans h
    refine st_ldc dX7_set_7 cn_RX7_77 ?_
    obtain rfl := Option.some.inj h
    exact st_iret dX7_set_9 rfl hp
def f_X5_move (x1 : Int32) (x2 : Int32) (x3 : Int32) (x4 : Int32) (x5 : Int32) (H : Hp) : Option (Hp) :=
  (ac H 4 320 ((x1 * 40) + x2) 4 320 ((x3 * 40) + x4) x5).bind fun H1 =>
  some H1
set_option maxHeartbeats 4000000 in
set_option maxRecDepth 100000 in
theorem k_X5_move {D : Nat} (hD : 1 ≤ D) (x1 : Int32) (x2 : Int32) (x3 : Int32) (x4 : Int32) (x5 : Int32) (H : Hp) (q : Hp) (h : f_X5_move x1 x2 x3 x4 x5 H = some q) {post : Option Value → Hp → Prop} (hp : post none q) : Sem D mdX5_move [.ref 1, .int x1, .int x2, .int x3, .int x4, .int x5] H post := by
  obtain ⟨D, rfl⟩ : ∃ E, D = E + 1 := ⟨D - 1, by omega⟩
  refine sem_of (own := RX5) rfl pn_RX5 (Nat.le_of_ble_eq_true rfl) [.ref 1, .int x1, .int x2, .int x3, .int x4, .int x5] ⟨Or.inr rfl, Or.inr rfl, Or.inr rfl, Or.inr rfl, Or.inr rfl, Or.inr rfl, trivial⟩ ?_
  unfold f_X5_move at h
  refine st_aload_n dX5_move_0 rfl rfl ?_
  refine gR5 dX5_move_1 (by decide) rfl 2 (by decide) fl_RX5_16 rfl 4 rfl ?_
  refine st_iload_n dX5_move_4 rfl rfl ?_
  refine st_bipush dX5_move_5 (v := 40) (by decide) ?_
  refine st_imul dX5_move_7 ?_
  refine st_iload_n dX5_move_8 rfl rfl ?_
  refine st_iadd dX5_move_9 ?_
  refine st_aload_n dX5_move_10 rfl rfl ?_
  refine gR5 dX5_move_11 (by decide) rfl 2 (by decide) fl_RX5_16 rfl 4 rfl ?_
  refine st_iload_n dX5_move_14 rfl rfl ?_
  refine st_bipush dX5_move_15 (v := 40) (by decide) ?_
  refine st_imul dX5_move_17 ?_
  refine st_iload dX5_move_18 rfl ?_
  refine st_iadd dX5_move_20 ?_
  refine st_iload dX5_move_21 rfl ?_
  obtain ⟨H1, e_H1, h⟩ := bnd h
  refine st_copy dX5_move_23 (by omega) (by decide) rfl (by decide) rfl ml_RX5_19 w_acN w_acS w_acI (Nat.le_of_ble_eq_true rfl) H1 e_H1 ?_
  obtain rfl := Option.some.inj h
  exact st_vret dX5_move_26 rfl hp
def f_X7_copy (x1 : Int32) (x2 : Int32) (x3 : Int32) (x4 : Int32) (x5 : Int32) (H : Hp) : Option (Int32 × Hp) :=
  (f_X5_isRow x1).bind fun v1 =>
  if v1 = 0 then
    some ((-1000001), H)
  else
    (f_X5_isRow x3).bind fun v2 =>
    if v2 = 0 then
      some ((-1000001), H)
    else
      (f_X5_isMissing x1 H).bind fun v3 =>
      if v3 = 0 then
        (f_X5_isMissing x3 H).bind fun v4 =>
        if v4 = 0 then
          (ag H 2 8 x1).bind fun v5 =>
          (ag H 2 8 x3).bind fun v6 =>
          if v5 = v6 then
            (f_X5_hasPlaces x1 x2 x5 H).bind fun v7 =>
            if v7 = 0 then
              (f_X7_found 2 H).bind fun q8 =>
              some (q8.1, q8.2)
            else
              (f_X5_hasPlaces x3 x4 x5 H).bind fun v9 =>
              if v9 = 0 then
                (f_X7_found 2 H).bind fun q10 =>
                some (q10.1, q10.2)
              else
                (f_X5_move x1 x2 x3 x4 x5 H).bind fun H11 =>
                (f_X7_unmarred x5 H11).bind fun q12 =>
                some (q12.1, q12.2)
          else
            (f_X7_found 5 H).bind fun q13 =>
            some (q13.1, q13.2)
        else
          (f_X7_found 1 H).bind fun q14 =>
          some (q14.1, q14.2)
      else
        (f_X7_found 1 H).bind fun q15 =>
        some (q15.1, q15.2)
set_option maxHeartbeats 4000000 in
set_option maxRecDepth 100000 in
theorem k_X7_copy {D : Nat} (hD : 2 ≤ D) (x1 : Int32) (x2 : Int32) (x3 : Int32) (x4 : Int32) (x5 : Int32) (H : Hp) (q : Int32 × Hp) (h : f_X7_copy x1 x2 x3 x4 x5 H = some q) {post : Option Value → Hp → Prop} (hp : post (some (.int q.1)) q.2) : Sem D mdX7_copy [.ref 0, .int x1, .int x2, .int x3, .int x4, .int x5] H post := by
  obtain ⟨D, rfl⟩ : ∃ E, D = E + 1 := ⟨D - 1, by omega⟩
  refine sem_of (own := RX7) rfl pn_RX7 (Nat.le_of_ble_eq_true rfl) [.ref 0, .int x1, .int x2, .int x3, .int x4, .int x5] ⟨Or.inr rfl, Or.inr rfl, Or.inr rfl, Or.inr rfl, Or.inr rfl, Or.inr rfl, trivial⟩ ?_
  unfold f_X7_copy at h
  refine st_iload_n dX7_copy_0 rfl rfl ?_
  obtain ⟨v1, e_v1, h⟩ := bnd h
  refine st_callS [.int x1] dX7_copy_1 co_X5_isRow sm_X5_isRow ml_RX7_69 rfl (S := []) rfl (Nat.le_of_ble_eq_true rfl) (k_X5_isRow (by omega) x1 H _ e_v1 ?_)
  show V (D + 1) RX7 mdX7_copy 4 [.ref 0, .int x1, .int x2, .int x3, .int x4, .int x5] [.int v1] H post
  refine st_if_eq dX7_copy_4 14 (by decide) (fun c16 => ?_) (fun c16 => ?_)
  · replace h := (if_pos c16).symm.trans h
    refine st_ldc dX7_copy_14 cn_RX7_77 ?_
    obtain rfl := Option.some.inj h
    exact st_iret dX7_copy_16 rfl hp
  · replace h := (if_neg c16).symm.trans h
    refine st_iload_n dX7_copy_7 rfl rfl ?_
    obtain ⟨v2, e_v2, h⟩ := bnd h
    refine st_callS [.int x3] dX7_copy_8 co_X5_isRow sm_X5_isRow ml_RX7_69 rfl (S := []) rfl (Nat.le_of_ble_eq_true rfl) (k_X5_isRow (by omega) x3 H _ e_v2 ?_)
    show V (D + 1) RX7 mdX7_copy 11 [.ref 0, .int x1, .int x2, .int x3, .int x4, .int x5] [.int v2] H post
    refine st_if_ne dX7_copy_11 17 (by decide) (fun c17 => ?_) (fun c17 => ?_)
    · replace h := (if_neg c17).symm.trans h
      refine st_aload_n dX7_copy_17 rfl rfl ?_
      refine gR7 dX7_copy_18 (by decide) rfl 0 (by decide) fl_RX7_10 rfl 1 rfl ?_
      refine st_iload_n dX7_copy_21 rfl rfl ?_
      obtain ⟨v3, e_v3, h⟩ := bnd h
      refine st_callV [.int x1] dX7_copy_22 co_X5_isMissing im_X5_isMissing se_X5_isMissing ml_RX7_89 rfl (by decide) rfl (rfl : classes[5]? = some (RX5, TX5, 3)) rfl (S := []) rfl (Nat.le_of_ble_eq_true rfl) (k_X5_isMissing (by omega) x1 H _ e_v3 ?_)
      show V (D + 1) RX7 mdX7_copy 25 [.ref 0, .int x1, .int x2, .int x3, .int x4, .int x5] [.int v3] H post
      refine st_if_ne dX7_copy_25 39 (by decide) (fun c18 => ?_) (fun c18 => ?_)
      · replace h := (if_neg c18).symm.trans h
        refine st_aload_n dX7_copy_39 rfl rfl ?_
        refine st_iconst dX7_copy_40 (v := 1) rfl ?_
        obtain ⟨q15, e_q15, h⟩ := bnd h
        refine st_callV [.int 1] dX7_copy_41 co_X7_found im_X7_found se_X7_found ml_RX7_78 rfl (by decide) rfl (rfl : classes[7]? = some (RX7, TX7, 11)) rfl (S := []) rfl (Nat.le_of_ble_eq_true rfl) (k_X7_found (by omega) 1 H _ e_q15 ?_)
        show V (D + 1) RX7 mdX7_copy 44 [.ref 0, .int x1, .int x2, .int x3, .int x4, .int x5] [.int q15.1] q15.2 post
        obtain rfl := Option.some.inj h
        exact st_iret dX7_copy_44 rfl hp
      · replace h := (if_pos c18).symm.trans h
        refine st_aload_n dX7_copy_28 rfl rfl ?_
        refine gR7 dX7_copy_29 (by decide) rfl 0 (by decide) fl_RX7_10 rfl 1 rfl ?_
        refine st_iload_n dX7_copy_32 rfl rfl ?_
        obtain ⟨v4, e_v4, h⟩ := bnd h
        refine st_callV [.int x3] dX7_copy_33 co_X5_isMissing im_X5_isMissing se_X5_isMissing ml_RX7_89 rfl (by decide) rfl (rfl : classes[5]? = some (RX5, TX5, 3)) rfl (S := []) rfl (Nat.le_of_ble_eq_true rfl) (k_X5_isMissing (by omega) x3 H _ e_v4 ?_)
        show V (D + 1) RX7 mdX7_copy 36 [.ref 0, .int x1, .int x2, .int x3, .int x4, .int x5] [.int v4] H post
        refine st_if_eq dX7_copy_36 45 (by decide) (fun c19 => ?_) (fun c19 => ?_)
        · replace h := (if_pos c19).symm.trans h
          refine st_aload_n dX7_copy_45 rfl rfl ?_
          refine gR7 dX7_copy_46 (by decide) rfl 0 (by decide) fl_RX7_10 rfl 1 rfl ?_
          refine gR5 dX7_copy_49 (by decide) rfl 0 (by decide) fl_RX7_99 rfl 2 rfl ?_
          refine st_iload_n dX7_copy_52 rfl rfl ?_
          obtain ⟨v5, e_v5, h⟩ := bnd h
          refine st_iald dX7_copy_53 (by decide) rfl v5 e_v5 ?_
          refine st_aload_n dX7_copy_54 rfl rfl ?_
          refine gR7 dX7_copy_55 (by decide) rfl 0 (by decide) fl_RX7_10 rfl 1 rfl ?_
          refine gR5 dX7_copy_58 (by decide) rfl 0 (by decide) fl_RX7_99 rfl 2 rfl ?_
          refine st_iload_n dX7_copy_61 rfl rfl ?_
          obtain ⟨v6, e_v6, h⟩ := bnd h
          refine st_iald dX7_copy_62 (by decide) rfl v6 e_v6 ?_
          refine st_ic_eq dX7_copy_63 72 (by decide) (fun c20 => ?_) (fun c20 => ?_)
          · replace h := (if_pos c20).symm.trans h
            refine st_aload_n dX7_copy_72 rfl rfl ?_
            refine gR7 dX7_copy_73 (by decide) rfl 0 (by decide) fl_RX7_10 rfl 1 rfl ?_
            refine st_iload_n dX7_copy_76 rfl rfl ?_
            refine st_iload_n dX7_copy_77 rfl rfl ?_
            refine st_iload dX7_copy_78 rfl ?_
            obtain ⟨v7, e_v7, h⟩ := bnd h
            refine st_callV [.int x1, .int x2, .int x5] dX7_copy_80 co_X5_hasPlaces im_X5_hasPlaces se_X5_hasPlaces ml_RX7_92 rfl (by decide) rfl (rfl : classes[5]? = some (RX5, TX5, 3)) rfl (S := []) rfl (Nat.le_of_ble_eq_true rfl) (k_X5_hasPlaces (by omega) x1 x2 x5 H _ e_v7 ?_)
            show V (D + 1) RX7 mdX7_copy 83 [.ref 0, .int x1, .int x2, .int x3, .int x4, .int x5] [.int v7] H post
            refine st_if_eq dX7_copy_83 101 (by decide) (fun c21 => ?_) (fun c21 => ?_)
            · replace h := (if_pos c21).symm.trans h
              refine st_aload_n dX7_copy_101 rfl rfl ?_
              refine st_iconst dX7_copy_102 (v := 2) rfl ?_
              obtain ⟨q8, e_q8, h⟩ := bnd h
              refine st_callV [.int 2] dX7_copy_103 co_X7_found im_X7_found se_X7_found ml_RX7_78 rfl (by decide) rfl (rfl : classes[7]? = some (RX7, TX7, 11)) rfl (S := []) rfl (Nat.le_of_ble_eq_true rfl) (k_X7_found (by omega) 2 H _ e_q8 ?_)
              show V (D + 1) RX7 mdX7_copy 106 [.ref 0, .int x1, .int x2, .int x3, .int x4, .int x5] [.int q8.1] q8.2 post
              obtain rfl := Option.some.inj h
              exact st_iret dX7_copy_106 rfl hp
            · replace h := (if_neg c21).symm.trans h
              refine st_aload_n dX7_copy_86 rfl rfl ?_
              refine gR7 dX7_copy_87 (by decide) rfl 0 (by decide) fl_RX7_10 rfl 1 rfl ?_
              refine st_iload_n dX7_copy_90 rfl rfl ?_
              refine st_iload dX7_copy_91 rfl ?_
              refine st_iload dX7_copy_93 rfl ?_
              obtain ⟨v9, e_v9, h⟩ := bnd h
              refine st_callV [.int x3, .int x4, .int x5] dX7_copy_95 co_X5_hasPlaces im_X5_hasPlaces se_X5_hasPlaces ml_RX7_92 rfl (by decide) rfl (rfl : classes[5]? = some (RX5, TX5, 3)) rfl (S := []) rfl (Nat.le_of_ble_eq_true rfl) (k_X5_hasPlaces (by omega) x3 x4 x5 H _ e_v9 ?_)
              show V (D + 1) RX7 mdX7_copy 98 [.ref 0, .int x1, .int x2, .int x3, .int x4, .int x5] [.int v9] H post
              refine st_if_ne dX7_copy_98 107 (by decide) (fun c22 => ?_) (fun c22 => ?_)
              · replace h := (if_neg c22).symm.trans h
                refine st_aload_n dX7_copy_107 rfl rfl ?_
                refine gR7 dX7_copy_108 (by decide) rfl 0 (by decide) fl_RX7_10 rfl 1 rfl ?_
                refine st_iload_n dX7_copy_111 rfl rfl ?_
                refine st_iload_n dX7_copy_112 rfl rfl ?_
                refine st_iload_n dX7_copy_113 rfl rfl ?_
                refine st_iload dX7_copy_114 rfl ?_
                refine st_iload dX7_copy_116 rfl ?_
                obtain ⟨H11, e_H11, h⟩ := bnd h
                refine st_callV [.int x1, .int x2, .int x3, .int x4, .int x5] dX7_copy_118 co_X5_move im_X5_move se_X5_move ml_RX7_103 rfl (by decide) rfl (rfl : classes[5]? = some (RX5, TX5, 3)) rfl (S := []) rfl (Nat.le_of_ble_eq_true rfl) (k_X5_move (by omega) x1 x2 x3 x4 x5 H _ e_H11 ?_)
                show V (D + 1) RX7 mdX7_copy 121 [.ref 0, .int x1, .int x2, .int x3, .int x4, .int x5] [] H11 post
                refine st_aload_n dX7_copy_121 rfl rfl ?_
                refine st_iload dX7_copy_122 rfl ?_
                obtain ⟨q12, e_q12, h⟩ := bnd h
                refine st_callV [.int x5] dX7_copy_124 co_X7_unmarred im_X7_unmarred se_X7_unmarred ml_RX7_86 rfl (by decide) rfl (rfl : classes[7]? = some (RX7, TX7, 11)) rfl (S := []) rfl (Nat.le_of_ble_eq_true rfl) (k_X7_unmarred (by omega) x5 H11 _ e_q12 ?_)
                show V (D + 1) RX7 mdX7_copy 127 [.ref 0, .int x1, .int x2, .int x3, .int x4, .int x5] [.int q12.1] q12.2 post
                obtain rfl := Option.some.inj h
                exact st_iret dX7_copy_127 rfl hp
              · replace h := (if_pos c22).symm.trans h
                refine st_aload_n dX7_copy_101 rfl rfl ?_
                refine st_iconst dX7_copy_102 (v := 2) rfl ?_
                obtain ⟨q10, e_q10, h⟩ := bnd h
                refine st_callV [.int 2] dX7_copy_103 co_X7_found im_X7_found se_X7_found ml_RX7_78 rfl (by decide) rfl (rfl : classes[7]? = some (RX7, TX7, 11)) rfl (S := []) rfl (Nat.le_of_ble_eq_true rfl) (k_X7_found (by omega) 2 H _ e_q10 ?_)
                show V (D + 1) RX7 mdX7_copy 106 [.ref 0, .int x1, .int x2, .int x3, .int x4, .int x5] [.int q10.1] q10.2 post
                obtain rfl := Option.some.inj h
                exact st_iret dX7_copy_106 rfl hp
          · replace h := (if_neg c20).symm.trans h
            refine st_aload_n dX7_copy_66 rfl rfl ?_
            refine st_iconst dX7_copy_67 (v := 5) rfl ?_
            obtain ⟨q13, e_q13, h⟩ := bnd h
            refine st_callV [.int 5] dX7_copy_68 co_X7_found im_X7_found se_X7_found ml_RX7_78 rfl (by decide) rfl (rfl : classes[7]? = some (RX7, TX7, 11)) rfl (S := []) rfl (Nat.le_of_ble_eq_true rfl) (k_X7_found (by omega) 5 H _ e_q13 ?_)
            show V (D + 1) RX7 mdX7_copy 71 [.ref 0, .int x1, .int x2, .int x3, .int x4, .int x5] [.int q13.1] q13.2 post
            obtain rfl := Option.some.inj h
            exact st_iret dX7_copy_71 rfl hp
        · replace h := (if_neg c19).symm.trans h
          refine st_aload_n dX7_copy_39 rfl rfl ?_
          refine st_iconst dX7_copy_40 (v := 1) rfl ?_
          obtain ⟨q14, e_q14, h⟩ := bnd h
          refine st_callV [.int 1] dX7_copy_41 co_X7_found im_X7_found se_X7_found ml_RX7_78 rfl (by decide) rfl (rfl : classes[7]? = some (RX7, TX7, 11)) rfl (S := []) rfl (Nat.le_of_ble_eq_true rfl) (k_X7_found (by omega) 1 H _ e_q14 ?_)
          show V (D + 1) RX7 mdX7_copy 44 [.ref 0, .int x1, .int x2, .int x3, .int x4, .int x5] [.int q14.1] q14.2 post
          obtain rfl := Option.some.inj h
          exact st_iret dX7_copy_44 rfl hp
    · replace h := (if_pos c17).symm.trans h
      refine st_ldc dX7_copy_14 cn_RX7_77 ?_
      obtain rfl := Option.some.inj h
      exact st_iret dX7_copy_16 rfl hp
def f_X5_lose (x1 : Int32) (H : Hp) : Option (Int32 × Hp) :=
  (as H 2 8 x1 (-1)).bind fun H1 =>
  (ag H1 3 8 x1).bind fun v2 =>
  some (v2, H1)
set_option maxHeartbeats 4000000 in
set_option maxRecDepth 100000 in
theorem k_X5_lose {D : Nat} (hD : 0 ≤ D) (x1 : Int32) (H : Hp) (q : Int32 × Hp) (h : f_X5_lose x1 H = some q) {post : Option Value → Hp → Prop} (hp : post (some (.int q.1)) q.2) : Sem D mdX5_lose [.ref 1, .int x1] H post := by
  refine sem_of (own := RX5) rfl pn_RX5 (Nat.le_of_ble_eq_true rfl) [.ref 1, .int x1] ⟨Or.inr rfl, Or.inr rfl, trivial⟩ ?_
  unfold f_X5_lose at h
  refine st_aload_n dX5_lose_0 rfl rfl ?_
  refine gR5 dX5_lose_1 (by decide) rfl 0 (by decide) fl_RX5_9 rfl 2 rfl ?_
  refine st_iload_n dX5_lose_4 rfl rfl ?_
  refine st_iconst dX5_lose_5 (v := (-1)) rfl ?_
  obtain ⟨H1, e_H1, h⟩ := bnd h
  refine st_iast dX5_lose_6 (by decide) rfl H1 e_H1 ?_
  refine st_aload_n dX5_lose_7 rfl rfl ?_
  refine gR5 dX5_lose_8 (by decide) rfl 1 (by decide) fl_RX5_13 rfl 3 rfl ?_
  refine st_iload_n dX5_lose_11 rfl rfl ?_
  obtain ⟨v2, e_v2, h⟩ := bnd h
  refine st_iald dX5_lose_12 (by decide) rfl v2 e_v2 ?_
  obtain rfl := Option.some.inj h
  exact st_iret dX5_lose_13 rfl hp
def f_X7_drop (x1 : Int32) (H : Hp) : Option (Int32 × Hp) :=
  (f_X5_isRow x1).bind fun v1 =>
  if v1 = 0 then
    some ((-1000001), H)
  else
    (f_X5_isMissing x1 H).bind fun v2 =>
    if v2 = 0 then
      (f_X5_lose x1 H).bind fun q3 =>
      (f_X7_unmarred q3.1 q3.2).bind fun q4 =>
      some (q4.1, q4.2)
    else
      (f_X7_found 1 H).bind fun q5 =>
      some (q5.1, q5.2)
set_option maxHeartbeats 4000000 in
set_option maxRecDepth 100000 in
theorem k_X7_drop {D : Nat} (hD : 1 ≤ D) (x1 : Int32) (H : Hp) (q : Int32 × Hp) (h : f_X7_drop x1 H = some q) {post : Option Value → Hp → Prop} (hp : post (some (.int q.1)) q.2) : Sem D mdX7_drop [.ref 0, .int x1] H post := by
  obtain ⟨D, rfl⟩ : ∃ E, D = E + 1 := ⟨D - 1, by omega⟩
  refine sem_of (own := RX7) rfl pn_RX7 (Nat.le_of_ble_eq_true rfl) [.ref 0, .int x1] ⟨Or.inr rfl, Or.inr rfl, trivial⟩ ?_
  unfold f_X7_drop at h
  refine st_iload_n dX7_drop_0 rfl rfl ?_
  obtain ⟨v1, e_v1, h⟩ := bnd h
  refine st_callS [.int x1] dX7_drop_1 co_X5_isRow sm_X5_isRow ml_RX7_69 rfl (S := []) rfl (Nat.le_of_ble_eq_true rfl) (k_X5_isRow (by omega) x1 H _ e_v1 ?_)
  show V (D + 1) RX7 mdX7_drop 4 [.ref 0, .int x1] [.int v1] H post
  refine st_if_ne dX7_drop_4 10 (by decide) (fun c6 => ?_) (fun c6 => ?_)
  · replace h := (if_neg c6).symm.trans h
    refine st_aload_n dX7_drop_10 rfl rfl ?_
    refine gR7 dX7_drop_11 (by decide) rfl 0 (by decide) fl_RX7_10 rfl 1 rfl ?_
    refine st_iload_n dX7_drop_14 rfl rfl ?_
    obtain ⟨v2, e_v2, h⟩ := bnd h
    refine st_callV [.int x1] dX7_drop_15 co_X5_isMissing im_X5_isMissing se_X5_isMissing ml_RX7_89 rfl (by decide) rfl (rfl : classes[5]? = some (RX5, TX5, 3)) rfl (S := []) rfl (Nat.le_of_ble_eq_true rfl) (k_X5_isMissing (by omega) x1 H _ e_v2 ?_)
    show V (D + 1) RX7 mdX7_drop 18 [.ref 0, .int x1] [.int v2] H post
    refine st_if_eq dX7_drop_18 27 (by decide) (fun c7 => ?_) (fun c7 => ?_)
    · replace h := (if_pos c7).symm.trans h
      refine st_aload_n dX7_drop_27 rfl rfl ?_
      refine st_aload_n dX7_drop_28 rfl rfl ?_
      refine gR7 dX7_drop_29 (by decide) rfl 0 (by decide) fl_RX7_10 rfl 1 rfl ?_
      refine st_iload_n dX7_drop_32 rfl rfl ?_
      obtain ⟨q3, e_q3, h⟩ := bnd h
      refine st_callV [.int x1] dX7_drop_33 co_X5_lose im_X5_lose se_X5_lose ml_RX7_107 rfl (by decide) rfl (rfl : classes[5]? = some (RX5, TX5, 3)) rfl (S := [.ref 0]) rfl (Nat.le_of_ble_eq_true rfl) (k_X5_lose (by omega) x1 H _ e_q3 ?_)
      show V (D + 1) RX7 mdX7_drop 36 [.ref 0, .int x1] [.int q3.1, .ref 0] q3.2 post
      obtain ⟨q4, e_q4, h⟩ := bnd h
      refine st_callV [.int q3.1] dX7_drop_36 co_X7_unmarred im_X7_unmarred se_X7_unmarred ml_RX7_86 rfl (by decide) rfl (rfl : classes[7]? = some (RX7, TX7, 11)) rfl (S := []) rfl (Nat.le_of_ble_eq_true rfl) (k_X7_unmarred (by omega) q3.1 q3.2 _ e_q4 ?_)
      show V (D + 1) RX7 mdX7_drop 39 [.ref 0, .int x1] [.int q4.1] q4.2 post
      obtain rfl := Option.some.inj h
      exact st_iret dX7_drop_39 rfl hp
    · replace h := (if_neg c7).symm.trans h
      refine st_aload_n dX7_drop_21 rfl rfl ?_
      refine st_iconst dX7_drop_22 (v := 1) rfl ?_
      obtain ⟨q5, e_q5, h⟩ := bnd h
      refine st_callV [.int 1] dX7_drop_23 co_X7_found im_X7_found se_X7_found ml_RX7_78 rfl (by decide) rfl (rfl : classes[7]? = some (RX7, TX7, 11)) rfl (S := []) rfl (Nat.le_of_ble_eq_true rfl) (k_X7_found (by omega) 1 H _ e_q5 ?_)
      show V (D + 1) RX7 mdX7_drop 26 [.ref 0, .int x1] [.int q5.1] q5.2 post
      obtain rfl := Option.some.inj h
      exact st_iret dX7_drop_26 rfl hp
  · replace h := (if_pos c6).symm.trans h
    refine st_ldc dX7_drop_7 cn_RX7_77 ?_
    obtain rfl := Option.some.inj h
    exact st_iret dX7_drop_9 rfl hp
def f_X6_append (x1 : Int32) (H : Hp) : Option (Int32 × Hp) :=
  if (H 5 1) < 130 then
    (as H 6 130 (H 5 1) x1).bind fun H1 =>
    (pf H1 5 1 ((H1 5 1) + 1)).bind fun H2 =>
    some (1, H2)
  else
    some (0, H)
set_option maxHeartbeats 4000000 in
set_option maxRecDepth 100000 in
theorem k_X6_append {D : Nat} (hD : 0 ≤ D) (x1 : Int32) (H : Hp) (q : Int32 × Hp) (h : f_X6_append x1 H = some q) {post : Option Value → Hp → Prop} (hp : post (some (.int q.1)) q.2) : Sem D mdX6_append [.ref 5, .int x1] H post := by
  refine sem_of (own := RX6) rfl pn_RX6 (Nat.le_of_ble_eq_true rfl) [.ref 5, .int x1] ⟨Or.inr rfl, Or.inr rfl, trivial⟩ ?_
  unfold f_X6_append at h
  refine st_aload_n dX6_append_0 rfl rfl ?_
  refine gI6 dX6_append_1 (by decide) rfl 1 (by decide) fl_RX6_15 rfl rfl ?_
  refine st_sipush dX6_append_4 (v := 130) (by decide) ?_
  refine st_ic_lt dX6_append_7 12 (by decide) (fun c3 => ?_) (fun c3 => ?_)
  · replace h := (if_pos c3).symm.trans h
    refine st_aload_n dX6_append_12 rfl rfl ?_
    refine gR6 dX6_append_13 (by decide) rfl 0 (by decide) fl_RX6_11 rfl 6 rfl ?_
    refine st_aload_n dX6_append_16 rfl rfl ?_
    refine gI6 dX6_append_17 (by decide) rfl 1 (by decide) fl_RX6_15 rfl rfl ?_
    refine st_iload_n dX6_append_20 rfl rfl ?_
    obtain ⟨H1, e_H1, h⟩ := bnd h
    refine st_iast dX6_append_21 (by decide) rfl H1 e_H1 ?_
    refine st_aload_n dX6_append_22 rfl rfl ?_
    refine st_dup dX6_append_23 rfl ?_
    refine gI6 dX6_append_24 (by decide) rfl 1 (by decide) fl_RX6_15 rfl rfl ?_
    refine st_iconst dX6_append_27 (v := 1) rfl ?_
    refine st_iadd dX6_append_28 ?_
    obtain ⟨H2, e_H2, h⟩ := bnd h
    refine pI6 dX6_append_29 (by decide) rfl 1 (by decide) fl_RX6_15 rfl rfl rfl rfl e_H2 ?_
    refine st_iconst dX6_append_32 (v := 1) rfl ?_
    obtain rfl := Option.some.inj h
    exact st_zret dX6_append_33 rfl (by first | rfl | (split <;> rfl) | (repeat (first | rfl | split))) hp
  · replace h := (if_neg c3).symm.trans h
    refine st_iconst dX6_append_10 (v := 0) rfl ?_
    obtain rfl := Option.some.inj h
    exact st_zret dX6_append_11 rfl (by first | rfl | (split <;> rfl) | (repeat (first | rfl | split))) hp
def f_X7_feed (x1 : Int32) (H : Hp) : Option (Int32 × Hp) :=
  (f_X7_within x1 0 255).bind fun v1 =>
  if v1 = 0 then
    some ((-1000001), H)
  else
    (f_X6_append x1 H).bind fun q2 =>
    some ((if q2.1 = 0 then (-1000003) else (q2.2 5 1)), q2.2)
set_option maxHeartbeats 4000000 in
set_option maxRecDepth 100000 in
theorem k_X7_feed {D : Nat} (hD : 1 ≤ D) (x1 : Int32) (H : Hp) (q : Int32 × Hp) (h : f_X7_feed x1 H = some q) {post : Option Value → Hp → Prop} (hp : post (some (.int q.1)) q.2) : Sem D mdX7_feed [.ref 0, .int x1] H post := by
  obtain ⟨D, rfl⟩ : ∃ E, D = E + 1 := ⟨D - 1, by omega⟩
  refine sem_of (own := RX7) rfl pn_RX7 (Nat.le_of_ble_eq_true rfl) [.ref 0, .int x1] ⟨Or.inr rfl, Or.inr rfl, trivial⟩ ?_
  unfold f_X7_feed at h
  refine st_iload_n dX7_feed_0 rfl rfl ?_
  refine st_iconst dX7_feed_1 (v := 0) rfl ?_
  refine st_sipush dX7_feed_2 (v := 255) (by decide) ?_
  obtain ⟨v1, e_v1, h⟩ := bnd h
  refine st_callS [.int x1, .int 0, .int 255] dX7_feed_5 co_X7_within sm_X7_within ml_RX7_73 rfl (S := []) rfl (Nat.le_of_ble_eq_true rfl) (k_X7_within (by omega) x1 0 255 H _ e_v1 ?_)
  show V (D + 1) RX7 mdX7_feed 8 [.ref 0, .int x1] [.int v1] H post
  refine st_if_ne dX7_feed_8 14 (by decide) (fun c3 => ?_) (fun c3 => ?_)
  · replace h := (if_neg c3).symm.trans h
    refine st_aload_n dX7_feed_14 rfl rfl ?_
    refine gR7 dX7_feed_15 (by decide) rfl 1 (by decide) fl_RX7_19 rfl 5 rfl ?_
    refine st_iload_n dX7_feed_18 rfl rfl ?_
    obtain ⟨q2, e_q2, h⟩ := bnd h
    refine st_callV [.int x1] dX7_feed_19 co_X6_append im_X6_append se_X6_append ml_RX7_110 rfl (by decide) rfl (rfl : classes[6]? = some (RX6, TX6, 6)) rfl (S := []) rfl (Nat.le_of_ble_eq_true rfl) (k_X6_append (by omega) x1 H _ e_q2 ?_)
    show V (D + 1) RX7 mdX7_feed 22 [.ref 0, .int x1] [.int q2.1] q2.2 post
    have kj5 : ∀ z4 : Int32, z4 = (if q2.1 = 0 then (-1000003) else (q2.2 5 1)) → V (D + 1) RX7 mdX7_feed 37 [.null, .null] [.int z4] q2.2 post := by
      intro z4 ez4
      subst ez4
      obtain rfl := Option.some.inj h
      exact st_iret dX7_feed_37 rfl hp
    refine st_if_eq dX7_feed_22 35 (by decide) (fun c6 => ?_) (fun c6 => ?_)
    · refine st_ldc dX7_feed_35 cn_RX7_117 ?_
      exact st_sub [.null, .null] ⟨Or.inl rfl, Or.inl rfl, trivial⟩ (kj5 _ (Eq.symm (if_pos c6)))
    · refine st_aload_n dX7_feed_25 rfl rfl ?_
      refine gR7 dX7_feed_26 (by decide) rfl 1 (by decide) fl_RX7_19 rfl 5 rfl ?_
      refine gI6 dX7_feed_29 (by decide) rfl 1 (by decide) fl_RX7_113 rfl rfl ?_
      refine st_goto dX7_feed_32 37 (by decide) ?_
      exact st_sub [.null, .null] ⟨Or.inl rfl, Or.inl rfl, trivial⟩ (kj5 _ (Eq.symm (if_neg c6)))
  · replace h := (if_pos c3).symm.trans h
    refine st_ldc dX7_feed_11 cn_RX7_77 ?_
    obtain rfl := Option.some.inj h
    exact st_iret dX7_feed_13 rfl hp
def f_X4_beginAnew_l27 (b : Nat) : Nat → Int32 → Hp → Option (Hp)
  | 0, _, _ => none
  | n + 1, x1, H =>
    if 10 ≤ x1 then
      some H
    else
      (as H (b + 2) 10 x1 x1).bind fun H6 =>
      f_X4_beginAnew_l27 b n (x1 + 1) H6
def f_X4_beginAnew (b : Nat) (H : Hp) : Option (Hp) :=
  (pf H b 0 1).bind fun H1 =>
  (pf H1 b 1 0).bind fun H2 =>
  (pf H2 b 2 0).bind fun H3 =>
  (pf H3 b 3 0).bind fun H4 =>
  (pf H4 b 4 0).bind fun H5 =>
  (f_X4_beginAnew_l27 b fuel 0 H5).bind fun l8 =>
  some l8
set_option maxHeartbeats 4000000 in
set_option maxRecDepth 100000 in
theorem k_X4_beginAnew_l27 {D : Nat} (hD : 0 ≤ D) {b : Nat} (hb : FC b) {post : Option Value → Hp → Prop} : ∀ (n : Nat) (x1 : Int32) (H : Hp) (q : Hp), f_X4_beginAnew_l27 b n x1 H = some q → V D RX4 mdX4_beginAnew 46 [.null, .null] [] q post → V D RX4 mdX4_beginAnew 27 [.ref b, .int x1] [] H post := by
  intro n
  induction n with
  | zero => intro x1 H q h; simp [f_X4_beginAnew_l27] at h
  | succ n ih =>
    intro x1 H q h k1
    rw [f_X4_beginAnew_l27] at h
    refine st_iload_n dX4_beginAnew_27 rfl rfl ?_
    refine st_bipush dX4_beginAnew_28 (v := 10) (by decide) ?_
    refine st_ic_ge dX4_beginAnew_30 46 (by decide) (fun c7 => ?_) (fun c7 => ?_)
    · replace h := (if_pos c7).symm.trans h
      obtain rfl := Option.some.inj h
      exact st_sub [.null, .null] ⟨Or.inl rfl, Or.inl rfl, trivial⟩ k1
    · replace h := (if_neg c7).symm.trans h
      refine st_aload_n dX4_beginAnew_33 rfl rfl ?_
      refine gR4 dX4_beginAnew_34 (FC_0 hb).1 (FC_0 hb).2 6 (by decide) fl_RX4_15 rfl (b + 2) (FR_6 hb) ?_
      refine st_iload_n dX4_beginAnew_37 rfl rfl ?_
      refine st_iload_n dX4_beginAnew_38 rfl rfl ?_
      obtain ⟨H6, e_H6, h⟩ := bnd h
      refine st_iast dX4_beginAnew_39 (FC_2 hb).1 (FC_2 hb).2 H6 e_H6 ?_
      refine st_iinc dX4_beginAnew_40 rfl (v := (x1 + 1)) rfl (by decide) [.ref b, .int (x1 + 1)] rfl ?_
      refine st_goto dX4_beginAnew_43 27 (by decide) ?_
      exact ih (x1 + 1) H6 q h k1
set_option maxHeartbeats 4000000 in
set_option maxRecDepth 100000 in
theorem k_X4_beginAnew {D : Nat} (hD : 0 ≤ D) {b : Nat} (hb : FC b) (H : Hp) (q : Hp) (h : f_X4_beginAnew b H = some q) {post : Option Value → Hp → Prop} (hp : post none q) : Sem D mdX4_beginAnew [.ref b] H post := by
  refine sem_of (own := RX4) rfl pn_RX4 (Nat.le_of_ble_eq_true rfl) [.ref b, .null] ⟨Or.inr rfl, rfl, trivial⟩ ?_
  unfold f_X4_beginAnew at h
  refine st_aload_n dX4_beginAnew_0 rfl rfl ?_
  refine st_iconst dX4_beginAnew_1 (v := 1) rfl ?_
  obtain ⟨H1, e_H1, h⟩ := bnd h
  refine pB4 dX4_beginAnew_2 (FC_0 hb).1 (FC_0 hb).2 0 (by decide) fl_RX4_27 rfl rfl (FN_0 hb) rfl (by first | rfl | (split <;> rfl)) e_H1 ?_
  refine st_aload_n dX4_beginAnew_5 rfl rfl ?_
  refine st_iconst dX4_beginAnew_6 (v := 0) rfl ?_
  obtain ⟨H2, e_H2, h⟩ := bnd h
  refine pI4 dX4_beginAnew_7 (FC_0 hb).1 (FC_0 hb).2 1 (by decide) fl_RX4_31 rfl rfl (FN_1 hb) rfl e_H2 ?_
  refine st_aload_n dX4_beginAnew_10 rfl rfl ?_
  refine st_iconst dX4_beginAnew_11 (v := 0) rfl ?_
  obtain ⟨H3, e_H3, h⟩ := bnd h
  refine pI4 dX4_beginAnew_12 (FC_0 hb).1 (FC_0 hb).2 2 (by decide) fl_RX4_35 rfl rfl (FN_2 hb) rfl e_H3 ?_
  refine st_aload_n dX4_beginAnew_15 rfl rfl ?_
  refine st_iconst dX4_beginAnew_16 (v := 0) rfl ?_
  obtain ⟨H4, e_H4, h⟩ := bnd h
  refine pI4 dX4_beginAnew_17 (FC_0 hb).1 (FC_0 hb).2 3 (by decide) fl_RX4_38 rfl rfl (FN_3 hb) rfl e_H4 ?_
  refine st_aload_n dX4_beginAnew_20 rfl rfl ?_
  refine st_iconst dX4_beginAnew_21 (v := 0) rfl ?_
  obtain ⟨H5, e_H5, h⟩ := bnd h
  refine pI4 dX4_beginAnew_22 (FC_0 hb).1 (FC_0 hb).2 4 (by decide) fl_RX4_41 rfl rfl (FN_4 hb) rfl e_H5 ?_
  refine st_iconst dX4_beginAnew_25 (v := 0) rfl ?_
  refine st_istore_n dX4_beginAnew_26 rfl (by decide) [.ref b, .int 0] rfl ?_
  obtain ⟨l8, e_l8, h⟩ := bnd h
  refine k_X4_beginAnew_l27 (by omega) hb fuel 0 H5 _ e_l8 ?_
  obtain rfl := Option.some.inj h
  exact st_vret dX4_beginAnew_46 rfl hp
def f_X6_byteHere (H : Hp) : Option (Int32) :=
  Option.bind (
    if (H 5 1) ≤ (H 5 2) then
      some (-1)
    else
      (ag H 6 130 (H 5 2)).bind fun v1 =>
      some v1) fun j2 =>
  some j2
set_option maxHeartbeats 4000000 in
set_option maxRecDepth 100000 in
theorem k_X6_byteHere {D : Nat} (hD : 0 ≤ D) (H : Hp) (q : Int32) (h : f_X6_byteHere H = some q) {post : Option Value → Hp → Prop} (hp : post (some (.int q)) H) : Sem D mdX6_byteHere [.ref 5] H post := by
  refine sem_of (own := RX6) rfl pn_RX6 (Nat.le_of_ble_eq_true rfl) [.ref 5] ⟨Or.inr rfl, trivial⟩ ?_
  unfold f_X6_byteHere at h
  refine st_aload_n dX6_byteHere_0 rfl rfl ?_
  refine gI6 dX6_byteHere_1 (by decide) rfl 2 (by decide) fl_RX6_19 rfl rfl ?_
  refine st_aload_n dX6_byteHere_4 rfl rfl ?_
  refine gI6 dX6_byteHere_5 (by decide) rfl 1 (by decide) fl_RX6_15 rfl rfl ?_
  obtain ⟨j2, e_j2, h⟩ := bnd h
  have kj3 : V D RX6 mdX6_byteHere 24 [.null] [.int j2] H post := by
    obtain rfl := Option.some.inj h
    exact st_iret dX6_byteHere_24 rfl hp
  refine st_ic_ge dX6_byteHere_8 23 (by decide) (fun c4 => ?_) (fun c4 => ?_)
  · replace e_j2 := (if_pos c4).symm.trans e_j2
    refine st_iconst dX6_byteHere_23 (v := (-1)) rfl ?_
    obtain rfl := Option.some.inj e_j2
    exact st_sub [.null] ⟨Or.inl rfl, trivial⟩ kj3
  · replace e_j2 := (if_neg c4).symm.trans e_j2
    refine st_aload_n dX6_byteHere_11 rfl rfl ?_
    refine gR6 dX6_byteHere_12 (by decide) rfl 0 (by decide) fl_RX6_11 rfl 6 rfl ?_
    refine st_aload_n dX6_byteHere_15 rfl rfl ?_
    refine gI6 dX6_byteHere_16 (by decide) rfl 2 (by decide) fl_RX6_19 rfl rfl ?_
    obtain ⟨v1, e_v1, e_j2⟩ := bnd e_j2
    refine st_iald dX6_byteHere_19 (by decide) rfl v1 e_v1 ?_
    refine st_goto dX6_byteHere_20 24 (by decide) ?_
    obtain rfl := Option.some.inj e_j2
    exact st_sub [.null] ⟨Or.inl rfl, trivial⟩ kj3
def f_X6_fails (x1 : Int32) (H : Hp) : Option (Int32 × Hp) :=
  (pf H 5 4 x1).bind fun H1 =>
  (pf H1 5 5 (H1 5 2)).bind fun H2 =>
  some (0, H2)
set_option maxHeartbeats 4000000 in
set_option maxRecDepth 100000 in
theorem k_X6_fails {D : Nat} (hD : 0 ≤ D) (x1 : Int32) (H : Hp) (q : Int32 × Hp) (h : f_X6_fails x1 H = some q) {post : Option Value → Hp → Prop} (hp : post (some (.int q.1)) q.2) : Sem D mdX6_fails [.ref 5, .int x1] H post := by
  refine sem_of (own := RX6) rfl pn_RX6 (Nat.le_of_ble_eq_true rfl) [.ref 5, .int x1] ⟨Or.inr rfl, Or.inr rfl, trivial⟩ ?_
  unfold f_X6_fails at h
  refine st_aload_n dX6_fails_0 rfl rfl ?_
  refine st_iload_n dX6_fails_1 rfl rfl ?_
  obtain ⟨H1, e_H1, h⟩ := bnd h
  refine pI6 dX6_fails_2 (by decide) rfl 4 (by decide) fl_RX6_89 rfl rfl rfl rfl e_H1 ?_
  refine st_aload_n dX6_fails_5 rfl rfl ?_
  refine st_aload_n dX6_fails_6 rfl rfl ?_
  refine gI6 dX6_fails_7 (by decide) rfl 2 (by decide) fl_RX6_19 rfl rfl ?_
  obtain ⟨H2, e_H2, h⟩ := bnd h
  refine pI6 dX6_fails_10 (by decide) rfl 5 (by decide) fl_RX6_92 rfl rfl rfl rfl e_H2 ?_
  refine st_iconst dX6_fails_13 (v := 0) rfl ?_
  obtain rfl := Option.some.inj h
  exact st_zret dX6_fails_14 rfl (by first | rfl | (split <;> rfl) | (repeat (first | rfl | split))) hp
def f_X6_readSign (x1 : Int32) (H : Hp) : Option (Int32 × Hp) :=
  (f_X6_byteHere H).bind fun v1 =>
  if v1 = x1 then
    (pf H 5 2 ((H 5 2) + 1)).bind fun H2 =>
    some (1, H2)
  else
    (f_X6_fails 1 H).bind fun q3 =>
    (zr q3.1).bind fun z => some (z, q3.2)
set_option maxHeartbeats 4000000 in
set_option maxRecDepth 100000 in
theorem k_X6_readSign {D : Nat} (hD : 1 ≤ D) (x1 : Int32) (H : Hp) (q : Int32 × Hp) (h : f_X6_readSign x1 H = some q) {post : Option Value → Hp → Prop} (hp : post (some (.int q.1)) q.2) : Sem D mdX6_readSign [.ref 5, .int x1] H post := by
  obtain ⟨D, rfl⟩ : ∃ E, D = E + 1 := ⟨D - 1, by omega⟩
  refine sem_of (own := RX6) rfl pn_RX6 (Nat.le_of_ble_eq_true rfl) [.ref 5, .int x1] ⟨Or.inr rfl, Or.inr rfl, trivial⟩ ?_
  unfold f_X6_readSign at h
  refine st_aload_n dX6_readSign_0 rfl rfl ?_
  obtain ⟨v1, e_v1, h⟩ := bnd h
  refine st_callV [] dX6_readSign_1 co_X6_byteHere im_X6_byteHere se_X6_byteHere ml_RX6_54 rfl (by decide) rfl (rfl : classes[6]? = some (RX6, TX6, 6)) rfl (S := []) rfl (Nat.le_of_ble_eq_true rfl) (k_X6_byteHere (by omega) H _ e_v1 ?_)
  show V (D + 1) RX6 mdX6_readSign 4 [.ref 5, .int x1] [.int v1] H post
  refine st_iload_n dX6_readSign_4 rfl rfl ?_
  refine st_ic_eq dX6_readSign_5 14 (by decide) (fun c4 => ?_) (fun c4 => ?_)
  · replace h := (if_pos c4).symm.trans h
    refine st_aload_n dX6_readSign_14 rfl rfl ?_
    refine st_dup dX6_readSign_15 rfl ?_
    refine gI6 dX6_readSign_16 (by decide) rfl 2 (by decide) fl_RX6_19 rfl rfl ?_
    refine st_iconst dX6_readSign_19 (v := 1) rfl ?_
    refine st_iadd dX6_readSign_20 ?_
    obtain ⟨H2, e_H2, h⟩ := bnd h
    refine pI6 dX6_readSign_21 (by decide) rfl 2 (by decide) fl_RX6_19 rfl rfl rfl rfl e_H2 ?_
    refine st_iconst dX6_readSign_24 (v := 1) rfl ?_
    obtain rfl := Option.some.inj h
    exact st_zret dX6_readSign_25 rfl (by first | rfl | (split <;> rfl) | (repeat (first | rfl | split))) hp
  · replace h := (if_neg c4).symm.trans h
    refine st_aload_n dX6_readSign_8 rfl rfl ?_
    refine st_iconst dX6_readSign_9 (v := 1) rfl ?_
    obtain ⟨q3, e_q3, h⟩ := bnd h
    refine st_callV [.int 1] dX6_readSign_10 co_X6_fails im_X6_fails se_X6_fails ml_RX6_65 rfl (by decide) rfl (rfl : classes[6]? = some (RX6, TX6, 6)) rfl (S := []) rfl (Nat.le_of_ble_eq_true rfl) (k_X6_fails (by omega) 1 H _ e_q3 ?_)
    show V (D + 1) RX6 mdX6_readSign 13 [.ref 5, .int x1] [.int q3.1] q3.2 post
    obtain ⟨z, hz1, h⟩ := bnd h
    obtain ⟨rfl, hz⟩ := zr_some hz1
    obtain rfl := Option.some.inj h
    exact st_zret dX6_readSign_13 rfl hz hp
def f_X6_isFigure (x0 : Int32) : Option (Int32) :=
  some ((if x0 < 48 then 0 else (if 57 < x0 then 0 else 1)) : Int32)
set_option maxHeartbeats 4000000 in
set_option maxRecDepth 100000 in
theorem k_X6_isFigure {D : Nat} (hD : 0 ≤ D) (x0 : Int32) (H : Hp) (q : Int32) (h : f_X6_isFigure x0 = some q) {post : Option Value → Hp → Prop} (hp : post (some (.int q)) H) : Sem D mdX6_isFigure [.int x0] H post := by
  refine sem_of (own := RX6) rfl pn_RX6 (Nat.le_of_ble_eq_true rfl) [.int x0] ⟨Or.inr rfl, trivial⟩ ?_
  unfold f_X6_isFigure at h
  refine st_iload_n dX6_isFigure_0 rfl rfl ?_
  refine st_bipush dX6_isFigure_1 (v := 48) (by decide) ?_
  have kj2 : ∀ z1 : Int32, z1 = ((if x0 < 48 then 0 else (if 57 < x0 then 0 else 1)) : Int32) → V D RX6 mdX6_isFigure 17 [.null] [.int z1] H post := by
    intro z1 ez1
    subst ez1
    obtain rfl := Option.some.inj h
    exact st_zret dX6_isFigure_17 rfl (by first | rfl | (split <;> rfl) | (repeat (first | rfl | split))) hp
  refine st_ic_lt dX6_isFigure_3 16 (by decide) (fun c3 => ?_) (fun c3 => ?_)
  · refine st_iconst dX6_isFigure_16 (v := 0) rfl ?_
    exact st_sub [.null] ⟨Or.inl rfl, trivial⟩ (kj2 _ (Eq.symm (if_pos c3)))
  · refine st_iload_n dX6_isFigure_6 rfl rfl ?_
    refine st_bipush dX6_isFigure_7 (v := 57) (by decide) ?_
    refine st_ic_gt dX6_isFigure_9 16 (by decide) (fun c4 => ?_) (fun c4 => ?_)
    · refine st_iconst dX6_isFigure_16 (v := 0) rfl ?_
      exact st_sub [.null] ⟨Or.inl rfl, trivial⟩ (kj2 _ (Eq.symm ((if_neg c3).trans (if_pos c4))))
    · refine st_iconst dX6_isFigure_12 (v := 1) rfl ?_
      refine st_goto dX6_isFigure_13 17 (by decide) ?_
      exact st_sub [.null] ⟨Or.inl rfl, trivial⟩ (kj2 _ (Eq.symm ((if_neg c3).trans (if_neg c4))))
def f_X6_readNumber_l11 (H : Hp) : Nat → Int32 → Int32 → Int32 → Option (Int32 × Int32)
  | 0, _, _, _ => none
  | n + 1, x3, x4, x5 =>
    if (H 5 1) ≤ x5 then
      some (x3, x4)
    else
      (ag H 6 130 x5).bind fun v1 =>
      (f_X6_isFigure v1).bind fun v2 =>
      if v2 = 0 then
        some (x3, x4)
      else
        if 2 < x3 then
          some (x3, x4)
        else
          (ag H 6 130 x5).bind fun v3 =>
          f_X6_readNumber_l11 H n (x3 + 1) (((x4 * 10) + v3) - 48) (x5 + 1)
def f_X6_readNumber (x1 : Int32) (x2 : Int32) (H : Hp) : Option (Int32 × Hp) :=
  (f_X6_readNumber_l11 H fuel 0 0 (H 5 2)).bind fun l7 =>
  if l7.1 = 0 then
    (f_X6_fails 1 H).bind fun q8 =>
    (zr q8.1).bind fun z => some (z, q8.2)
  else
    if l7.1 ≤ 2 then
      (f_X7_within l7.2 x1 x2).bind fun v9 =>
      if v9 = 0 then
        (f_X6_fails 2 H).bind fun q10 =>
        (zr q10.1).bind fun z => some (z, q10.2)
      else
        (pf H 5 3 l7.2).bind fun H11 =>
        (pf H11 5 2 ((H11 5 2) + l7.1)).bind fun H12 =>
        some (1, H12)
    else
      (f_X6_fails 1 H).bind fun q13 =>
      (zr q13.1).bind fun z => some (z, q13.2)
set_option maxHeartbeats 4000000 in
set_option maxRecDepth 100000 in
theorem k_X6_readNumber_l11 {D : Nat} (hD : 1 ≤ (D + 1)) (H : Hp) (x1 : Int32) (x2 : Int32) {post : Option Value → Hp → Prop} : ∀ (n : Nat) (x3 : Int32) (x4 : Int32) (x5 : Int32) (q : Int32 × Int32), f_X6_readNumber_l11 H n x3 x4 x5 = some q → V (D + 1) RX6 mdX6_readNumber 65 [.ref 5, .int x1, .int x2, .int q.1, .int q.2, .null] [] H post → V (D + 1) RX6 mdX6_readNumber 11 [.ref 5, .int x1, .int x2, .int x3, .int x4, .int x5] [] H post := by
  intro n
  induction n with
  | zero => intro x3 x4 x5 q h; simp [f_X6_readNumber_l11] at h
  | succ n ih =>
    intro x3 x4 x5 q h k1
    rw [f_X6_readNumber_l11] at h
    refine st_iload dX6_readNumber_11 rfl ?_
    refine st_aload_n dX6_readNumber_13 rfl rfl ?_
    refine gI6 dX6_readNumber_14 (by decide) rfl 1 (by decide) fl_RX6_15 rfl rfl ?_
    refine st_ic_ge dX6_readNumber_17 65 (by decide) (fun c4 => ?_) (fun c4 => ?_)
    · replace h := (if_pos c4).symm.trans h
      obtain rfl := Option.some.inj h
      exact st_sub [.ref 5, .int x1, .int x2, .int x3, .int x4, .null] ⟨Or.inr rfl, Or.inr rfl, Or.inr rfl, Or.inr rfl, Or.inr rfl, Or.inl rfl, trivial⟩ k1
    · replace h := (if_neg c4).symm.trans h
      refine st_aload_n dX6_readNumber_20 rfl rfl ?_
      refine gR6 dX6_readNumber_21 (by decide) rfl 0 (by decide) fl_RX6_11 rfl 6 rfl ?_
      refine st_iload dX6_readNumber_24 rfl ?_
      obtain ⟨v1, e_v1, h⟩ := bnd h
      refine st_iald dX6_readNumber_26 (by decide) rfl v1 e_v1 ?_
      obtain ⟨v2, e_v2, h⟩ := bnd h
      refine st_callS [.int v1] dX6_readNumber_27 co_X6_isFigure sm_X6_isFigure ml_RX6_82 rfl (S := []) rfl (Nat.le_of_ble_eq_true rfl) (k_X6_isFigure (by omega) v1 H _ e_v2 ?_)
      show V (D + 1) RX6 mdX6_readNumber 30 [.ref 5, .int x1, .int x2, .int x3, .int x4, .int x5] [.int v2] H post
      refine st_if_eq dX6_readNumber_30 65 (by decide) (fun c5 => ?_) (fun c5 => ?_)
      · replace h := (if_pos c5).symm.trans h
        obtain rfl := Option.some.inj h
        exact st_sub [.ref 5, .int x1, .int x2, .int x3, .int x4, .null] ⟨Or.inr rfl, Or.inr rfl, Or.inr rfl, Or.inr rfl, Or.inr rfl, Or.inl rfl, trivial⟩ k1
      · replace h := (if_neg c5).symm.trans h
        refine st_iload_n dX6_readNumber_33 rfl rfl ?_
        refine st_iconst dX6_readNumber_34 (v := 2) rfl ?_
        refine st_ic_gt dX6_readNumber_35 65 (by decide) (fun c6 => ?_) (fun c6 => ?_)
        · replace h := (if_pos c6).symm.trans h
          obtain rfl := Option.some.inj h
          exact st_sub [.ref 5, .int x1, .int x2, .int x3, .int x4, .null] ⟨Or.inr rfl, Or.inr rfl, Or.inr rfl, Or.inr rfl, Or.inr rfl, Or.inl rfl, trivial⟩ k1
        · replace h := (if_neg c6).symm.trans h
          refine st_iload dX6_readNumber_38 rfl ?_
          refine st_bipush dX6_readNumber_40 (v := 10) (by decide) ?_
          refine st_imul dX6_readNumber_42 ?_
          refine st_aload_n dX6_readNumber_43 rfl rfl ?_
          refine gR6 dX6_readNumber_44 (by decide) rfl 0 (by decide) fl_RX6_11 rfl 6 rfl ?_
          refine st_iload dX6_readNumber_47 rfl ?_
          obtain ⟨v3, e_v3, h⟩ := bnd h
          refine st_iald dX6_readNumber_49 (by decide) rfl v3 e_v3 ?_
          refine st_iadd dX6_readNumber_50 ?_
          refine st_bipush dX6_readNumber_51 (v := 48) (by decide) ?_
          refine st_isub dX6_readNumber_53 ?_
          refine st_istore dX6_readNumber_54 (by decide) [.ref 5, .int x1, .int x2, .int x3, .int (((x4 * 10) + v3) - 48), .int x5] rfl ?_
          refine st_iinc dX6_readNumber_56 rfl (v := (x3 + 1)) rfl (by decide) [.ref 5, .int x1, .int x2, .int (x3 + 1), .int (((x4 * 10) + v3) - 48), .int x5] rfl ?_
          refine st_iinc dX6_readNumber_59 rfl (v := (x5 + 1)) rfl (by decide) [.ref 5, .int x1, .int x2, .int (x3 + 1), .int (((x4 * 10) + v3) - 48), .int (x5 + 1)] rfl ?_
          refine st_goto dX6_readNumber_62 11 (by decide) ?_
          exact ih (x3 + 1) (((x4 * 10) + v3) - 48) (x5 + 1) q h k1
set_option maxHeartbeats 4000000 in
set_option maxRecDepth 100000 in
theorem k_X6_readNumber {D : Nat} (hD : 1 ≤ D) (x1 : Int32) (x2 : Int32) (H : Hp) (q : Int32 × Hp) (h : f_X6_readNumber x1 x2 H = some q) {post : Option Value → Hp → Prop} (hp : post (some (.int q.1)) q.2) : Sem D mdX6_readNumber [.ref 5, .int x1, .int x2] H post := by
  obtain ⟨D, rfl⟩ : ∃ E, D = E + 1 := ⟨D - 1, by omega⟩
  refine sem_of (own := RX6) rfl pn_RX6 (Nat.le_of_ble_eq_true rfl) [.ref 5, .int x1, .int x2, .null, .null, .null] ⟨Or.inr rfl, Or.inr rfl, Or.inr rfl, rfl, rfl, rfl, trivial⟩ ?_
  unfold f_X6_readNumber at h
  refine st_iconst dX6_readNumber_0 (v := 0) rfl ?_
  refine st_istore_n dX6_readNumber_1 rfl (by decide) [.ref 5, .int x1, .int x2, .int 0, .null, .null] rfl ?_
  refine st_iconst dX6_readNumber_2 (v := 0) rfl ?_
  refine st_istore dX6_readNumber_3 (by decide) [.ref 5, .int x1, .int x2, .int 0, .int 0, .null] rfl ?_
  refine st_aload_n dX6_readNumber_5 rfl rfl ?_
  refine gI6 dX6_readNumber_6 (by decide) rfl 2 (by decide) fl_RX6_19 rfl rfl ?_
  refine st_istore dX6_readNumber_9 (by decide) [.ref 5, .int x1, .int x2, .int 0, .int 0, .int (H 5 2)] rfl ?_
  obtain ⟨l7, e_l7, h⟩ := bnd h
  refine k_X6_readNumber_l11 (by omega) H x1 x2 fuel 0 0 (H 5 2) _ e_l7 ?_
  refine st_iload_n dX6_readNumber_65 rfl rfl ?_
  refine st_if_eq dX6_readNumber_66 74 (by decide) (fun c14 => ?_) (fun c14 => ?_)
  · replace h := (if_pos c14).symm.trans h
    refine st_aload_n dX6_readNumber_74 rfl rfl ?_
    refine st_iconst dX6_readNumber_75 (v := 1) rfl ?_
    obtain ⟨q8, e_q8, h⟩ := bnd h
    refine st_callV [.int 1] dX6_readNumber_76 co_X6_fails im_X6_fails se_X6_fails ml_RX6_65 rfl (by decide) rfl (rfl : classes[6]? = some (RX6, TX6, 6)) rfl (S := []) rfl (Nat.le_of_ble_eq_true rfl) (k_X6_fails (by omega) 1 H _ e_q8 ?_)
    show V (D + 1) RX6 mdX6_readNumber 79 [.ref 5, .int x1, .int x2, .int l7.1, .int l7.2, .null] [.int q8.1] q8.2 post
    obtain ⟨z, hz1, h⟩ := bnd h
    obtain ⟨rfl, hz⟩ := zr_some hz1
    obtain rfl := Option.some.inj h
    exact st_zret dX6_readNumber_79 rfl hz hp
  · replace h := (if_neg c14).symm.trans h
    refine st_iload_n dX6_readNumber_69 rfl rfl ?_
    refine st_iconst dX6_readNumber_70 (v := 2) rfl ?_
    refine st_ic_le dX6_readNumber_71 80 (by decide) (fun c15 => ?_) (fun c15 => ?_)
    · replace h := (if_pos c15).symm.trans h
      refine st_iload dX6_readNumber_80 rfl ?_
      refine st_iload_n dX6_readNumber_82 rfl rfl ?_
      refine st_iload_n dX6_readNumber_83 rfl rfl ?_
      obtain ⟨v9, e_v9, h⟩ := bnd h
      refine st_callN [.int l7.2, .int x1, .int x2] dX6_readNumber_84 rfl co_X7_within sm_X7_within rfl (S := []) rfl (Nat.le_of_ble_eq_true rfl) (k_X7_within (by omega) l7.2 x1 x2 H _ e_v9 ?_)
      show V (D + 1) RX6 mdX6_readNumber 87 [.ref 5, .int x1, .int x2, .int l7.1, .int l7.2, .null] [.int v9] H post
      refine st_if_ne dX6_readNumber_87 96 (by decide) (fun c16 => ?_) (fun c16 => ?_)
      · replace h := (if_neg c16).symm.trans h
        refine st_aload_n dX6_readNumber_96 rfl rfl ?_
        refine st_iload dX6_readNumber_97 rfl ?_
        obtain ⟨H11, e_H11, h⟩ := bnd h
        refine pI6 dX6_readNumber_99 (by decide) rfl 3 (by decide) fl_RX6_45 rfl rfl rfl rfl e_H11 ?_
        refine st_aload_n dX6_readNumber_102 rfl rfl ?_
        refine st_dup dX6_readNumber_103 rfl ?_
        refine gI6 dX6_readNumber_104 (by decide) rfl 2 (by decide) fl_RX6_19 rfl rfl ?_
        refine st_iload_n dX6_readNumber_107 rfl rfl ?_
        refine st_iadd dX6_readNumber_108 ?_
        obtain ⟨H12, e_H12, h⟩ := bnd h
        refine pI6 dX6_readNumber_109 (by decide) rfl 2 (by decide) fl_RX6_19 rfl rfl rfl rfl e_H12 ?_
        refine st_iconst dX6_readNumber_112 (v := 1) rfl ?_
        obtain rfl := Option.some.inj h
        exact st_zret dX6_readNumber_113 rfl (by first | rfl | (split <;> rfl) | (repeat (first | rfl | split))) hp
      · replace h := (if_pos c16).symm.trans h
        refine st_aload_n dX6_readNumber_90 rfl rfl ?_
        refine st_iconst dX6_readNumber_91 (v := 2) rfl ?_
        obtain ⟨q10, e_q10, h⟩ := bnd h
        refine st_callV [.int 2] dX6_readNumber_92 co_X6_fails im_X6_fails se_X6_fails ml_RX6_65 rfl (by decide) rfl (rfl : classes[6]? = some (RX6, TX6, 6)) rfl (S := []) rfl (Nat.le_of_ble_eq_true rfl) (k_X6_fails (by omega) 2 H _ e_q10 ?_)
        show V (D + 1) RX6 mdX6_readNumber 95 [.ref 5, .int x1, .int x2, .int l7.1, .int l7.2, .null] [.int q10.1] q10.2 post
        obtain ⟨z, hz1, h⟩ := bnd h
        obtain ⟨rfl, hz⟩ := zr_some hz1
        obtain rfl := Option.some.inj h
        exact st_zret dX6_readNumber_95 rfl hz hp
    · replace h := (if_neg c15).symm.trans h
      refine st_aload_n dX6_readNumber_74 rfl rfl ?_
      refine st_iconst dX6_readNumber_75 (v := 1) rfl ?_
      obtain ⟨q13, e_q13, h⟩ := bnd h
      refine st_callV [.int 1] dX6_readNumber_76 co_X6_fails im_X6_fails se_X6_fails ml_RX6_65 rfl (by decide) rfl (rfl : classes[6]? = some (RX6, TX6, 6)) rfl (S := []) rfl (Nat.le_of_ble_eq_true rfl) (k_X6_fails (by omega) 1 H _ e_q13 ?_)
      show V (D + 1) RX6 mdX6_readNumber 79 [.ref 5, .int x1, .int x2, .int l7.1, .int l7.2, .null] [.int q13.1] q13.2 post
      obtain ⟨z, hz1, h⟩ := bnd h
      obtain ⟨rfl, hz⟩ := zr_some hz1
      obtain rfl := Option.some.inj h
      exact st_zret dX6_readNumber_79 rfl hz hp
def f_X6_readLaw (H : Hp) : Option (Int32 × Hp) :=
  (f_X6_readSign 109 H).bind fun q1 =>
  if q1.1 = 0 then
    some (0, q1.2)
  else
    (f_X6_readNumber 0 99 q1.2).bind fun q2 =>
    if q2.1 = 0 then
      some (0, q2.2)
    else
      (pf q2.2 13 1 ((q2.2 5 3) * 10)).bind fun H3 =>
      (f_X6_readSign 44 H3).bind fun q4 =>
      if q4.1 = 0 then
        some (0, q4.2)
      else
        (f_X6_readNumber 1 99 q4.2).bind fun q5 =>
        if q5.1 = 0 then
          some (0, q5.2)
        else
          (pf q5.2 13 2 (q5.2 5 3)).bind fun H6 =>
          (f_X6_readSign 59 H6).bind fun q7 =>
          (zr q7.1).bind fun z => some (z, q7.2)
set_option maxHeartbeats 4000000 in
set_option maxRecDepth 100000 in
theorem k_X6_readLaw {D : Nat} (hD : 2 ≤ D) (H : Hp) (q : Int32 × Hp) (h : f_X6_readLaw H = some q) {post : Option Value → Hp → Prop} (hp : post (some (.int q.1)) q.2) : Sem D mdX6_readLaw [.ref 5, .ref 13] H post := by
  obtain ⟨D, rfl⟩ : ∃ E, D = E + 1 := ⟨D - 1, by omega⟩
  refine sem_of (own := RX6) rfl pn_RX6 (Nat.le_of_ble_eq_true rfl) [.ref 5, .ref 13] ⟨Or.inr rfl, Or.inr rfl, trivial⟩ ?_
  unfold f_X6_readLaw at h
  refine st_aload_n dX6_readLaw_0 rfl rfl ?_
  refine st_bipush dX6_readLaw_1 (v := 109) (by decide) ?_
  obtain ⟨q1, e_q1, h⟩ := bnd h
  refine st_callV [.int 109] dX6_readLaw_3 co_X6_readSign im_X6_readSign se_X6_readSign ml_RX6_37 rfl (by decide) rfl (rfl : classes[6]? = some (RX6, TX6, 6)) rfl (S := []) rfl (Nat.le_of_ble_eq_true rfl) (k_X6_readSign (by omega) 109 H _ e_q1 ?_)
  show V (D + 1) RX6 mdX6_readLaw 6 [.ref 5, .ref 13] [.int q1.1] q1.2 post
  refine st_if_eq dX6_readLaw_6 19 (by decide) (fun c8 => ?_) (fun c8 => ?_)
  · replace h := (if_pos c8).symm.trans h
    refine st_iconst dX6_readLaw_19 (v := 0) rfl ?_
    obtain rfl := Option.some.inj h
    exact st_zret dX6_readLaw_20 rfl (by first | rfl | (split <;> rfl) | (repeat (first | rfl | split))) hp
  · replace h := (if_neg c8).symm.trans h
    refine st_aload_n dX6_readLaw_9 rfl rfl ?_
    refine st_iconst dX6_readLaw_10 (v := 0) rfl ?_
    refine st_bipush dX6_readLaw_11 (v := 99) (by decide) ?_
    obtain ⟨q2, e_q2, h⟩ := bnd h
    refine st_callV [.int 0, .int 99] dX6_readLaw_13 co_X6_readNumber im_X6_readNumber se_X6_readNumber ml_RX6_41 rfl (by decide) rfl (rfl : classes[6]? = some (RX6, TX6, 6)) rfl (S := []) rfl (Nat.le_of_ble_eq_true rfl) (k_X6_readNumber (by omega) 0 99 q1.2 _ e_q2 ?_)
    show V (D + 1) RX6 mdX6_readLaw 16 [.ref 5, .ref 13] [.int q2.1] q2.2 post
    refine st_if_ne dX6_readLaw_16 21 (by decide) (fun c9 => ?_) (fun c9 => ?_)
    · replace h := (if_neg c9).symm.trans h
      refine st_aload_n dX6_readLaw_21 rfl rfl ?_
      refine st_aload_n dX6_readLaw_22 rfl rfl ?_
      refine gI6 dX6_readLaw_23 (by decide) rfl 3 (by decide) fl_RX6_45 rfl rfl ?_
      refine st_bipush dX6_readLaw_26 (v := 10) (by decide) ?_
      refine st_imul dX6_readLaw_28 ?_
      obtain ⟨H3, e_H3, h⟩ := bnd h
      refine pI4 dX6_readLaw_29 (by decide) rfl 1 (by decide) fl_RX6_48 rfl rfl rfl rfl e_H3 ?_
      refine st_aload_n dX6_readLaw_32 rfl rfl ?_
      refine st_bipush dX6_readLaw_33 (v := 44) (by decide) ?_
      obtain ⟨q4, e_q4, h⟩ := bnd h
      refine st_callV [.int 44] dX6_readLaw_35 co_X6_readSign im_X6_readSign se_X6_readSign ml_RX6_37 rfl (by decide) rfl (rfl : classes[6]? = some (RX6, TX6, 6)) rfl (S := []) rfl (Nat.le_of_ble_eq_true rfl) (k_X6_readSign (by omega) 44 H3 _ e_q4 ?_)
      show V (D + 1) RX6 mdX6_readLaw 38 [.ref 5, .ref 13] [.int q4.1] q4.2 post
      refine st_if_eq dX6_readLaw_38 51 (by decide) (fun c10 => ?_) (fun c10 => ?_)
      · replace h := (if_pos c10).symm.trans h
        refine st_iconst dX6_readLaw_51 (v := 0) rfl ?_
        obtain rfl := Option.some.inj h
        exact st_zret dX6_readLaw_52 rfl (by first | rfl | (split <;> rfl) | (repeat (first | rfl | split))) hp
      · replace h := (if_neg c10).symm.trans h
        refine st_aload_n dX6_readLaw_41 rfl rfl ?_
        refine st_iconst dX6_readLaw_42 (v := 1) rfl ?_
        refine st_bipush dX6_readLaw_43 (v := 99) (by decide) ?_
        obtain ⟨q5, e_q5, h⟩ := bnd h
        refine st_callV [.int 1, .int 99] dX6_readLaw_45 co_X6_readNumber im_X6_readNumber se_X6_readNumber ml_RX6_41 rfl (by decide) rfl (rfl : classes[6]? = some (RX6, TX6, 6)) rfl (S := []) rfl (Nat.le_of_ble_eq_true rfl) (k_X6_readNumber (by omega) 1 99 q4.2 _ e_q5 ?_)
        show V (D + 1) RX6 mdX6_readLaw 48 [.ref 5, .ref 13] [.int q5.1] q5.2 post
        refine st_if_ne dX6_readLaw_48 53 (by decide) (fun c11 => ?_) (fun c11 => ?_)
        · replace h := (if_neg c11).symm.trans h
          refine st_aload_n dX6_readLaw_53 rfl rfl ?_
          refine st_aload_n dX6_readLaw_54 rfl rfl ?_
          refine gI6 dX6_readLaw_55 (by decide) rfl 3 (by decide) fl_RX6_45 rfl rfl ?_
          obtain ⟨H6, e_H6, h⟩ := bnd h
          refine pI4 dX6_readLaw_58 (by decide) rfl 2 (by decide) fl_RX6_51 rfl rfl rfl rfl e_H6 ?_
          refine st_aload_n dX6_readLaw_61 rfl rfl ?_
          refine st_bipush dX6_readLaw_62 (v := 59) (by decide) ?_
          obtain ⟨q7, e_q7, h⟩ := bnd h
          refine st_callV [.int 59] dX6_readLaw_64 co_X6_readSign im_X6_readSign se_X6_readSign ml_RX6_37 rfl (by decide) rfl (rfl : classes[6]? = some (RX6, TX6, 6)) rfl (S := []) rfl (Nat.le_of_ble_eq_true rfl) (k_X6_readSign (by omega) 59 H6 _ e_q7 ?_)
          show V (D + 1) RX6 mdX6_readLaw 67 [.ref 5, .ref 13] [.int q7.1] q7.2 post
          obtain ⟨z, hz1, h⟩ := bnd h
          obtain ⟨rfl, hz⟩ := zr_some hz1
          obtain rfl := Option.some.inj h
          exact st_zret dX6_readLaw_67 rfl hz hp
        · replace h := (if_pos c11).symm.trans h
          refine st_iconst dX6_readLaw_51 (v := 0) rfl ?_
          obtain rfl := Option.some.inj h
          exact st_zret dX6_readLaw_52 rfl (by first | rfl | (split <;> rfl) | (repeat (first | rfl | split))) hp
    · replace h := (if_pos c9).symm.trans h
      refine st_iconst dX6_readLaw_19 (v := 0) rfl ?_
      obtain rfl := Option.some.inj h
      exact st_zret dX6_readLaw_20 rfl (by first | rfl | (split <;> rfl) | (repeat (first | rfl | split))) hp
def f_X6_kindTold (x0 : Int32) : Option (Int32) :=
  if x0 = 99 then
    some 5
  else
  if x0 = 102 then
    some 4
  else
  if x0 = 104 then
    some 3
  else
  if x0 = 111 then
    some 1
  else
  if x0 = 115 then
    some 2
  else
    some 0
set_option maxHeartbeats 4000000 in
set_option maxRecDepth 100000 in
theorem k_X6_kindTold {D : Nat} (hD : 0 ≤ D) (x0 : Int32) (H : Hp) (q : Int32) (h : f_X6_kindTold x0 = some q) {post : Option Value → Hp → Prop} (hp : post (some (.int q)) H) : Sem D mdX6_kindTold [.int x0] H post := by
  refine sem_of (own := RX6) rfl pn_RX6 (Nat.le_of_ble_eq_true rfl) [.int x0] ⟨Or.inr rfl, trivial⟩ ?_
  unfold f_X6_kindTold at h
  refine st_iload_n dX6_kindTold_0 rfl rfl ?_
  by_cases s1 : x0 = 99
  · replace h := (if_pos s1).symm.trans h
    refine st_lookup dX6_kindTold_1 (by decide) (by rw [s1] <;> rfl) 60 (by decide) ?_
    refine st_iconst dX6_kindTold_60 (v := 5) rfl ?_
    obtain rfl := Option.some.inj h
    exact st_iret dX6_kindTold_61 rfl hp
  · replace h := (if_neg s1).symm.trans h
    by_cases s2 : x0 = 102
    · replace h := (if_pos s2).symm.trans h
      refine st_lookup dX6_kindTold_1 (by decide) (by rw [s2] <;> rfl) 58 (by decide) ?_
      refine st_iconst dX6_kindTold_58 (v := 4) rfl ?_
      obtain rfl := Option.some.inj h
      exact st_iret dX6_kindTold_59 rfl hp
    · replace h := (if_neg s2).symm.trans h
      by_cases s3 : x0 = 104
      · replace h := (if_pos s3).symm.trans h
        refine st_lookup dX6_kindTold_1 (by decide) (by rw [s3] <;> rfl) 56 (by decide) ?_
        refine st_iconst dX6_kindTold_56 (v := 3) rfl ?_
        obtain rfl := Option.some.inj h
        exact st_iret dX6_kindTold_57 rfl hp
      · replace h := (if_neg s3).symm.trans h
        by_cases s4 : x0 = 111
        · replace h := (if_pos s4).symm.trans h
          refine st_lookup dX6_kindTold_1 (by decide) (by rw [s4] <;> rfl) 52 (by decide) ?_
          refine st_iconst dX6_kindTold_52 (v := 1) rfl ?_
          obtain rfl := Option.some.inj h
          exact st_iret dX6_kindTold_53 rfl hp
        · replace h := (if_neg s4).symm.trans h
          by_cases s5 : x0 = 115
          · replace h := (if_pos s5).symm.trans h
            refine st_lookup dX6_kindTold_1 (by decide) (by rw [s5] <;> rfl) 54 (by decide) ?_
            refine st_iconst dX6_kindTold_54 (v := 2) rfl ?_
            obtain rfl := Option.some.inj h
            exact st_iret dX6_kindTold_55 rfl hp
          · replace h := (if_neg s5).symm.trans h
            refine st_lookup dX6_kindTold_1 (by decide) (off := 61) ((lv_osw s1 (by decide)).trans ((lv_osw s2 (by decide)).trans ((lv_osw s3 (by decide)).trans ((lv_osw s4 (by decide)).trans ((lv_osw s5 (by decide)).trans rfl))))) 62 (by decide) ?_
            refine st_iconst dX6_kindTold_62 (v := 0) rfl ?_
            obtain rfl := Option.some.inj h
            exact st_iret dX6_kindTold_63 rfl hp
def f_X6_readProjects_l2 : Nat → Int32 → Hp → Option ((Hp) ⊕ (Int32 × Hp))
  | 0, _, _ => none
  | n + 1, x2, H =>
    if 6 < x2 then
      some (.inl H)
    else
      (f_X6_byteHere H).bind fun v1 =>
      (f_X6_kindTold v1).bind fun v2 =>
      if v2 = 0 then
        Option.bind (
          if 0 < (H 13 3) then
            some (1, H)
          else
            (f_X6_fails 1 H).bind fun q3 =>
            if q3.1 = 0 then
              some (0, q3.2)
            else
              some (1, q3.2)) fun j4 =>
        (zr j4.1).bind fun z => some (.inr (z, j4.2))
      else
        if (H 13 3) < 6 then
          (pf H 5 2 ((H 5 2) + 1)).bind fun H5 =>
          (f_X6_readSign 59 H5).bind fun q6 =>
          if q6.1 = 0 then
            some (.inr (0, q6.2))
          else
            (as q6.2 14 6 (q6.2 13 3) v2).bind fun H7 =>
            (pf H7 13 3 ((H7 13 3) + 1)).bind fun H8 =>
            f_X6_readProjects_l2 n (x2 + 1) H8
        else
          (f_X6_fails 3 H).bind fun q9 =>
          (zr q9.1).bind fun z => some (.inr (z, q9.2))
def f_X6_readProjects (H : Hp) : Option (Int32 × Hp) :=
  (f_X6_readProjects_l2 fuel 0 H).bind fun l17 => Sum.elim (fun t18 =>
    some (1, t18)) (fun r => some r) l17
set_option maxHeartbeats 4000000 in
set_option maxRecDepth 100000 in
theorem k_X6_readProjects_l2 {D : Nat} (hD : 2 ≤ (D + 1)) {post : Option Value → Hp → Prop} : ∀ (n : Nat) (x2 : Int32) (H : Hp) (q : (Hp) ⊕ (Int32 × Hp)), f_X6_readProjects_l2 n x2 H = some q → (∀ t, q = .inl t → V (D + 1) RX6 mdX6_readProjects 103 [.null, .null, .null, .null] [] t post) → (∀ r, q = .inr r → post (some (.int r.1)) r.2) → V (D + 1) RX6 mdX6_readProjects 2 [.ref 5, .ref 13, .int x2, .null] [] H post := by
  intro n
  induction n with
  | zero => intro x2 H q h; simp [f_X6_readProjects_l2] at h
  | succ n ih =>
    intro x2 H q h k1 k2
    rw [f_X6_readProjects_l2] at h
    refine st_iload_n dX6_readProjects_2 rfl rfl ?_
    refine st_bipush dX6_readProjects_3 (v := 6) (by decide) ?_
    refine st_ic_gt dX6_readProjects_5 103 (by decide) (fun c10 => ?_) (fun c10 => ?_)
    · replace h := (if_pos c10).symm.trans h
      exact st_sub [.null, .null, .null, .null] ⟨Or.inl rfl, Or.inl rfl, Or.inl rfl, Or.inl rfl, trivial⟩ (k1 _ (Option.some.inj h).symm)
    · replace h := (if_neg c10).symm.trans h
      refine st_aload_n dX6_readProjects_8 rfl rfl ?_
      obtain ⟨v1, e_v1, h⟩ := bnd h
      refine st_callV [] dX6_readProjects_9 co_X6_byteHere im_X6_byteHere se_X6_byteHere ml_RX6_54 rfl (by decide) rfl (rfl : classes[6]? = some (RX6, TX6, 6)) rfl (S := []) rfl (Nat.le_of_ble_eq_true rfl) (k_X6_byteHere (by omega) H _ e_v1 ?_)
      show V (D + 1) RX6 mdX6_readProjects 12 [.ref 5, .ref 13, .int x2, .null] [.int v1] H post
      obtain ⟨v2, e_v2, h⟩ := bnd h
      refine st_callS [.int v1] dX6_readProjects_12 co_X6_kindTold sm_X6_kindTold ml_RX6_58 rfl (S := []) rfl (Nat.le_of_ble_eq_true rfl) (k_X6_kindTold (by omega) v1 H _ e_v2 ?_)
      show V (D + 1) RX6 mdX6_readProjects 15 [.ref 5, .ref 13, .int x2, .null] [.int v2] H post
      refine st_istore_n dX6_readProjects_15 rfl (by decide) [.ref 5, .ref 13, .int x2, .int v2] rfl ?_
      refine st_iload_n dX6_readProjects_16 rfl rfl ?_
      refine st_if_ne dX6_readProjects_17 41 (by decide) (fun c11 => ?_) (fun c11 => ?_)
      · replace h := (if_neg c11).symm.trans h
        refine st_aload_n dX6_readProjects_41 rfl rfl ?_
        refine gI4 dX6_readProjects_42 (by decide) rfl 3 (by decide) fl_RX6_62 rfl rfl ?_
        refine st_bipush dX6_readProjects_45 (v := 6) (by decide) ?_
        refine st_ic_lt dX6_readProjects_47 56 (by decide) (fun c15 => ?_) (fun c15 => ?_)
        · replace h := (if_pos c15).symm.trans h
          refine st_aload_n dX6_readProjects_56 rfl rfl ?_
          refine st_dup dX6_readProjects_57 rfl ?_
          refine gI6 dX6_readProjects_58 (by decide) rfl 2 (by decide) fl_RX6_19 rfl rfl ?_
          refine st_iconst dX6_readProjects_61 (v := 1) rfl ?_
          refine st_iadd dX6_readProjects_62 ?_
          obtain ⟨H5, e_H5, h⟩ := bnd h
          refine pI6 dX6_readProjects_63 (by decide) rfl 2 (by decide) fl_RX6_19 rfl rfl rfl rfl e_H5 ?_
          refine st_aload_n dX6_readProjects_66 rfl rfl ?_
          refine st_bipush dX6_readProjects_67 (v := 59) (by decide) ?_
          obtain ⟨q6, e_q6, h⟩ := bnd h
          refine st_callV [.int 59] dX6_readProjects_69 co_X6_readSign im_X6_readSign se_X6_readSign ml_RX6_37 rfl (by decide) rfl (rfl : classes[6]? = some (RX6, TX6, 6)) rfl (S := []) rfl (Nat.le_of_ble_eq_true rfl) (k_X6_readSign (by omega) 59 H5 _ e_q6 ?_)
          show V (D + 1) RX6 mdX6_readProjects 72 [.ref 5, .ref 13, .int x2, .int v2] [.int q6.1] q6.2 post
          refine st_if_ne dX6_readProjects_72 77 (by decide) (fun c16 => ?_) (fun c16 => ?_)
          · replace h := (if_neg c16).symm.trans h
            refine st_aload_n dX6_readProjects_77 rfl rfl ?_
            refine gR4 dX6_readProjects_78 (by decide) rfl 5 (by decide) fl_RX6_69 rfl 14 rfl ?_
            refine st_aload_n dX6_readProjects_81 rfl rfl ?_
            refine gI4 dX6_readProjects_82 (by decide) rfl 3 (by decide) fl_RX6_62 rfl rfl ?_
            refine st_iload_n dX6_readProjects_85 rfl rfl ?_
            obtain ⟨H7, e_H7, h⟩ := bnd h
            refine st_iast dX6_readProjects_86 (by decide) rfl H7 e_H7 ?_
            refine st_aload_n dX6_readProjects_87 rfl rfl ?_
            refine st_dup dX6_readProjects_88 rfl ?_
            refine gI4 dX6_readProjects_89 (by decide) rfl 3 (by decide) fl_RX6_62 rfl rfl ?_
            refine st_iconst dX6_readProjects_92 (v := 1) rfl ?_
            refine st_iadd dX6_readProjects_93 ?_
            obtain ⟨H8, e_H8, h⟩ := bnd h
            refine pI4 dX6_readProjects_94 (by decide) rfl 3 (by decide) fl_RX6_62 rfl rfl rfl rfl e_H8 ?_
            refine st_iinc dX6_readProjects_97 rfl (v := (x2 + 1)) rfl (by decide) [.ref 5, .ref 13, .int (x2 + 1), .int v2] rfl ?_
            refine st_goto dX6_readProjects_100 2 (by decide) ?_
            exact st_sub [.ref 5, .ref 13, .int (x2 + 1), .null] ⟨Or.inr rfl, Or.inr rfl, Or.inr rfl, Or.inl rfl, trivial⟩ (ih (x2 + 1) H8 q h k1 k2)
          · replace h := (if_pos c16).symm.trans h
            refine st_iconst dX6_readProjects_75 (v := 0) rfl ?_
            have hp := k2 _ (Option.some.inj h).symm
            exact st_zret dX6_readProjects_76 rfl (by first | rfl | (split <;> rfl) | (repeat (first | rfl | split))) hp
        · replace h := (if_neg c15).symm.trans h
          refine st_aload_n dX6_readProjects_50 rfl rfl ?_
          refine st_iconst dX6_readProjects_51 (v := 3) rfl ?_
          obtain ⟨q9, e_q9, h⟩ := bnd h
          refine st_callV [.int 3] dX6_readProjects_52 co_X6_fails im_X6_fails se_X6_fails ml_RX6_65 rfl (by decide) rfl (rfl : classes[6]? = some (RX6, TX6, 6)) rfl (S := []) rfl (Nat.le_of_ble_eq_true rfl) (k_X6_fails (by omega) 3 H _ e_q9 ?_)
          show V (D + 1) RX6 mdX6_readProjects 55 [.ref 5, .ref 13, .int x2, .int v2] [.int q9.1] q9.2 post
          obtain ⟨z, hz1, h⟩ := bnd h
          obtain ⟨rfl, hz⟩ := zr_some hz1
          have hp := k2 _ (Option.some.inj h).symm
          exact st_zret dX6_readProjects_55 rfl hz hp
      · replace h := (if_pos c11).symm.trans h
        refine st_aload_n dX6_readProjects_20 rfl rfl ?_
        refine gI4 dX6_readProjects_21 (by decide) rfl 3 (by decide) fl_RX6_62 rfl rfl ?_
        obtain ⟨j4, e_j4, h⟩ := bnd h
        have kj12 : V (D + 1) RX6 mdX6_readProjects 40 [.null, .null, .null, .null] [.int j4.1] j4.2 post := by
          obtain ⟨z, hz1, h⟩ := bnd h
          obtain ⟨rfl, hz⟩ := zr_some hz1
          have hp := k2 _ (Option.some.inj h).symm
          exact st_zret dX6_readProjects_40 rfl hz hp
        refine st_if_gt dX6_readProjects_24 35 (by decide) (fun c13 => ?_) (fun c13 => ?_)
        · replace e_j4 := (if_pos c13).symm.trans e_j4
          refine st_iconst dX6_readProjects_35 (v := 1) rfl ?_
          refine st_goto dX6_readProjects_36 40 (by decide) ?_
          obtain rfl := Option.some.inj e_j4
          exact st_sub [.null, .null, .null, .null] ⟨Or.inl rfl, Or.inl rfl, Or.inl rfl, Or.inl rfl, trivial⟩ kj12
        · replace e_j4 := (if_neg c13).symm.trans e_j4
          refine st_aload_n dX6_readProjects_27 rfl rfl ?_
          refine st_iconst dX6_readProjects_28 (v := 1) rfl ?_
          obtain ⟨q3, e_q3, e_j4⟩ := bnd e_j4
          refine st_callV [.int 1] dX6_readProjects_29 co_X6_fails im_X6_fails se_X6_fails ml_RX6_65 rfl (by decide) rfl (rfl : classes[6]? = some (RX6, TX6, 6)) rfl (S := []) rfl (Nat.le_of_ble_eq_true rfl) (k_X6_fails (by omega) 1 H _ e_q3 ?_)
          show V (D + 1) RX6 mdX6_readProjects 32 [.ref 5, .ref 13, .int x2, .int v2] [.int q3.1] q3.2 post
          refine st_if_eq dX6_readProjects_32 39 (by decide) (fun c14 => ?_) (fun c14 => ?_)
          · replace e_j4 := (if_pos c14).symm.trans e_j4
            refine st_iconst dX6_readProjects_39 (v := 0) rfl ?_
            obtain rfl := Option.some.inj e_j4
            exact st_sub [.null, .null, .null, .null] ⟨Or.inl rfl, Or.inl rfl, Or.inl rfl, Or.inl rfl, trivial⟩ kj12
          · replace e_j4 := (if_neg c14).symm.trans e_j4
            refine st_iconst dX6_readProjects_35 (v := 1) rfl ?_
            refine st_goto dX6_readProjects_36 40 (by decide) ?_
            obtain rfl := Option.some.inj e_j4
            exact st_sub [.null, .null, .null, .null] ⟨Or.inl rfl, Or.inl rfl, Or.inl rfl, Or.inl rfl, trivial⟩ kj12
set_option maxHeartbeats 4000000 in
set_option maxRecDepth 100000 in
theorem k_X6_readProjects {D : Nat} (hD : 2 ≤ D) (H : Hp) (q : Int32 × Hp) (h : f_X6_readProjects H = some q) {post : Option Value → Hp → Prop} (hp : post (some (.int q.1)) q.2) : Sem D mdX6_readProjects [.ref 5, .ref 13] H post := by
  obtain ⟨D, rfl⟩ : ∃ E, D = E + 1 := ⟨D - 1, by omega⟩
  refine sem_of (own := RX6) rfl pn_RX6 (Nat.le_of_ble_eq_true rfl) [.ref 5, .ref 13, .null, .null] ⟨Or.inr rfl, Or.inr rfl, rfl, rfl, trivial⟩ ?_
  unfold f_X6_readProjects at h
  refine st_iconst dX6_readProjects_0 (v := 0) rfl ?_
  refine st_istore_n dX6_readProjects_1 rfl (by decide) [.ref 5, .ref 13, .int 0, .null] rfl ?_
  obtain ⟨l17, e_l17, h⟩ := bnd h
  refine k_X6_readProjects_l2 (by omega) fuel 0 H _ e_l17 (fun t18 z => ?_) (fun r z => ?_)
  · subst z
    rw [Sum.elim_inl] at h
    refine st_iconst dX6_readProjects_103 (v := 1) rfl ?_
    obtain rfl := Option.some.inj h
    exact st_zret dX6_readProjects_104 rfl (by first | rfl | (split <;> rfl) | (repeat (first | rfl | split))) hp
  · subst z
    rw [Sum.elim_inr] at h
    obtain rfl := Option.some.inj h
    exact hp
def f_X4_putGift_l6 (b : Nat) (x1 : Int32) : Nat → Int32 → Hp → Option (Hp)
  | 0, _, _ => none
  | n + 1, x5, H =>
    if x5 ≤ x1 then
      some H
    else
      (ag H (b + 3) 20 (x5 - 1)).bind fun v1 =>
      (as H (b + 3) 20 x5 v1).bind fun H2 =>
      (ag H2 (b + 4) 20 (x5 - 1)).bind fun v3 =>
      (as H2 (b + 4) 20 x5 v3).bind fun H4 =>
      (ag H4 (b + 5) 20 (x5 - 1)).bind fun v5 =>
      (as H4 (b + 5) 20 x5 v5).bind fun H6 =>
      f_X4_putGift_l6 b x1 n (x5 + (-1)) H6
def f_X4_putGift (b : Nat) (x1 : Int32) (x2 : Int32) (x3 : Int32) (x4 : Int32) (H : Hp) : Option (Hp) :=
  (f_X4_putGift_l6 b x1 fuel (H b 4) H).bind fun l8 =>
  (as l8 (b + 3) 20 x1 x2).bind fun H9 =>
  (as H9 (b + 4) 20 x1 x3).bind fun H10 =>
  (as H10 (b + 5) 20 x1 x4).bind fun H11 =>
  (pf H11 b 4 ((H11 b 4) + 1)).bind fun H12 =>
  some H12
set_option maxHeartbeats 4000000 in
set_option maxRecDepth 100000 in
theorem k_X4_putGift_l6 {D : Nat} (hD : 0 ≤ D) {b : Nat} (hb : FC b) (x1 : Int32) (x2 : Int32) (x3 : Int32) (x4 : Int32) {post : Option Value → Hp → Prop} : ∀ (n : Nat) (x5 : Int32) (H : Hp) (q : Hp), f_X4_putGift_l6 b x1 n x5 H = some q → V D RX4 mdX4_putGift 66 [.ref b, .int x1, .int x2, .int x3, .int x4, .null] [] q post → V D RX4 mdX4_putGift 6 [.ref b, .int x1, .int x2, .int x3, .int x4, .int x5] [] H post := by
  intro n
  induction n with
  | zero => intro x5 H q h; simp [f_X4_putGift_l6] at h
  | succ n ih =>
    intro x5 H q h k1
    rw [f_X4_putGift_l6] at h
    refine st_iload dX4_putGift_6 rfl ?_
    refine st_iload_n dX4_putGift_8 rfl rfl ?_
    refine st_ic_le dX4_putGift_9 66 (by decide) (fun c7 => ?_) (fun c7 => ?_)
    · replace h := (if_pos c7).symm.trans h
      obtain rfl := Option.some.inj h
      exact st_sub [.ref b, .int x1, .int x2, .int x3, .int x4, .null] ⟨Or.inr rfl, Or.inr rfl, Or.inr rfl, Or.inr rfl, Or.inr rfl, Or.inl rfl, trivial⟩ k1
    · replace h := (if_neg c7).symm.trans h
      refine st_aload_n dX4_putGift_12 rfl rfl ?_
      refine gR4 dX4_putGift_13 (FC_0 hb).1 (FC_0 hb).2 7 (by decide) fl_RX4_18 rfl (b + 3) (FR_7 hb) ?_
      refine st_iload dX4_putGift_16 rfl ?_
      refine st_aload_n dX4_putGift_18 rfl rfl ?_
      refine gR4 dX4_putGift_19 (FC_0 hb).1 (FC_0 hb).2 7 (by decide) fl_RX4_18 rfl (b + 3) (FR_7 hb) ?_
      refine st_iload dX4_putGift_22 rfl ?_
      refine st_iconst dX4_putGift_24 (v := 1) rfl ?_
      refine st_isub dX4_putGift_25 ?_
      obtain ⟨v1, e_v1, h⟩ := bnd h
      refine st_iald dX4_putGift_26 (FC_3 hb).1 (FC_3 hb).2 v1 e_v1 ?_
      obtain ⟨H2, e_H2, h⟩ := bnd h
      refine st_iast dX4_putGift_27 (FC_3 hb).1 (FC_3 hb).2 H2 e_H2 ?_
      refine st_aload_n dX4_putGift_28 rfl rfl ?_
      refine gR4 dX4_putGift_29 (FC_0 hb).1 (FC_0 hb).2 8 (by decide) fl_RX4_21 rfl (b + 4) (FR_8 hb) ?_
      refine st_iload dX4_putGift_32 rfl ?_
      refine st_aload_n dX4_putGift_34 rfl rfl ?_
      refine gR4 dX4_putGift_35 (FC_0 hb).1 (FC_0 hb).2 8 (by decide) fl_RX4_21 rfl (b + 4) (FR_8 hb) ?_
      refine st_iload dX4_putGift_38 rfl ?_
      refine st_iconst dX4_putGift_40 (v := 1) rfl ?_
      refine st_isub dX4_putGift_41 ?_
      obtain ⟨v3, e_v3, h⟩ := bnd h
      refine st_iald dX4_putGift_42 (FC_4 hb).1 (FC_4 hb).2 v3 e_v3 ?_
      obtain ⟨H4, e_H4, h⟩ := bnd h
      refine st_iast dX4_putGift_43 (FC_4 hb).1 (FC_4 hb).2 H4 e_H4 ?_
      refine st_aload_n dX4_putGift_44 rfl rfl ?_
      refine gR4 dX4_putGift_45 (FC_0 hb).1 (FC_0 hb).2 9 (by decide) fl_RX4_24 rfl (b + 5) (FR_9 hb) ?_
      refine st_iload dX4_putGift_48 rfl ?_
      refine st_aload_n dX4_putGift_50 rfl rfl ?_
      refine gR4 dX4_putGift_51 (FC_0 hb).1 (FC_0 hb).2 9 (by decide) fl_RX4_24 rfl (b + 5) (FR_9 hb) ?_
      refine st_iload dX4_putGift_54 rfl ?_
      refine st_iconst dX4_putGift_56 (v := 1) rfl ?_
      refine st_isub dX4_putGift_57 ?_
      obtain ⟨v5, e_v5, h⟩ := bnd h
      refine st_iald dX4_putGift_58 (FC_5 hb).1 (FC_5 hb).2 v5 e_v5 ?_
      obtain ⟨H6, e_H6, h⟩ := bnd h
      refine st_iast dX4_putGift_59 (FC_5 hb).1 (FC_5 hb).2 H6 e_H6 ?_
      refine st_iinc dX4_putGift_60 rfl (v := (x5 + (-1))) rfl (by decide) [.ref b, .int x1, .int x2, .int x3, .int x4, .int (x5 + (-1))] rfl ?_
      refine st_goto dX4_putGift_63 6 (by decide) ?_
      exact ih (x5 + (-1)) H6 q h k1
set_option maxHeartbeats 4000000 in
set_option maxRecDepth 100000 in
theorem k_X4_putGift {D : Nat} (hD : 0 ≤ D) {b : Nat} (hb : FC b) (x1 : Int32) (x2 : Int32) (x3 : Int32) (x4 : Int32) (H : Hp) (q : Hp) (h : f_X4_putGift b x1 x2 x3 x4 H = some q) {post : Option Value → Hp → Prop} (hp : post none q) : Sem D mdX4_putGift [.ref b, .int x1, .int x2, .int x3, .int x4] H post := by
  refine sem_of (own := RX4) rfl pn_RX4 (Nat.le_of_ble_eq_true rfl) [.ref b, .int x1, .int x2, .int x3, .int x4, .null] ⟨Or.inr rfl, Or.inr rfl, Or.inr rfl, Or.inr rfl, Or.inr rfl, rfl, trivial⟩ ?_
  unfold f_X4_putGift at h
  refine st_aload_n dX4_putGift_0 rfl rfl ?_
  refine gI4 dX4_putGift_1 (FC_0 hb).1 (FC_0 hb).2 4 (by decide) fl_RX4_41 rfl (FN_4 hb) ?_
  refine st_istore dX4_putGift_4 (by decide) [.ref b, .int x1, .int x2, .int x3, .int x4, .int (H b 4)] rfl ?_
  obtain ⟨l8, e_l8, h⟩ := bnd h
  refine k_X4_putGift_l6 (by omega) hb x1 x2 x3 x4 fuel (H b 4) H _ e_l8 ?_
  refine st_aload_n dX4_putGift_66 rfl rfl ?_
  refine gR4 dX4_putGift_67 (FC_0 hb).1 (FC_0 hb).2 7 (by decide) fl_RX4_18 rfl (b + 3) (FR_7 hb) ?_
  refine st_iload_n dX4_putGift_70 rfl rfl ?_
  refine st_iload_n dX4_putGift_71 rfl rfl ?_
  obtain ⟨H9, e_H9, h⟩ := bnd h
  refine st_iast dX4_putGift_72 (FC_3 hb).1 (FC_3 hb).2 H9 e_H9 ?_
  refine st_aload_n dX4_putGift_73 rfl rfl ?_
  refine gR4 dX4_putGift_74 (FC_0 hb).1 (FC_0 hb).2 8 (by decide) fl_RX4_21 rfl (b + 4) (FR_8 hb) ?_
  refine st_iload_n dX4_putGift_77 rfl rfl ?_
  refine st_iload_n dX4_putGift_78 rfl rfl ?_
  obtain ⟨H10, e_H10, h⟩ := bnd h
  refine st_iast dX4_putGift_79 (FC_4 hb).1 (FC_4 hb).2 H10 e_H10 ?_
  refine st_aload_n dX4_putGift_80 rfl rfl ?_
  refine gR4 dX4_putGift_81 (FC_0 hb).1 (FC_0 hb).2 9 (by decide) fl_RX4_24 rfl (b + 5) (FR_9 hb) ?_
  refine st_iload_n dX4_putGift_84 rfl rfl ?_
  refine st_iload dX4_putGift_85 rfl ?_
  obtain ⟨H11, e_H11, h⟩ := bnd h
  refine st_iast dX4_putGift_87 (FC_5 hb).1 (FC_5 hb).2 H11 e_H11 ?_
  refine st_aload_n dX4_putGift_88 rfl rfl ?_
  refine st_dup dX4_putGift_89 rfl ?_
  refine gI4 dX4_putGift_90 (FC_0 hb).1 (FC_0 hb).2 4 (by decide) fl_RX4_41 rfl (FN_4 hb) ?_
  refine st_iconst dX4_putGift_93 (v := 1) rfl ?_
  refine st_iadd dX4_putGift_94 ?_
  obtain ⟨H12, e_H12, h⟩ := bnd h
  refine pI4 dX4_putGift_95 (FC_0 hb).1 (FC_0 hb).2 4 (by decide) fl_RX4_41 rfl rfl (FN_4 hb) rfl e_H12 ?_
  obtain rfl := Option.some.inj h
  exact st_vret dX4_putGift_98 rfl hp
def f_X6_readGift (H : Hp) : Option (Int32 × Hp) :=
  (f_X6_readSign 103 H).bind fun q1 =>
  if q1.1 = 0 then
    some (0, q1.2)
  else
    (f_X6_readNumber 0 9 q1.2).bind fun q2 =>
    if q2.1 = 0 then
      some (0, q2.2)
    else
      (f_X6_readSign 44 q2.2).bind fun q3 =>
      if q3.1 = 0 then
        some (0, q3.2)
      else
        (f_X6_readNumber 0 ((q3.2 13 3) - 1) q3.2).bind fun q4 =>
        if q4.1 = 0 then
          some (0, q4.2)
        else
          (f_X6_readSign 44 q4.2).bind fun q5 =>
          if q5.1 = 0 then
            some (0, q5.2)
          else
            (f_X6_readNumber 1 99 q5.2).bind fun q6 =>
            if q6.1 = 0 then
              some (0, q6.2)
            else
              (f_X6_readSign 59 q6.2).bind fun q7 =>
              if q7.1 = 0 then
                some (0, q7.2)
              else
                (f_X4_putGift 13 (q7.2 13 4) (q2.2 5 3) (q4.2 5 3) (q6.2 5 3) q7.2).bind fun H8 =>
                some (1, H8)
set_option maxHeartbeats 4000000 in
set_option maxRecDepth 100000 in
theorem k_X6_readGift {D : Nat} (hD : 2 ≤ D) (H : Hp) (q : Int32 × Hp) (h : f_X6_readGift H = some q) {post : Option Value → Hp → Prop} (hp : post (some (.int q.1)) q.2) : Sem D mdX6_readGift [.ref 5, .ref 13] H post := by
  obtain ⟨D, rfl⟩ : ∃ E, D = E + 1 := ⟨D - 1, by omega⟩
  refine sem_of (own := RX6) rfl pn_RX6 (Nat.le_of_ble_eq_true rfl) [.ref 5, .ref 13, .null, .null, .null] ⟨Or.inr rfl, Or.inr rfl, rfl, rfl, rfl, trivial⟩ ?_
  unfold f_X6_readGift at h
  refine st_aload_n dX6_readGift_0 rfl rfl ?_
  refine st_bipush dX6_readGift_1 (v := 103) (by decide) ?_
  obtain ⟨q1, e_q1, h⟩ := bnd h
  refine st_callV [.int 103] dX6_readGift_3 co_X6_readSign im_X6_readSign se_X6_readSign ml_RX6_37 rfl (by decide) rfl (rfl : classes[6]? = some (RX6, TX6, 6)) rfl (S := []) rfl (Nat.le_of_ble_eq_true rfl) (k_X6_readSign (by omega) 103 H _ e_q1 ?_)
  show V (D + 1) RX6 mdX6_readGift 6 [.ref 5, .ref 13, .null, .null, .null] [.int q1.1] q1.2 post
  refine st_if_eq dX6_readGift_6 19 (by decide) (fun c9 => ?_) (fun c9 => ?_)
  · replace h := (if_pos c9).symm.trans h
    refine st_iconst dX6_readGift_19 (v := 0) rfl ?_
    obtain rfl := Option.some.inj h
    exact st_zret dX6_readGift_20 rfl (by first | rfl | (split <;> rfl) | (repeat (first | rfl | split))) hp
  · replace h := (if_neg c9).symm.trans h
    refine st_aload_n dX6_readGift_9 rfl rfl ?_
    refine st_iconst dX6_readGift_10 (v := 0) rfl ?_
    refine st_bipush dX6_readGift_11 (v := 9) (by decide) ?_
    obtain ⟨q2, e_q2, h⟩ := bnd h
    refine st_callV [.int 0, .int 9] dX6_readGift_13 co_X6_readNumber im_X6_readNumber se_X6_readNumber ml_RX6_41 rfl (by decide) rfl (rfl : classes[6]? = some (RX6, TX6, 6)) rfl (S := []) rfl (Nat.le_of_ble_eq_true rfl) (k_X6_readNumber (by omega) 0 9 q1.2 _ e_q2 ?_)
    show V (D + 1) RX6 mdX6_readGift 16 [.ref 5, .ref 13, .null, .null, .null] [.int q2.1] q2.2 post
    refine st_if_ne dX6_readGift_16 21 (by decide) (fun c10 => ?_) (fun c10 => ?_)
    · replace h := (if_neg c10).symm.trans h
      refine st_aload_n dX6_readGift_21 rfl rfl ?_
      refine gI6 dX6_readGift_22 (by decide) rfl 3 (by decide) fl_RX6_45 rfl rfl ?_
      refine st_istore_n dX6_readGift_25 rfl (by decide) [.ref 5, .ref 13, .int (q2.2 5 3), .null, .null] rfl ?_
      refine st_aload_n dX6_readGift_26 rfl rfl ?_
      refine st_bipush dX6_readGift_27 (v := 44) (by decide) ?_
      obtain ⟨q3, e_q3, h⟩ := bnd h
      refine st_callV [.int 44] dX6_readGift_29 co_X6_readSign im_X6_readSign se_X6_readSign ml_RX6_37 rfl (by decide) rfl (rfl : classes[6]? = some (RX6, TX6, 6)) rfl (S := []) rfl (Nat.le_of_ble_eq_true rfl) (k_X6_readSign (by omega) 44 q2.2 _ e_q3 ?_)
      show V (D + 1) RX6 mdX6_readGift 32 [.ref 5, .ref 13, .int (q2.2 5 3), .null, .null] [.int q3.1] q3.2 post
      refine st_if_eq dX6_readGift_32 49 (by decide) (fun c11 => ?_) (fun c11 => ?_)
      · replace h := (if_pos c11).symm.trans h
        refine st_iconst dX6_readGift_49 (v := 0) rfl ?_
        obtain rfl := Option.some.inj h
        exact st_zret dX6_readGift_50 rfl (by first | rfl | (split <;> rfl) | (repeat (first | rfl | split))) hp
      · replace h := (if_neg c11).symm.trans h
        refine st_aload_n dX6_readGift_35 rfl rfl ?_
        refine st_iconst dX6_readGift_36 (v := 0) rfl ?_
        refine st_aload_n dX6_readGift_37 rfl rfl ?_
        refine gI4 dX6_readGift_38 (by decide) rfl 3 (by decide) fl_RX6_62 rfl rfl ?_
        refine st_iconst dX6_readGift_41 (v := 1) rfl ?_
        refine st_isub dX6_readGift_42 ?_
        obtain ⟨q4, e_q4, h⟩ := bnd h
        refine st_callV [.int 0, .int ((q3.2 13 3) - 1)] dX6_readGift_43 co_X6_readNumber im_X6_readNumber se_X6_readNumber ml_RX6_41 rfl (by decide) rfl (rfl : classes[6]? = some (RX6, TX6, 6)) rfl (S := []) rfl (Nat.le_of_ble_eq_true rfl) (k_X6_readNumber (by omega) 0 ((q3.2 13 3) - 1) q3.2 _ e_q4 ?_)
        show V (D + 1) RX6 mdX6_readGift 46 [.ref 5, .ref 13, .int (q2.2 5 3), .null, .null] [.int q4.1] q4.2 post
        refine st_if_ne dX6_readGift_46 51 (by decide) (fun c12 => ?_) (fun c12 => ?_)
        · replace h := (if_neg c12).symm.trans h
          refine st_aload_n dX6_readGift_51 rfl rfl ?_
          refine gI6 dX6_readGift_52 (by decide) rfl 3 (by decide) fl_RX6_45 rfl rfl ?_
          refine st_istore_n dX6_readGift_55 rfl (by decide) [.ref 5, .ref 13, .int (q2.2 5 3), .int (q4.2 5 3), .null] rfl ?_
          refine st_aload_n dX6_readGift_56 rfl rfl ?_
          refine st_bipush dX6_readGift_57 (v := 44) (by decide) ?_
          obtain ⟨q5, e_q5, h⟩ := bnd h
          refine st_callV [.int 44] dX6_readGift_59 co_X6_readSign im_X6_readSign se_X6_readSign ml_RX6_37 rfl (by decide) rfl (rfl : classes[6]? = some (RX6, TX6, 6)) rfl (S := []) rfl (Nat.le_of_ble_eq_true rfl) (k_X6_readSign (by omega) 44 q4.2 _ e_q5 ?_)
          show V (D + 1) RX6 mdX6_readGift 62 [.ref 5, .ref 13, .int (q2.2 5 3), .int (q4.2 5 3), .null] [.int q5.1] q5.2 post
          refine st_if_eq dX6_readGift_62 75 (by decide) (fun c13 => ?_) (fun c13 => ?_)
          · replace h := (if_pos c13).symm.trans h
            refine st_iconst dX6_readGift_75 (v := 0) rfl ?_
            obtain rfl := Option.some.inj h
            exact st_zret dX6_readGift_76 rfl (by first | rfl | (split <;> rfl) | (repeat (first | rfl | split))) hp
          · replace h := (if_neg c13).symm.trans h
            refine st_aload_n dX6_readGift_65 rfl rfl ?_
            refine st_iconst dX6_readGift_66 (v := 1) rfl ?_
            refine st_bipush dX6_readGift_67 (v := 99) (by decide) ?_
            obtain ⟨q6, e_q6, h⟩ := bnd h
            refine st_callV [.int 1, .int 99] dX6_readGift_69 co_X6_readNumber im_X6_readNumber se_X6_readNumber ml_RX6_41 rfl (by decide) rfl (rfl : classes[6]? = some (RX6, TX6, 6)) rfl (S := []) rfl (Nat.le_of_ble_eq_true rfl) (k_X6_readNumber (by omega) 1 99 q5.2 _ e_q6 ?_)
            show V (D + 1) RX6 mdX6_readGift 72 [.ref 5, .ref 13, .int (q2.2 5 3), .int (q4.2 5 3), .null] [.int q6.1] q6.2 post
            refine st_if_ne dX6_readGift_72 77 (by decide) (fun c14 => ?_) (fun c14 => ?_)
            · replace h := (if_neg c14).symm.trans h
              refine st_aload_n dX6_readGift_77 rfl rfl ?_
              refine gI6 dX6_readGift_78 (by decide) rfl 3 (by decide) fl_RX6_45 rfl rfl ?_
              refine st_istore dX6_readGift_81 (by decide) [.ref 5, .ref 13, .int (q2.2 5 3), .int (q4.2 5 3), .int (q6.2 5 3)] rfl ?_
              refine st_aload_n dX6_readGift_83 rfl rfl ?_
              refine st_bipush dX6_readGift_84 (v := 59) (by decide) ?_
              obtain ⟨q7, e_q7, h⟩ := bnd h
              refine st_callV [.int 59] dX6_readGift_86 co_X6_readSign im_X6_readSign se_X6_readSign ml_RX6_37 rfl (by decide) rfl (rfl : classes[6]? = some (RX6, TX6, 6)) rfl (S := []) rfl (Nat.le_of_ble_eq_true rfl) (k_X6_readSign (by omega) 59 q6.2 _ e_q7 ?_)
              show V (D + 1) RX6 mdX6_readGift 89 [.ref 5, .ref 13, .int (q2.2 5 3), .int (q4.2 5 3), .int (q6.2 5 3)] [.int q7.1] q7.2 post
              refine st_if_ne dX6_readGift_89 94 (by decide) (fun c15 => ?_) (fun c15 => ?_)
              · replace h := (if_neg c15).symm.trans h
                refine st_aload_n dX6_readGift_94 rfl rfl ?_
                refine st_aload_n dX6_readGift_95 rfl rfl ?_
                refine gI4 dX6_readGift_96 (by decide) rfl 4 (by decide) fl_RX6_72 rfl rfl ?_
                refine st_iload_n dX6_readGift_99 rfl rfl ?_
                refine st_iload_n dX6_readGift_100 rfl rfl ?_
                refine st_iload dX6_readGift_101 rfl ?_
                obtain ⟨H8, e_H8, h⟩ := bnd h
                refine st_callV [.int (q7.2 13 4), .int (q2.2 5 3), .int (q4.2 5 3), .int (q6.2 5 3)] dX6_readGift_103 co_X4_putGift im_X4_putGift se_X4_putGift ml_RX6_78 rfl (by decide) rfl (rfl : classes[4]? = some (RX4, TX4, 10)) rfl (S := []) rfl (Nat.le_of_ble_eq_true rfl) (k_X4_putGift (by omega) FC13 (q7.2 13 4) (q2.2 5 3) (q4.2 5 3) (q6.2 5 3) q7.2 _ e_H8 ?_)
                show V (D + 1) RX6 mdX6_readGift 106 [.ref 5, .ref 13, .int (q2.2 5 3), .int (q4.2 5 3), .int (q6.2 5 3)] [] H8 post
                refine st_iconst dX6_readGift_106 (v := 1) rfl ?_
                obtain rfl := Option.some.inj h
                exact st_zret dX6_readGift_107 rfl (by first | rfl | (split <;> rfl) | (repeat (first | rfl | split))) hp
              · replace h := (if_pos c15).symm.trans h
                refine st_iconst dX6_readGift_92 (v := 0) rfl ?_
                obtain rfl := Option.some.inj h
                exact st_zret dX6_readGift_93 rfl (by first | rfl | (split <;> rfl) | (repeat (first | rfl | split))) hp
            · replace h := (if_pos c14).symm.trans h
              refine st_iconst dX6_readGift_75 (v := 0) rfl ?_
              obtain rfl := Option.some.inj h
              exact st_zret dX6_readGift_76 rfl (by first | rfl | (split <;> rfl) | (repeat (first | rfl | split))) hp
        · replace h := (if_pos c12).symm.trans h
          refine st_iconst dX6_readGift_49 (v := 0) rfl ?_
          obtain rfl := Option.some.inj h
          exact st_zret dX6_readGift_50 rfl (by first | rfl | (split <;> rfl) | (repeat (first | rfl | split))) hp
    · replace h := (if_pos c10).symm.trans h
      refine st_iconst dX6_readGift_19 (v := 0) rfl ?_
      obtain rfl := Option.some.inj h
      exact st_zret dX6_readGift_20 rfl (by first | rfl | (split <;> rfl) | (repeat (first | rfl | split))) hp
