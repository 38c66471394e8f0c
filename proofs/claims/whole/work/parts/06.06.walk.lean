def f_X5_howMany_l4 (H : Hp) : Nat → Int32 → Int32 → Option (Int32)
  | 0, _, _ => none
  | n + 1, x1, x2 =>
    if 8 ≤ x2 then
      some x1
    else
      (f_X5_isMissing x2 H).bind fun v1 =>
      f_X5_howMany_l4 H n (x1 + ((if v1 = 0 then 1 else 0) : Int32)) (x2 + 1)
def f_X5_howMany (H : Hp) : Option (Int32) :=
  (f_X5_howMany_l4 H fuel 0 0).bind fun l6 =>
  some l6
set_option maxHeartbeats 4000000 in
set_option maxRecDepth 100000 in
theorem k_X5_howMany_l4 {D : Nat} (hD : 1 ≤ (D + 1)) (H : Hp) {post : Option Value → Hp → Prop} : ∀ (n : Nat) (x1 : Int32) (x2 : Int32) (q : Int32), f_X5_howMany_l4 H n x1 x2 = some q → V (D + 1) RX5 mdX5_howMany 32 [.null, .int q, .null] [] H post → V (D + 1) RX5 mdX5_howMany 4 [.ref 1, .int x1, .int x2] [] H post := by
  intro n
  induction n with
  | zero => intro x1 x2 q h; simp [f_X5_howMany_l4] at h
  | succ n ih =>
    intro x1 x2 q h k1
    rw [f_X5_howMany_l4] at h
    refine st_iload_n dX5_howMany_4 rfl rfl ?_
    refine st_bipush dX5_howMany_5 (v := 8) (by decide) ?_
    refine st_ic_ge dX5_howMany_7 32 (by decide) (fun c2 => ?_) (fun c2 => ?_)
    · replace h := (if_pos c2).symm.trans h
      obtain rfl := Option.some.inj h
      exact st_sub [.null, .int x1, .null] ⟨Or.inl rfl, Or.inr rfl, Or.inl rfl, trivial⟩ k1
    · replace h := (if_neg c2).symm.trans h
      refine st_iload_n dX5_howMany_10 rfl rfl ?_
      refine st_aload_n dX5_howMany_11 rfl rfl ?_
      refine st_iload_n dX5_howMany_12 rfl rfl ?_
      obtain ⟨v1, e_v1, h⟩ := bnd h
      refine st_callV [.int x2] dX5_howMany_13 co_X5_isMissing im_X5_isMissing se_X5_isMissing ml_RX5_25 rfl (by decide) rfl (rfl : classes[5]? = some (RX5, TX5, 3)) rfl (S := [.int x1]) rfl (Nat.le_of_ble_eq_true rfl) (k_X5_isMissing (by omega) x2 H _ e_v1 ?_)
      show V (D + 1) RX5 mdX5_howMany 16 [.ref 1, .int x1, .int x2] [.int v1, .int x1] H post
      have kj4 : ∀ z3 : Int32, z3 = ((if v1 = 0 then 1 else 0) : Int32) → V (D + 1) RX5 mdX5_howMany 24 [.ref 1, .null, .int x2] [.int z3, .int x1] H post := by
        intro z3 ez3
        subst ez3
        refine st_iadd dX5_howMany_24 ?_
        refine st_istore_n dX5_howMany_25 rfl (by decide) [.ref 1, .int (x1 + ((if v1 = 0 then 1 else 0) : Int32)), .int x2] rfl ?_
        refine st_iinc dX5_howMany_26 rfl (v := (x2 + 1)) rfl (by decide) [.ref 1, .int (x1 + ((if v1 = 0 then 1 else 0) : Int32)), .int (x2 + 1)] rfl ?_
        refine st_goto dX5_howMany_29 4 (by decide) ?_
        exact ih (x1 + ((if v1 = 0 then 1 else 0) : Int32)) (x2 + 1) q h k1
      refine st_if_eq dX5_howMany_16 23 (by decide) (fun c5 => ?_) (fun c5 => ?_)
      · refine st_iconst dX5_howMany_23 (v := 1) rfl ?_
        exact st_sub [.ref 1, .null, .int x2] ⟨Or.inr rfl, Or.inl rfl, Or.inr rfl, trivial⟩ (kj4 _ (Eq.symm (if_pos c5)))
      · refine st_iconst dX5_howMany_19 (v := 0) rfl ?_
        refine st_goto dX5_howMany_20 24 (by decide) ?_
        exact st_sub [.ref 1, .null, .int x2] ⟨Or.inr rfl, Or.inl rfl, Or.inr rfl, trivial⟩ (kj4 _ (Eq.symm (if_neg c5)))
set_option maxHeartbeats 4000000 in
set_option maxRecDepth 100000 in
theorem k_X5_howMany {D : Nat} (hD : 1 ≤ D) (H : Hp) (q : Int32) (h : f_X5_howMany H = some q) {post : Option Value → Hp → Prop} (hp : post (some (.int q)) H) : Sem D mdX5_howMany [.ref 1] H post := by
  obtain ⟨D, rfl⟩ : ∃ E, D = E + 1 := ⟨D - 1, by omega⟩
  refine sem_of (own := RX5) rfl pn_RX5 (Nat.le_of_ble_eq_true rfl) [.ref 1, .null, .null] ⟨Or.inr rfl, rfl, rfl, trivial⟩ ?_
  unfold f_X5_howMany at h
  refine st_iconst dX5_howMany_0 (v := 0) rfl ?_
  refine st_istore_n dX5_howMany_1 rfl (by decide) [.ref 1, .int 0, .null] rfl ?_
  refine st_iconst dX5_howMany_2 (v := 0) rfl ?_
  refine st_istore_n dX5_howMany_3 rfl (by decide) [.ref 1, .int 0, .int 0] rfl ?_
  obtain ⟨l6, e_l6, h⟩ := bnd h
  refine k_X5_howMany_l4 (by omega) H fuel 0 0 _ e_l6 ?_
  refine st_iload_n dX5_howMany_32 rfl rfl ?_
  obtain rfl := Option.some.inj h
  exact st_iret dX5_howMany_33 rfl hp
def f_X4_allCoins_l4 (b : Nat) (H : Hp) : Nat → Int32 → Int32 → Option (Int32)
  | 0, _, _ => none
  | n + 1, x1, x2 =>
    if (H b 4) ≤ x2 then
      some x1
    else
      (ag H (b + 5) 20 x2).bind fun v1 =>
      f_X4_allCoins_l4 b H n (x1 + v1) (x2 + 1)
def f_X4_allCoins (b : Nat) (H : Hp) : Option (Int32) :=
  (f_X4_allCoins_l4 b H fuel 0 0).bind fun l3 =>
  some l3
set_option maxHeartbeats 4000000 in
set_option maxRecDepth 100000 in
theorem k_X4_allCoins_l4 {D : Nat} (hD : 0 ≤ D) {b : Nat} (hb : FC b) (H : Hp) {post : Option Value → Hp → Prop} : ∀ (n : Nat) (x1 : Int32) (x2 : Int32) (q : Int32), f_X4_allCoins_l4 b H n x1 x2 = some q → V D RX4 mdX4_allCoins 27 [.null, .int q, .null] [] H post → V D RX4 mdX4_allCoins 4 [.ref b, .int x1, .int x2] [] H post := by
  intro n
  induction n with
  | zero => intro x1 x2 q h; simp [f_X4_allCoins_l4] at h
  | succ n ih =>
    intro x1 x2 q h k1
    rw [f_X4_allCoins_l4] at h
    refine st_iload_n dX4_allCoins_4 rfl rfl ?_
    refine st_aload_n dX4_allCoins_5 rfl rfl ?_
    refine gI4 dX4_allCoins_6 (FC_0 hb).1 (FC_0 hb).2 4 (by decide) fl_RX4_41 rfl (FN_4 hb) ?_
    refine st_ic_ge dX4_allCoins_9 27 (by decide) (fun c2 => ?_) (fun c2 => ?_)
    · replace h := (if_pos c2).symm.trans h
      obtain rfl := Option.some.inj h
      exact st_sub [.null, .int x1, .null] ⟨Or.inl rfl, Or.inr rfl, Or.inl rfl, trivial⟩ k1
    · replace h := (if_neg c2).symm.trans h
      refine st_iload_n dX4_allCoins_12 rfl rfl ?_
      refine st_aload_n dX4_allCoins_13 rfl rfl ?_
      refine gR4 dX4_allCoins_14 (FC_0 hb).1 (FC_0 hb).2 9 (by decide) fl_RX4_24 rfl (b + 5) (FR_9 hb) ?_
      refine st_iload_n dX4_allCoins_17 rfl rfl ?_
      obtain ⟨v1, e_v1, h⟩ := bnd h
      refine st_iald dX4_allCoins_18 (FC_5 hb).1 (FC_5 hb).2 v1 e_v1 ?_
      refine st_iadd dX4_allCoins_19 ?_
      refine st_istore_n dX4_allCoins_20 rfl (by decide) [.ref b, .int (x1 + v1), .int x2] rfl ?_
      refine st_iinc dX4_allCoins_21 rfl (v := (x2 + 1)) rfl (by decide) [.ref b, .int (x1 + v1), .int (x2 + 1)] rfl ?_
      refine st_goto dX4_allCoins_24 4 (by decide) ?_
      exact ih (x1 + v1) (x2 + 1) q h k1
set_option maxHeartbeats 4000000 in
set_option maxRecDepth 100000 in
theorem k_X4_allCoins {D : Nat} (hD : 0 ≤ D) {b : Nat} (hb : FC b) (H : Hp) (q : Int32) (h : f_X4_allCoins b H = some q) {post : Option Value → Hp → Prop} (hp : post (some (.int q)) H) : Sem D mdX4_allCoins [.ref b] H post := by
  refine sem_of (own := RX4) rfl pn_RX4 (Nat.le_of_ble_eq_true rfl) [.ref b, .null, .null] ⟨Or.inr rfl, rfl, rfl, trivial⟩ ?_
  unfold f_X4_allCoins at h
  refine st_iconst dX4_allCoins_0 (v := 0) rfl ?_
  refine st_istore_n dX4_allCoins_1 rfl (by decide) [.ref b, .int 0, .null] rfl ?_
  refine st_iconst dX4_allCoins_2 (v := 0) rfl ?_
  refine st_istore_n dX4_allCoins_3 rfl (by decide) [.ref b, .int 0, .int 0] rfl ?_
  obtain ⟨l3, e_l3, h⟩ := bnd h
  refine k_X4_allCoins_l4 (by omega) hb H fuel 0 0 _ e_l3 ?_
  refine st_iload_n dX4_allCoins_27 rfl rfl ?_
  obtain rfl := Option.some.inj h
  exact st_iret dX4_allCoins_28 rfl hp
def f_X7_count (x1 : Int32) (H : Hp) : Option (Int32) :=
  if x1 = 0 then
    (f_X5_howMany H).bind fun v1 =>
    some v1
  else
  if x1 = 1 then
    some (H 7 3)
  else
  if x1 = 2 then
    some (H 7 4)
  else
  if x1 = 3 then
    some (H 7 1)
  else
  if x1 = 4 then
    (f_X4_allCoins 7 H).bind fun v2 =>
    some v2
  else
  if x1 = 5 then
    some (H 32 6)
  else
  if x1 = 6 then
    some (H 5 1)
  else
    some (-1000001)
set_option maxHeartbeats 4000000 in
set_option maxRecDepth 100000 in
theorem k_X7_count {D : Nat} (hD : 2 ≤ D) (x1 : Int32) (H : Hp) (q : Int32) (h : f_X7_count x1 H = some q) {post : Option Value → Hp → Prop} (hp : post (some (.int q)) H) : Sem D mdX7_count [.ref 0, .int x1] H post := by
  obtain ⟨D, rfl⟩ : ∃ E, D = E + 1 := ⟨D - 1, by omega⟩
  refine sem_of (own := RX7) rfl pn_RX7 (Nat.le_of_ble_eq_true rfl) [.ref 0, .int x1] ⟨Or.inr rfl, Or.inr rfl, trivial⟩ ?_
  unfold f_X7_count at h
  refine st_iload_n dX7_count_0 rfl rfl ?_
  by_cases s3 : x1 = 0
  · replace h := (if_pos s3).symm.trans h
    refine st_tabIn dX7_count_1 (by rw [s3]; decide) (by rw [s3]; decide) (by rw [s3] <;> rfl) 44 (by decide) ?_
    refine st_aload_n dX7_count_44 rfl rfl ?_
    refine gR7 dX7_count_45 (by decide) rfl 0 (by decide) fl_RX7_10 rfl 1 rfl ?_
    obtain ⟨v1, e_v1, h⟩ := bnd h
    refine st_callV [] dX7_count_48 co_X5_howMany im_X5_howMany se_X5_howMany ml_RX7_309 rfl (by decide) rfl (rfl : classes[5]? = some (RX5, TX5, 3)) rfl (S := []) rfl (Nat.le_of_ble_eq_true rfl) (k_X5_howMany (by omega) H _ e_v1 ?_)
    show V (D + 1) RX7 mdX7_count 51 [.ref 0, .int x1] [.int v1] H post
    obtain rfl := Option.some.inj h
    exact st_iret dX7_count_51 rfl hp
  · replace h := (if_neg s3).symm.trans h
    by_cases s4 : x1 = 1
    · replace h := (if_pos s4).symm.trans h
      refine st_tabIn dX7_count_1 (by rw [s4]; decide) (by rw [s4]; decide) (by rw [s4] <;> rfl) 52 (by decide) ?_
      refine st_aload_n dX7_count_52 rfl rfl ?_
      refine gR7 dX7_count_53 (by decide) rfl 2 (by decide) fl_RX7_26 rfl 7 rfl ?_
      refine gI4 dX7_count_56 (by decide) rfl 3 (by decide) fl_RX7_139 rfl rfl ?_
      obtain rfl := Option.some.inj h
      exact st_iret dX7_count_59 rfl hp
    · replace h := (if_neg s4).symm.trans h
      by_cases s5 : x1 = 2
      · replace h := (if_pos s5).symm.trans h
        refine st_tabIn dX7_count_1 (by rw [s5]; decide) (by rw [s5]; decide) (by rw [s5] <;> rfl) 60 (by decide) ?_
        refine st_aload_n dX7_count_60 rfl rfl ?_
        refine gR7 dX7_count_61 (by decide) rfl 2 (by decide) fl_RX7_26 rfl 7 rfl ?_
        refine gI4 dX7_count_64 (by decide) rfl 4 (by decide) fl_RX7_155 rfl rfl ?_
        obtain rfl := Option.some.inj h
        exact st_iret dX7_count_67 rfl hp
      · replace h := (if_neg s5).symm.trans h
        by_cases s6 : x1 = 3
        · replace h := (if_pos s6).symm.trans h
          refine st_tabIn dX7_count_1 (by rw [s6]; decide) (by rw [s6]; decide) (by rw [s6] <;> rfl) 68 (by decide) ?_
          refine st_aload_n dX7_count_68 rfl rfl ?_
          refine gR7 dX7_count_69 (by decide) rfl 2 (by decide) fl_RX7_26 rfl 7 rfl ?_
          refine gI4 dX7_count_72 (by decide) rfl 1 (by decide) fl_RX7_185 rfl rfl ?_
          obtain rfl := Option.some.inj h
          exact st_iret dX7_count_75 rfl hp
        · replace h := (if_neg s6).symm.trans h
          by_cases s7 : x1 = 4
          · replace h := (if_pos s7).symm.trans h
            refine st_tabIn dX7_count_1 (by rw [s7]; decide) (by rw [s7]; decide) (by rw [s7] <;> rfl) 76 (by decide) ?_
            refine st_aload_n dX7_count_76 rfl rfl ?_
            refine gR7 dX7_count_77 (by decide) rfl 2 (by decide) fl_RX7_26 rfl 7 rfl ?_
            obtain ⟨v2, e_v2, h⟩ := bnd h
            refine st_callV [] dX7_count_80 co_X4_allCoins im_X4_allCoins se_X4_allCoins ml_RX7_312 rfl (by decide) rfl (rfl : classes[4]? = some (RX4, TX4, 10)) rfl (S := []) rfl (Nat.le_of_ble_eq_true rfl) (k_X4_allCoins (by omega) FC7 H _ e_v2 ?_)
            show V (D + 1) RX7 mdX7_count 83 [.ref 0, .int x1] [.int v2] H post
            obtain rfl := Option.some.inj h
            exact st_iret dX7_count_83 rfl hp
          · replace h := (if_neg s7).symm.trans h
            by_cases s8 : x1 = 5
            · replace h := (if_pos s8).symm.trans h
              refine st_tabIn dX7_count_1 (by rw [s8]; decide) (by rw [s8]; decide) (by rw [s8] <;> rfl) 84 (by decide) ?_
              refine st_aload_n dX7_count_84 rfl rfl ?_
              refine gR7 dX7_count_85 (by decide) rfl 5 (by decide) fl_RX7_40 rfl 32 rfl ?_
              refine gI0 dX7_count_88 (by decide) rfl 6 (by decide) fl_RX7_142 rfl rfl ?_
              obtain rfl := Option.some.inj h
              exact st_iret dX7_count_91 rfl hp
            · replace h := (if_neg s8).symm.trans h
              by_cases s9 : x1 = 6
              · replace h := (if_pos s9).symm.trans h
                refine st_tabIn dX7_count_1 (by rw [s9]; decide) (by rw [s9]; decide) (by rw [s9] <;> rfl) 92 (by decide) ?_
                refine st_aload_n dX7_count_92 rfl rfl ?_
                refine gR7 dX7_count_93 (by decide) rfl 1 (by decide) fl_RX7_19 rfl 5 rfl ?_
                refine gI6 dX7_count_96 (by decide) rfl 1 (by decide) fl_RX7_113 rfl rfl ?_
                obtain rfl := Option.some.inj h
                exact st_iret dX7_count_99 rfl hp
              · replace h := (if_neg s9).symm.trans h
                have ts3 := lv_neT s3 (a := 0) (by decide)
                have ts4 := lv_neT s4 (a := 1) (by decide)
                have ts5 := lv_neT s5 (a := 2) (by decide)
                have ts6 := lv_neT s6 (a := 3) (by decide)
                have ts7 := lv_neT s7 (a := 4) (by decide)
                have ts8 := lv_neT s8 (a := 5) (by decide)
                have ts9 := lv_neT s9 (a := 6) (by decide)
                refine st_tabOut dX7_count_1 (by omega) 100 (by decide) ?_
                refine st_ldc dX7_count_100 cn_RX7_77 ?_
                obtain rfl := Option.some.inj h
                exact st_iret dX7_count_102 rfl hp
def f_X7_status (H : Hp) : Option (Int32) :=
  some (H 0 10)
set_option maxHeartbeats 4000000 in
set_option maxRecDepth 100000 in
theorem k_X7_status {D : Nat} (hD : 0 ≤ D) (H : Hp) (q : Int32) (h : f_X7_status H = some q) {post : Option Value → Hp → Prop} (hp : post (some (.int q)) H) : Sem D mdX7_status [.ref 0] H post := by
  refine sem_of (own := RX7) rfl pn_RX7 (Nat.le_of_ble_eq_true rfl) [.ref 0] ⟨Or.inr rfl, trivial⟩ ?_
  unfold f_X7_status at h
  refine st_aload_n dX7_status_0 rfl rfl ?_
  refine gI7 dX7_status_1 (by decide) rfl 10 (by decide) fl_RX7_315 rfl rfl ?_
  obtain rfl := Option.some.inj h
  exact st_iret dX7_status_4 rfl hp
def f_X8_in (x0 : Int64) (x2 : Int64) (x4 : Int64) : Option (Int32) :=
  some ((if x0 < x2 then 0 else (if x4 < x0 then 0 else 1)) : Int32)
set_option maxHeartbeats 4000000 in
set_option maxRecDepth 100000 in
theorem k_X8_in {D : Nat} (hD : 0 ≤ D) (x0 : Int64) (x2 : Int64) (x4 : Int64) (H : Hp) (q : Int32) (h : f_X8_in x0 x2 x4 = some q) {post : Option Value → Hp → Prop} (hp : post (some (.int q)) H) : Sem D mdX8_in [.long x0, .long x2, .long x4] H post := by
  refine sem_of (own := RX8) rfl pn_RX8 (Nat.le_of_ble_eq_true rfl) [.long x0, .null, .long x2, .null, .long x4, .null] ⟨Or.inr rfl, Or.inl rfl, Or.inr rfl, Or.inl rfl, Or.inr rfl, Or.inl rfl, trivial⟩ ?_
  unfold f_X8_in at h
  refine st_lload_n dX8_in_0 rfl rfl ?_
  refine st_lload_n dX8_in_1 rfl rfl ?_
  refine st_lcmp dX8_in_2 ?_
  have kj2 : ∀ z1 : Int32, z1 = ((if x0 < x2 then 0 else (if x4 < x0 then 0 else 1)) : Int32) → V D RX8 mdX8_in 18 [.null, .null, .null, .null, .null, .null] [.int z1] H post := by
    intro z1 ez1
    subst ez1
    obtain rfl := Option.some.inj h
    exact st_zret dX8_in_18 rfl (by first | rfl | (split <;> rfl) | (repeat (first | rfl | split))) hp
  refine st_if_lt dX8_in_3 17 (by decide) (fun c3 => ?_) (fun c3 => ?_)
  · replace c3 := (lg_cmp_lt x0 x2).mp c3
    refine st_iconst dX8_in_17 (v := 0) rfl ?_
    exact st_sub [.null, .null, .null, .null, .null, .null] ⟨Or.inl rfl, Or.inl rfl, Or.inl rfl, Or.inl rfl, Or.inl rfl, Or.inl rfl, trivial⟩ (kj2 _ (Eq.symm (if_pos c3)))
  · replace c3 := (not_congr (lg_cmp_lt x0 x2)).mp c3
    refine st_lload_n dX8_in_6 rfl rfl ?_
    refine st_lload dX8_in_7 rfl ?_
    refine st_lcmp dX8_in_9 ?_
    refine st_if_gt dX8_in_10 17 (by decide) (fun c4 => ?_) (fun c4 => ?_)
    · replace c4 := (lg_cmp_gt x0 x4).mp c4
      refine st_iconst dX8_in_17 (v := 0) rfl ?_
      exact st_sub [.null, .null, .null, .null, .null, .null] ⟨Or.inl rfl, Or.inl rfl, Or.inl rfl, Or.inl rfl, Or.inl rfl, Or.inl rfl, trivial⟩ (kj2 _ (Eq.symm ((if_neg c3).trans (if_pos c4))))
    · replace c4 := (not_congr (lg_cmp_gt x0 x4)).mp c4
      refine st_iconst dX8_in_13 (v := 1) rfl ?_
      refine st_goto dX8_in_14 18 (by decide) ?_
      exact st_sub [.null, .null, .null, .null, .null, .null] ⟨Or.inl rfl, Or.inl rfl, Or.inl rfl, Or.inl rfl, Or.inl rfl, Or.inl rfl, trivial⟩ (kj2 _ (Eq.symm ((if_neg c3).trans (if_neg c4))))
def f_X8_isRow (x0 : Int32) : Option (Int32) :=
  (f_X8_in x0.toInt64 0 7).bind fun v1 =>
  zr v1
set_option maxHeartbeats 4000000 in
set_option maxRecDepth 100000 in
theorem k_X8_isRow {D : Nat} (hD : 1 ≤ D) (x0 : Int32) (H : Hp) (q : Int32) (h : f_X8_isRow x0 = some q) {post : Option Value → Hp → Prop} (hp : post (some (.int q)) H) : Sem D mdX8_isRow [.int x0] H post := by
  obtain ⟨D, rfl⟩ : ∃ E, D = E + 1 := ⟨D - 1, by omega⟩
  refine sem_of (own := RX8) rfl pn_RX8 (Nat.le_of_ble_eq_true rfl) [.int x0] ⟨Or.inr rfl, trivial⟩ ?_
  unfold f_X8_isRow at h
  refine st_iload_n dX8_isRow_0 rfl rfl ?_
  refine st_i2l dX8_isRow_1 ?_
  refine st_lconst dX8_isRow_2 (v := 0) rfl ?_
  refine st_ldc2 dX8_isRow_3 cl_RX8_70 ?_
  obtain ⟨v1, e_v1, h⟩ := bnd h
  refine st_callS [.long x0.toInt64, .long 0, .long 7] dX8_isRow_6 co_X8_in sm_X8_in ml_RX8_72 rfl (S := []) rfl (Nat.le_of_ble_eq_true rfl) (k_X8_in (by omega) x0.toInt64 0 7 H _ e_v1 ?_)
  show V (D + 1) RX8 mdX8_isRow 9 [.int x0] [.int v1] H post
  obtain ⟨rfl, hz⟩ := zr_some h
  exact st_zret dX8_isRow_9 rfl hz hp
def f_X8_finding (x1 : Int32) (H : Hp) : Option (Int32 × Hp) :=
  (pf H 60 1 x1).bind fun H1 =>
  some (((-1000010) - x1), H1)
set_option maxHeartbeats 4000000 in
set_option maxRecDepth 100000 in
theorem k_X8_finding {D : Nat} (hD : 0 ≤ D) (x1 : Int32) (H : Hp) (q : Int32 × Hp) (h : f_X8_finding x1 H = some q) {post : Option Value → Hp → Prop} (hp : post (some (.int q.1)) q.2) : Sem D mdX8_finding [.ref 60, .int x1] H post := by
  refine sem_of (own := RX8) rfl pn_RX8 (Nat.le_of_ble_eq_true rfl) [.ref 60, .int x1] ⟨Or.inr rfl, Or.inr rfl, trivial⟩ ?_
  unfold f_X8_finding at h
  refine st_aload_n dX8_finding_0 rfl rfl ?_
  refine st_iload_n dX8_finding_1 rfl rfl ?_
  obtain ⟨H1, e_H1, h⟩ := bnd h
  refine pI8 dX8_finding_2 (by decide) rfl 1 (by decide) fl_RX8_66 rfl rfl rfl rfl e_H1 ?_
  refine st_ldc dX8_finding_5 cn_RX8_69 ?_
  refine st_iload_n dX8_finding_7 rfl rfl ?_
  refine st_isub dX8_finding_8 ?_
  obtain rfl := Option.some.inj h
  exact st_iret dX8_finding_9 rfl hp
def f_X8_row_l65 (x1 : Int32) : Nat → Int32 → Hp → Option (Hp)
  | 0, _, _ => none
  | n + 1, x4, H =>
    if 40 ≤ x4 then
      some H
    else
      (as H 63 320 ((40 * x1) + x4) 0).bind fun H7 =>
      f_X8_row_l65 x1 n (x4 + 1) H7
def f_X8_row (x1 : Int32) (x2 : Int32) (x3 : Int32) (H : Hp) : Option (Int32 × Hp) :=
  (pf H 60 0 0).bind fun H1 =>
  (f_X8_isRow x1).bind fun v2 =>
  if v2 = 0 then
    some ((-1000001), H1)
  else
    (f_X8_in x2.toInt64 0 2).bind fun v3 =>
    if v3 = 0 then
      some ((-1000001), H1)
    else
      if x3 ≤ 40 then
        (pf H1 60 1 0).bind fun H4 =>
        if 0 ≤ x3 then
          (as H4 61 8 x1 x2).bind fun H5 =>
          (as H5 62 8 x1 x3).bind fun H6 =>
          (f_X8_row_l65 x1 fuel 0 H6).bind fun l9 =>
          some (x3, l9)
        else
          (f_X8_finding 4 H4).bind fun q10 =>
          some (q10.1, q10.2)
      else
        some ((-1000001), H1)
set_option maxHeartbeats 4000000 in
set_option maxRecDepth 100000 in
theorem k_X8_row_l65 {D : Nat} (hD : 2 ≤ (D + 1)) (x1 : Int32) (x3 : Int32) {post : Option Value → Hp → Prop} : ∀ (n : Nat) (x4 : Int32) (H : Hp) (q : Hp), f_X8_row_l65 x1 n x4 H = some q → V (D + 1) RX8 mdX8_row 91 [.null, .null, .null, .int x3, .null] [] q post → V (D + 1) RX8 mdX8_row 65 [.ref 60, .int x1, .null, .int x3, .int x4] [] H post := by
  intro n
  induction n with
  | zero => intro x4 H q h; simp [f_X8_row_l65] at h
  | succ n ih =>
    intro x4 H q h k1
    rw [f_X8_row_l65] at h
    refine st_iload dX8_row_65 rfl ?_
    refine st_bipush dX8_row_67 (v := 40) (by decide) ?_
    refine st_ic_ge dX8_row_69 91 (by decide) (fun c8 => ?_) (fun c8 => ?_)
    · replace h := (if_pos c8).symm.trans h
      obtain rfl := Option.some.inj h
      exact st_sub [.null, .null, .null, .int x3, .null] ⟨Or.inl rfl, Or.inl rfl, Or.inl rfl, Or.inr rfl, Or.inl rfl, trivial⟩ k1
    · replace h := (if_neg c8).symm.trans h
      refine st_aload_n dX8_row_72 rfl rfl ?_
      refine gR8 dX8_row_73 (by decide) rfl 4 (by decide) fl_RX8_16 rfl 63 rfl ?_
      refine st_bipush dX8_row_76 (v := 40) (by decide) ?_
      refine st_iload_n dX8_row_78 rfl rfl ?_
      refine st_imul dX8_row_79 ?_
      refine st_iload dX8_row_80 rfl ?_
      refine st_iadd dX8_row_82 ?_
      refine st_iconst dX8_row_83 (v := 0) rfl ?_
      obtain ⟨H7, e_H7, h⟩ := bnd h
      refine st_iast dX8_row_84 (by decide) rfl H7 e_H7 ?_
      refine st_iinc dX8_row_85 rfl (v := (x4 + 1)) rfl (by decide) [.ref 60, .int x1, .null, .int x3, .int (x4 + 1)] rfl ?_
      refine st_goto dX8_row_88 65 (by decide) ?_
      exact ih (x4 + 1) H7 q h k1
set_option maxHeartbeats 4000000 in
set_option maxRecDepth 100000 in
theorem k_X8_row {D : Nat} (hD : 2 ≤ D) (x1 : Int32) (x2 : Int32) (x3 : Int32) (H : Hp) (q : Int32 × Hp) (h : f_X8_row x1 x2 x3 H = some q) {post : Option Value → Hp → Prop} (hp : post (some (.int q.1)) q.2) : Sem D mdX8_row [.ref 60, .int x1, .int x2, .int x3] H post := by
  obtain ⟨D, rfl⟩ : ∃ E, D = E + 1 := ⟨D - 1, by omega⟩
  refine sem_of (own := RX8) rfl pn_RX8 (Nat.le_of_ble_eq_true rfl) [.ref 60, .int x1, .int x2, .int x3, .null] ⟨Or.inr rfl, Or.inr rfl, Or.inr rfl, Or.inr rfl, rfl, trivial⟩ ?_
  unfold f_X8_row at h
  refine st_aload_n dX8_row_0 rfl rfl ?_
  refine st_iconst dX8_row_1 (v := 0) rfl ?_
  obtain ⟨H1, e_H1, h⟩ := bnd h
  refine pI8 dX8_row_2 (by decide) rfl 0 (by decide) fl_RX8_62 rfl rfl rfl rfl e_H1 ?_
  refine st_iload_n dX8_row_5 rfl rfl ?_
  obtain ⟨v2, e_v2, h⟩ := bnd h
  refine st_callS [.int x1] dX8_row_6 co_X8_isRow sm_X8_isRow ml_RX8_76 rfl (S := []) rfl (Nat.le_of_ble_eq_true rfl) (k_X8_isRow (by omega) x1 H1 _ e_v2 ?_)
  show V (D + 1) RX8 mdX8_row 9 [.ref 60, .int x1, .int x2, .int x3, .null] [.int v2] H1 post
  refine st_if_eq dX8_row_9 30 (by decide) (fun c11 => ?_) (fun c11 => ?_)
  · replace h := (if_pos c11).symm.trans h
    refine st_ldc dX8_row_30 cn_RX8_82 ?_
    obtain rfl := Option.some.inj h
    exact st_iret dX8_row_32 rfl hp
  · replace h := (if_neg c11).symm.trans h
    refine st_iload_n dX8_row_12 rfl rfl ?_
    refine st_i2l dX8_row_13 ?_
    refine st_lconst dX8_row_14 (v := 0) rfl ?_
    refine st_ldc2 dX8_row_15 cl_RX8_80 ?_
    obtain ⟨v3, e_v3, h⟩ := bnd h
    refine st_callS [.long x2.toInt64, .long 0, .long 2] dX8_row_18 co_X8_in sm_X8_in ml_RX8_72 rfl (S := []) rfl (Nat.le_of_ble_eq_true rfl) (k_X8_in (by omega) x2.toInt64 0 2 H1 _ e_v3 ?_)
    show V (D + 1) RX8 mdX8_row 21 [.ref 60, .int x1, .int x2, .int x3, .null] [.int v3] H1 post
    refine st_if_eq dX8_row_21 30 (by decide) (fun c12 => ?_) (fun c12 => ?_)
    · replace h := (if_pos c12).symm.trans h
      refine st_ldc dX8_row_30 cn_RX8_82 ?_
      obtain rfl := Option.some.inj h
      exact st_iret dX8_row_32 rfl hp
    · replace h := (if_neg c12).symm.trans h
      refine st_iload_n dX8_row_24 rfl rfl ?_
      refine st_bipush dX8_row_25 (v := 40) (by decide) ?_
      refine st_ic_le dX8_row_27 33 (by decide) (fun c13 => ?_) (fun c13 => ?_)
      · replace h := (if_pos c13).symm.trans h
        refine st_aload_n dX8_row_33 rfl rfl ?_
        refine st_iconst dX8_row_34 (v := 0) rfl ?_
        obtain ⟨H4, e_H4, h⟩ := bnd h
        refine pI8 dX8_row_35 (by decide) rfl 1 (by decide) fl_RX8_66 rfl rfl rfl rfl e_H4 ?_
        refine st_iload_n dX8_row_38 rfl rfl ?_
        refine st_if_ge dX8_row_39 48 (by decide) (fun c14 => ?_) (fun c14 => ?_)
        · replace h := (if_pos c14).symm.trans h
          refine st_aload_n dX8_row_48 rfl rfl ?_
          refine gR8 dX8_row_49 (by decide) rfl 2 (by decide) fl_RX8_7 rfl 61 rfl ?_
          refine st_iload_n dX8_row_52 rfl rfl ?_
          refine st_iload_n dX8_row_53 rfl rfl ?_
          obtain ⟨H5, e_H5, h⟩ := bnd h
          refine st_iast dX8_row_54 (by decide) rfl H5 e_H5 ?_
          refine st_aload_n dX8_row_55 rfl rfl ?_
          refine gR8 dX8_row_56 (by decide) rfl 3 (by decide) fl_RX8_13 rfl 62 rfl ?_
          refine st_iload_n dX8_row_59 rfl rfl ?_
          refine st_iload_n dX8_row_60 rfl rfl ?_
          obtain ⟨H6, e_H6, h⟩ := bnd h
          refine st_iast dX8_row_61 (by decide) rfl H6 e_H6 ?_
          refine st_iconst dX8_row_62 (v := 0) rfl ?_
          refine st_istore dX8_row_63 (by decide) [.ref 60, .int x1, .int x2, .int x3, .int 0] rfl ?_
          refine st_sub [.ref 60, .int x1, .null, .int x3, .int 0] ⟨Or.inr rfl, Or.inr rfl, Or.inl rfl, Or.inr rfl, Or.inr rfl, trivial⟩ ?_
          obtain ⟨l9, e_l9, h⟩ := bnd h
          refine k_X8_row_l65 (by omega) x1 x3 fuel 0 H6 _ e_l9 ?_
          refine st_iload_n dX8_row_91 rfl rfl ?_
          obtain rfl := Option.some.inj h
          exact st_iret dX8_row_92 rfl hp
        · replace h := (if_neg c14).symm.trans h
          refine st_aload_n dX8_row_42 rfl rfl ?_
          refine st_iconst dX8_row_43 (v := 4) rfl ?_
          obtain ⟨q10, e_q10, h⟩ := bnd h
          refine st_callV [.int 4] dX8_row_44 co_X8_finding im_X8_finding se_X8_finding ml_RX8_83 rfl (by decide) rfl (rfl : classes[8]? = some (RX8, TX8, 30)) rfl (S := []) rfl (Nat.le_of_ble_eq_true rfl) (k_X8_finding (by omega) 4 H4 _ e_q10 ?_)
          show V (D + 1) RX8 mdX8_row 47 [.ref 60, .int x1, .int x2, .int x3, .null] [.int q10.1] q10.2 post
          obtain rfl := Option.some.inj h
          exact st_iret dX8_row_47 rfl hp
      · replace h := (if_neg c13).symm.trans h
        refine st_ldc dX8_row_30 cn_RX8_82 ?_
        obtain rfl := Option.some.inj h
        exact st_iret dX8_row_32 rfl hp
def f_X8_set (x1 : Int32) (x2 : Int32) (x3 : Int32) (H : Hp) : Option (Int32 × Hp) :=
  (pf H 60 0 0).bind fun H1 =>
  (f_X8_isRow x1).bind fun v2 =>
  if v2 = 0 then
    some ((-1000001), H1)
  else
    (pf H1 60 1 0).bind fun H3 =>
    (ag H3 61 8 x1).bind fun v4 =>
    if 0 ≤ v4 then
      (ag H3 62 8 x1).bind fun v5 =>
      (f_X8_in x2.toInt64 0 (v5 - 1).toInt64).bind fun v6 =>
      if v6 = 0 then
        (f_X8_finding 2 H3).bind fun q7 =>
        some (q7.1, q7.2)
      else
        (ag H3 61 8 x1).bind fun v8 =>
        Option.bind (
          if v8 = 0 then
            some x3.toInt8.toInt32
          else
            (ag H3 61 8 x1).bind fun v9 =>
            if v9 = 1 then
              some x3.toInt16.toInt32
            else
              some x3) fun j10 =>
        (as H3 63 320 ((40 * x1) + x2) j10).bind fun H11 =>
        (ag H11 63 320 ((40 * x1) + x2)).bind fun v12 =>
        some (v12, H11)
    else
      (f_X8_finding 1 H3).bind fun q13 =>
      some (q13.1, q13.2)
set_option maxHeartbeats 4000000 in
set_option maxRecDepth 100000 in
theorem k_X8_set {D : Nat} (hD : 2 ≤ D) (x1 : Int32) (x2 : Int32) (x3 : Int32) (H : Hp) (q : Int32 × Hp) (h : f_X8_set x1 x2 x3 H = some q) {post : Option Value → Hp → Prop} (hp : post (some (.int q.1)) q.2) : Sem D mdX8_set [.ref 60, .int x1, .int x2, .int x3] H post := by
  obtain ⟨D, rfl⟩ : ∃ E, D = E + 1 := ⟨D - 1, by omega⟩
  refine sem_of (own := RX8) rfl pn_RX8 (Nat.le_of_ble_eq_true rfl) [.ref 60, .int x1, .int x2, .int x3] ⟨Or.inr rfl, Or.inr rfl, Or.inr rfl, Or.inr rfl, trivial⟩ ?_
  unfold f_X8_set at h
  refine st_aload_n dX8_set_0 rfl rfl ?_
  refine st_iconst dX8_set_1 (v := 0) rfl ?_
  obtain ⟨H1, e_H1, h⟩ := bnd h
  refine pI8 dX8_set_2 (by decide) rfl 0 (by decide) fl_RX8_62 rfl rfl rfl rfl e_H1 ?_
  refine st_iload_n dX8_set_5 rfl rfl ?_
  obtain ⟨v2, e_v2, h⟩ := bnd h
  refine st_callS [.int x1] dX8_set_6 co_X8_isRow sm_X8_isRow ml_RX8_76 rfl (S := []) rfl (Nat.le_of_ble_eq_true rfl) (k_X8_isRow (by omega) x1 H1 _ e_v2 ?_)
  show V (D + 1) RX8 mdX8_set 9 [.ref 60, .int x1, .int x2, .int x3] [.int v2] H1 post
  refine st_if_ne dX8_set_9 15 (by decide) (fun c14 => ?_) (fun c14 => ?_)
  · replace h := (if_neg c14).symm.trans h
    refine st_aload_n dX8_set_15 rfl rfl ?_
    refine st_iconst dX8_set_16 (v := 0) rfl ?_
    obtain ⟨H3, e_H3, h⟩ := bnd h
    refine pI8 dX8_set_17 (by decide) rfl 1 (by decide) fl_RX8_66 rfl rfl rfl rfl e_H3 ?_
    refine st_aload_n dX8_set_20 rfl rfl ?_
    refine gR8 dX8_set_21 (by decide) rfl 2 (by decide) fl_RX8_7 rfl 61 rfl ?_
    refine st_iload_n dX8_set_24 rfl rfl ?_
    obtain ⟨v4, e_v4, h⟩ := bnd h
    refine st_iald dX8_set_25 (by decide) rfl v4 e_v4 ?_
    refine st_if_ge dX8_set_26 35 (by decide) (fun c15 => ?_) (fun c15 => ?_)
    · replace h := (if_pos c15).symm.trans h
      refine st_iload_n dX8_set_35 rfl rfl ?_
      refine st_i2l dX8_set_36 ?_
      refine st_lconst dX8_set_37 (v := 0) rfl ?_
      refine st_aload_n dX8_set_38 rfl rfl ?_
      refine gR8 dX8_set_39 (by decide) rfl 3 (by decide) fl_RX8_13 rfl 62 rfl ?_
      refine st_iload_n dX8_set_42 rfl rfl ?_
      obtain ⟨v5, e_v5, h⟩ := bnd h
      refine st_iald dX8_set_43 (by decide) rfl v5 e_v5 ?_
      refine st_iconst dX8_set_44 (v := 1) rfl ?_
      refine st_isub dX8_set_45 ?_
      refine st_i2l dX8_set_46 ?_
      obtain ⟨v6, e_v6, h⟩ := bnd h
      refine st_callS [.long x2.toInt64, .long 0, .long (v5 - 1).toInt64] dX8_set_47 co_X8_in sm_X8_in ml_RX8_72 rfl (S := []) rfl (Nat.le_of_ble_eq_true rfl) (k_X8_in (by omega) x2.toInt64 0 (v5 - 1).toInt64 H3 _ e_v6 ?_)
      show V (D + 1) RX8 mdX8_set 50 [.ref 60, .int x1, .int x2, .int x3] [.int v6] H3 post
      refine st_if_ne dX8_set_50 59 (by decide) (fun c16 => ?_) (fun c16 => ?_)
      · replace h := (if_neg c16).symm.trans h
        refine st_aload_n dX8_set_59 rfl rfl ?_
        refine gR8 dX8_set_60 (by decide) rfl 4 (by decide) fl_RX8_16 rfl 63 rfl ?_
        refine st_bipush dX8_set_63 (v := 40) (by decide) ?_
        refine st_iload_n dX8_set_65 rfl rfl ?_
        refine st_imul dX8_set_66 ?_
        refine st_iload_n dX8_set_67 rfl rfl ?_
        refine st_iadd dX8_set_68 ?_
        refine st_aload_n dX8_set_69 rfl rfl ?_
        refine gR8 dX8_set_70 (by decide) rfl 2 (by decide) fl_RX8_7 rfl 61 rfl ?_
        refine st_iload_n dX8_set_73 rfl rfl ?_
        obtain ⟨v8, e_v8, h⟩ := bnd h
        refine st_iald dX8_set_74 (by decide) rfl v8 e_v8 ?_
        obtain ⟨j10, e_j10, h⟩ := bnd h
        have kj17 : V (D + 1) RX8 mdX8_set 99 [.ref 60, .int x1, .int x2, .null] [.int j10, .int ((40 * x1) + x2), .ref 63] H3 post := by
          obtain ⟨H11, e_H11, h⟩ := bnd h
          refine st_iast dX8_set_99 (by decide) rfl H11 e_H11 ?_
          refine st_aload_n dX8_set_100 rfl rfl ?_
          refine gR8 dX8_set_101 (by decide) rfl 4 (by decide) fl_RX8_16 rfl 63 rfl ?_
          refine st_bipush dX8_set_104 (v := 40) (by decide) ?_
          refine st_iload_n dX8_set_106 rfl rfl ?_
          refine st_imul dX8_set_107 ?_
          refine st_iload_n dX8_set_108 rfl rfl ?_
          refine st_iadd dX8_set_109 ?_
          obtain ⟨v12, e_v12, h⟩ := bnd h
          refine st_iald dX8_set_110 (by decide) rfl v12 e_v12 ?_
          obtain rfl := Option.some.inj h
          exact st_iret dX8_set_111 rfl hp
        refine st_if_ne dX8_set_75 83 (by decide) (fun c18 => ?_) (fun c18 => ?_)
        · replace e_j10 := (if_neg c18).symm.trans e_j10
          refine st_aload_n dX8_set_83 rfl rfl ?_
          refine gR8 dX8_set_84 (by decide) rfl 2 (by decide) fl_RX8_7 rfl 61 rfl ?_
          refine st_iload_n dX8_set_87 rfl rfl ?_
          obtain ⟨v9, e_v9, e_j10⟩ := bnd e_j10
          refine st_iald dX8_set_88 (by decide) rfl v9 e_v9 ?_
          refine st_iconst dX8_set_89 (v := 1) rfl ?_
          refine st_ic_ne dX8_set_90 98 (by decide) (fun c19 => ?_) (fun c19 => ?_)
          · replace e_j10 := (if_neg c19).symm.trans e_j10
            refine st_iload_n dX8_set_98 rfl rfl ?_
            obtain rfl := Option.some.inj e_j10
            exact st_sub [.ref 60, .int x1, .int x2, .null] ⟨Or.inr rfl, Or.inr rfl, Or.inr rfl, Or.inl rfl, trivial⟩ kj17
          · replace e_j10 := (if_pos c19).symm.trans e_j10
            refine st_iload_n dX8_set_93 rfl rfl ?_
            refine st_i2s dX8_set_94 ?_
            refine st_goto dX8_set_95 99 (by decide) ?_
            obtain rfl := Option.some.inj e_j10
            exact st_sub [.ref 60, .int x1, .int x2, .null] ⟨Or.inr rfl, Or.inr rfl, Or.inr rfl, Or.inl rfl, trivial⟩ kj17
        · replace e_j10 := (if_pos c18).symm.trans e_j10
          refine st_iload_n dX8_set_78 rfl rfl ?_
          refine st_i2b dX8_set_79 ?_
          refine st_goto dX8_set_80 99 (by decide) ?_
          obtain rfl := Option.some.inj e_j10
          exact st_sub [.ref 60, .int x1, .int x2, .null] ⟨Or.inr rfl, Or.inr rfl, Or.inr rfl, Or.inl rfl, trivial⟩ kj17
      · replace h := (if_pos c16).symm.trans h
        refine st_aload_n dX8_set_53 rfl rfl ?_
        refine st_iconst dX8_set_54 (v := 2) rfl ?_
        obtain ⟨q7, e_q7, h⟩ := bnd h
        refine st_callV [.int 2] dX8_set_55 co_X8_finding im_X8_finding se_X8_finding ml_RX8_83 rfl (by decide) rfl (rfl : classes[8]? = some (RX8, TX8, 30)) rfl (S := []) rfl (Nat.le_of_ble_eq_true rfl) (k_X8_finding (by omega) 2 H3 _ e_q7 ?_)
        show V (D + 1) RX8 mdX8_set 58 [.ref 60, .int x1, .int x2, .int x3] [.int q7.1] q7.2 post
        obtain rfl := Option.some.inj h
        exact st_iret dX8_set_58 rfl hp
    · replace h := (if_neg c15).symm.trans h
      refine st_aload_n dX8_set_29 rfl rfl ?_
      refine st_iconst dX8_set_30 (v := 1) rfl ?_
      obtain ⟨q13, e_q13, h⟩ := bnd h
      refine st_callV [.int 1] dX8_set_31 co_X8_finding im_X8_finding se_X8_finding ml_RX8_83 rfl (by decide) rfl (rfl : classes[8]? = some (RX8, TX8, 30)) rfl (S := []) rfl (Nat.le_of_ble_eq_true rfl) (k_X8_finding (by omega) 1 H3 _ e_q13 ?_)
      show V (D + 1) RX8 mdX8_set 34 [.ref 60, .int x1, .int x2, .int x3] [.int q13.1] q13.2 post
      obtain rfl := Option.some.inj h
      exact st_iret dX8_set_34 rfl hp
  · replace h := (if_pos c14).symm.trans h
    refine st_ldc dX8_set_12 cn_RX8_82 ?_
    obtain rfl := Option.some.inj h
    exact st_iret dX8_set_14 rfl hp
def f_X8_copy_l143 (x1 : Int32) (x2 : Int32) (x3 : Int32) (x4 : Int32) (x5 : Int32) (x6 : Int32) : Nat → Int32 → Hp → Option (Hp)
  | 0, _, _ => none
  | n + 1, x7, H =>
    if x5 ≤ x7 then
      some H
    else
      (ag H 63 320 (((40 * x1) + x2) + (if x6 = 0 then ((x5 - 1) - x7) else x7))).bind fun v16 =>
      (as H 63 320 (((40 * x3) + x4) + (if x6 = 0 then ((x5 - 1) - x7) else x7)) v16).bind fun H17 =>
      f_X8_copy_l143 x1 x2 x3 x4 x5 x6 n (x7 + 1) H17
def f_X8_copy (x1 : Int32) (x2 : Int32) (x3 : Int32) (x4 : Int32) (x5 : Int32) (H : Hp) : Option (Int32 × Hp) :=
  (pf H 60 0 0).bind fun H1 =>
  (f_X8_isRow x1).bind fun v2 =>
  if v2 = 0 then
    some ((-1000001), H1)
  else
    (f_X8_isRow x3).bind fun v3 =>
    if v3 = 0 then
      some ((-1000001), H1)
    else
      (pf H1 60 1 0).bind fun H4 =>
      (ag H4 61 8 x1).bind fun v5 =>
      if v5 < 0 then
        (f_X8_finding 1 H4).bind fun q6 =>
        some (q6.1, q6.2)
      else
        (ag H4 61 8 x3).bind fun v7 =>
        if 0 ≤ v7 then
          (ag H4 61 8 x1).bind fun v8 =>
          (ag H4 61 8 x3).bind fun v9 =>
          if v8 = v9 then
            if x2 < 0 then
              (f_X8_finding 2 H4).bind fun q10 =>
              some (q10.1, q10.2)
            else
              if x4 < 0 then
                (f_X8_finding 2 H4).bind fun q11 =>
                some (q11.1, q11.2)
              else
                if x5 < 0 then
                  (f_X8_finding 2 H4).bind fun q12 =>
                  some (q12.1, q12.2)
                else
                  (ag H4 62 8 x1).bind fun v13 =>
                  if v13.toInt64 < (x2.toInt64 + x5.toInt64) then
                    (f_X8_finding 2 H4).bind fun q14 =>
                    some (q14.1, q14.2)
                  else
                    (ag H4 62 8 x3).bind fun v15 =>
                    if (x4.toInt64 + x5.toInt64) ≤ v15.toInt64 then
                      (f_X8_copy_l143 x1 x2 x3 x4 x5 ((if x2 < x4 then 0 else 1) : Int32) fuel 0 H4).bind fun l22 =>
                      some (x5, l22)
                    else
                      (f_X8_finding 2 H4).bind fun q23 =>
                      some (q23.1, q23.2)
          else
            (f_X8_finding 5 H4).bind fun q24 =>
            some (q24.1, q24.2)
        else
          (f_X8_finding 1 H4).bind fun q25 =>
          some (q25.1, q25.2)
set_option maxHeartbeats 4000000 in
set_option maxRecDepth 100000 in
theorem k_X8_copy_l143 {D : Nat} (hD : 2 ≤ (D + 1)) (x1 : Int32) (x2 : Int32) (x3 : Int32) (x4 : Int32) (x5 : Int32) (x6 : Int32) {post : Option Value → Hp → Prop} : ∀ (n : Nat) (x7 : Int32) (H : Hp) (q : Hp), f_X8_copy_l143 x1 x2 x3 x4 x5 x6 n x7 H = some q → V (D + 1) RX8 mdX8_copy 204 [.null, .null, .null, .null, .null, .int x5, .null, .null, .null] [] q post → V (D + 1) RX8 mdX8_copy 143 [.ref 60, .int x1, .int x2, .int x3, .int x4, .int x5, .int x6, .int x7, .null] [] H post := by
  intro n
  induction n with
  | zero => intro x7 H q h; simp [f_X8_copy_l143] at h
  | succ n ih =>
    intro x7 H q h k1
    rw [f_X8_copy_l143] at h
    refine st_iload dX8_copy_143 rfl ?_
    refine st_iload dX8_copy_145 rfl ?_
    refine st_ic_ge dX8_copy_147 204 (by decide) (fun c18 => ?_) (fun c18 => ?_)
    · replace h := (if_pos c18).symm.trans h
      obtain rfl := Option.some.inj h
      exact st_sub [.null, .null, .null, .null, .null, .int x5, .null, .null, .null] ⟨Or.inl rfl, Or.inl rfl, Or.inl rfl, Or.inl rfl, Or.inl rfl, Or.inr rfl, Or.inl rfl, Or.inl rfl, Or.inl rfl, trivial⟩ k1
    · replace h := (if_neg c18).symm.trans h
      refine st_iload dX8_copy_150 rfl ?_
      have kj20 : ∀ z19 : Int32, z19 = (if x6 = 0 then ((x5 - 1) - x7) else x7) → V (D + 1) RX8 mdX8_copy 167 [.ref 60, .int x1, .int x2, .int x3, .int x4, .int x5, .int x6, .int x7, .null] [.int z19] H post := by
        intro z19 ez19
        subst ez19
        refine st_istore dX8_copy_167 (by decide) [.ref 60, .int x1, .int x2, .int x3, .int x4, .int x5, .int x6, .int x7, .int (if x6 = 0 then ((x5 - 1) - x7) else x7)] rfl ?_
        refine st_aload_n dX8_copy_169 rfl rfl ?_
        refine gR8 dX8_copy_170 (by decide) rfl 4 (by decide) fl_RX8_16 rfl 63 rfl ?_
        refine st_bipush dX8_copy_173 (v := 40) (by decide) ?_
        refine st_iload_n dX8_copy_175 rfl rfl ?_
        refine st_imul dX8_copy_176 ?_
        refine st_iload dX8_copy_177 rfl ?_
        refine st_iadd dX8_copy_179 ?_
        refine st_iload dX8_copy_180 rfl ?_
        refine st_iadd dX8_copy_182 ?_
        refine st_aload_n dX8_copy_183 rfl rfl ?_
        refine gR8 dX8_copy_184 (by decide) rfl 4 (by decide) fl_RX8_16 rfl 63 rfl ?_
        refine st_bipush dX8_copy_187 (v := 40) (by decide) ?_
        refine st_iload_n dX8_copy_189 rfl rfl ?_
        refine st_imul dX8_copy_190 ?_
        refine st_iload_n dX8_copy_191 rfl rfl ?_
        refine st_iadd dX8_copy_192 ?_
        refine st_iload dX8_copy_193 rfl ?_
        refine st_iadd dX8_copy_195 ?_
        obtain ⟨v16, e_v16, h⟩ := bnd h
        refine st_iald dX8_copy_196 (by decide) rfl v16 e_v16 ?_
        obtain ⟨H17, e_H17, h⟩ := bnd h
        refine st_iast dX8_copy_197 (by decide) rfl H17 e_H17 ?_
        refine st_iinc dX8_copy_198 rfl (v := (x7 + 1)) rfl (by decide) [.ref 60, .int x1, .int x2, .int x3, .int x4, .int x5, .int x6, .int (x7 + 1), .int (if x6 = 0 then ((x5 - 1) - x7) else x7)] rfl ?_
        refine st_goto dX8_copy_201 143 (by decide) ?_
        exact st_sub [.ref 60, .int x1, .int x2, .int x3, .int x4, .int x5, .int x6, .int (x7 + 1), .null] ⟨Or.inr rfl, Or.inr rfl, Or.inr rfl, Or.inr rfl, Or.inr rfl, Or.inr rfl, Or.inr rfl, Or.inr rfl, Or.inl rfl, trivial⟩ (ih (x7 + 1) H17 q h k1)
      refine st_if_eq dX8_copy_152 160 (by decide) (fun c21 => ?_) (fun c21 => ?_)
      · refine st_iload dX8_copy_160 rfl ?_
        refine st_iconst dX8_copy_162 (v := 1) rfl ?_
        refine st_isub dX8_copy_163 ?_
        refine st_iload dX8_copy_164 rfl ?_
        refine st_isub dX8_copy_166 ?_
        exact (kj20 _ (Eq.symm (if_pos c21)))
      · refine st_iload dX8_copy_155 rfl ?_
        refine st_goto dX8_copy_157 167 (by decide) ?_
        exact (kj20 _ (Eq.symm (if_neg c21)))
set_option maxHeartbeats 4000000 in
set_option maxRecDepth 100000 in
theorem k_X8_copy {D : Nat} (hD : 2 ≤ D) (x1 : Int32) (x2 : Int32) (x3 : Int32) (x4 : Int32) (x5 : Int32) (H : Hp) (q : Int32 × Hp) (h : f_X8_copy x1 x2 x3 x4 x5 H = some q) {post : Option Value → Hp → Prop} (hp : post (some (.int q.1)) q.2) : Sem D mdX8_copy [.ref 60, .int x1, .int x2, .int x3, .int x4, .int x5] H post := by
  obtain ⟨D, rfl⟩ : ∃ E, D = E + 1 := ⟨D - 1, by omega⟩
  refine sem_of (own := RX8) rfl pn_RX8 (Nat.le_of_ble_eq_true rfl) [.ref 60, .int x1, .int x2, .int x3, .int x4, .int x5, .null, .null, .null] ⟨Or.inr rfl, Or.inr rfl, Or.inr rfl, Or.inr rfl, Or.inr rfl, Or.inr rfl, rfl, rfl, rfl, trivial⟩ ?_
  unfold f_X8_copy at h
  refine st_aload_n dX8_copy_0 rfl rfl ?_
  refine st_iconst dX8_copy_1 (v := 0) rfl ?_
  obtain ⟨H1, e_H1, h⟩ := bnd h
  refine pI8 dX8_copy_2 (by decide) rfl 0 (by decide) fl_RX8_62 rfl rfl rfl rfl e_H1 ?_
  refine st_iload_n dX8_copy_5 rfl rfl ?_
  obtain ⟨v2, e_v2, h⟩ := bnd h
  refine st_callS [.int x1] dX8_copy_6 co_X8_isRow sm_X8_isRow ml_RX8_76 rfl (S := []) rfl (Nat.le_of_ble_eq_true rfl) (k_X8_isRow (by omega) x1 H1 _ e_v2 ?_)
  show V (D + 1) RX8 mdX8_copy 9 [.ref 60, .int x1, .int x2, .int x3, .int x4, .int x5, .null, .null, .null] [.int v2] H1 post
  refine st_if_eq dX8_copy_9 19 (by decide) (fun c26 => ?_) (fun c26 => ?_)
  · replace h := (if_pos c26).symm.trans h
    refine st_ldc dX8_copy_19 cn_RX8_82 ?_
    obtain rfl := Option.some.inj h
    exact st_iret dX8_copy_21 rfl hp
  · replace h := (if_neg c26).symm.trans h
    refine st_iload_n dX8_copy_12 rfl rfl ?_
    obtain ⟨v3, e_v3, h⟩ := bnd h
    refine st_callS [.int x3] dX8_copy_13 co_X8_isRow sm_X8_isRow ml_RX8_76 rfl (S := []) rfl (Nat.le_of_ble_eq_true rfl) (k_X8_isRow (by omega) x3 H1 _ e_v3 ?_)
    show V (D + 1) RX8 mdX8_copy 16 [.ref 60, .int x1, .int x2, .int x3, .int x4, .int x5, .null, .null, .null] [.int v3] H1 post
    refine st_if_ne dX8_copy_16 22 (by decide) (fun c27 => ?_) (fun c27 => ?_)
    · replace h := (if_neg c27).symm.trans h
      refine st_aload_n dX8_copy_22 rfl rfl ?_
      refine st_iconst dX8_copy_23 (v := 0) rfl ?_
      obtain ⟨H4, e_H4, h⟩ := bnd h
      refine pI8 dX8_copy_24 (by decide) rfl 1 (by decide) fl_RX8_66 rfl rfl rfl rfl e_H4 ?_
      refine st_aload_n dX8_copy_27 rfl rfl ?_
      refine gR8 dX8_copy_28 (by decide) rfl 2 (by decide) fl_RX8_7 rfl 61 rfl ?_
      refine st_iload_n dX8_copy_31 rfl rfl ?_
      obtain ⟨v5, e_v5, h⟩ := bnd h
      refine st_iald dX8_copy_32 (by decide) rfl v5 e_v5 ?_
      refine st_if_lt dX8_copy_33 45 (by decide) (fun c28 => ?_) (fun c28 => ?_)
      · replace h := (if_pos c28).symm.trans h
        refine st_aload_n dX8_copy_45 rfl rfl ?_
        refine st_iconst dX8_copy_46 (v := 1) rfl ?_
        obtain ⟨q6, e_q6, h⟩ := bnd h
        refine st_callV [.int 1] dX8_copy_47 co_X8_finding im_X8_finding se_X8_finding ml_RX8_83 rfl (by decide) rfl (rfl : classes[8]? = some (RX8, TX8, 30)) rfl (S := []) rfl (Nat.le_of_ble_eq_true rfl) (k_X8_finding (by omega) 1 H4 _ e_q6 ?_)
        show V (D + 1) RX8 mdX8_copy 50 [.ref 60, .int x1, .int x2, .int x3, .int x4, .int x5, .null, .null, .null] [.int q6.1] q6.2 post
        obtain rfl := Option.some.inj h
        exact st_iret dX8_copy_50 rfl hp
      · replace h := (if_neg c28).symm.trans h
        refine st_aload_n dX8_copy_36 rfl rfl ?_
        refine gR8 dX8_copy_37 (by decide) rfl 2 (by decide) fl_RX8_7 rfl 61 rfl ?_
        refine st_iload_n dX8_copy_40 rfl rfl ?_
        obtain ⟨v7, e_v7, h⟩ := bnd h
        refine st_iald dX8_copy_41 (by decide) rfl v7 e_v7 ?_
        refine st_if_ge dX8_copy_42 51 (by decide) (fun c29 => ?_) (fun c29 => ?_)
        · replace h := (if_pos c29).symm.trans h
          refine st_aload_n dX8_copy_51 rfl rfl ?_
          refine gR8 dX8_copy_52 (by decide) rfl 2 (by decide) fl_RX8_7 rfl 61 rfl ?_
          refine st_iload_n dX8_copy_55 rfl rfl ?_
          obtain ⟨v8, e_v8, h⟩ := bnd h
          refine st_iald dX8_copy_56 (by decide) rfl v8 e_v8 ?_
          refine st_aload_n dX8_copy_57 rfl rfl ?_
          refine gR8 dX8_copy_58 (by decide) rfl 2 (by decide) fl_RX8_7 rfl 61 rfl ?_
          refine st_iload_n dX8_copy_61 rfl rfl ?_
          obtain ⟨v9, e_v9, h⟩ := bnd h
          refine st_iald dX8_copy_62 (by decide) rfl v9 e_v9 ?_
          refine st_ic_eq dX8_copy_63 72 (by decide) (fun c30 => ?_) (fun c30 => ?_)
          · replace h := (if_pos c30).symm.trans h
            refine st_iload_n dX8_copy_72 rfl rfl ?_
            refine st_if_lt dX8_copy_73 121 (by decide) (fun c31 => ?_) (fun c31 => ?_)
            · replace h := (if_pos c31).symm.trans h
              refine st_aload_n dX8_copy_121 rfl rfl ?_
              refine st_iconst dX8_copy_122 (v := 2) rfl ?_
              obtain ⟨q10, e_q10, h⟩ := bnd h
              refine st_callV [.int 2] dX8_copy_123 co_X8_finding im_X8_finding se_X8_finding ml_RX8_83 rfl (by decide) rfl (rfl : classes[8]? = some (RX8, TX8, 30)) rfl (S := []) rfl (Nat.le_of_ble_eq_true rfl) (k_X8_finding (by omega) 2 H4 _ e_q10 ?_)
              show V (D + 1) RX8 mdX8_copy 126 [.ref 60, .int x1, .int x2, .int x3, .int x4, .int x5, .null, .null, .null] [.int q10.1] q10.2 post
              obtain rfl := Option.some.inj h
              exact st_iret dX8_copy_126 rfl hp
            · replace h := (if_neg c31).symm.trans h
              refine st_iload dX8_copy_76 rfl ?_
              refine st_if_lt dX8_copy_78 121 (by decide) (fun c32 => ?_) (fun c32 => ?_)
              · replace h := (if_pos c32).symm.trans h
                refine st_aload_n dX8_copy_121 rfl rfl ?_
                refine st_iconst dX8_copy_122 (v := 2) rfl ?_
                obtain ⟨q11, e_q11, h⟩ := bnd h
                refine st_callV [.int 2] dX8_copy_123 co_X8_finding im_X8_finding se_X8_finding ml_RX8_83 rfl (by decide) rfl (rfl : classes[8]? = some (RX8, TX8, 30)) rfl (S := []) rfl (Nat.le_of_ble_eq_true rfl) (k_X8_finding (by omega) 2 H4 _ e_q11 ?_)
                show V (D + 1) RX8 mdX8_copy 126 [.ref 60, .int x1, .int x2, .int x3, .int x4, .int x5, .null, .null, .null] [.int q11.1] q11.2 post
                obtain rfl := Option.some.inj h
                exact st_iret dX8_copy_126 rfl hp
              · replace h := (if_neg c32).symm.trans h
                refine st_iload dX8_copy_81 rfl ?_
                refine st_if_lt dX8_copy_83 121 (by decide) (fun c33 => ?_) (fun c33 => ?_)
                · replace h := (if_pos c33).symm.trans h
                  refine st_aload_n dX8_copy_121 rfl rfl ?_
                  refine st_iconst dX8_copy_122 (v := 2) rfl ?_
                  obtain ⟨q12, e_q12, h⟩ := bnd h
                  refine st_callV [.int 2] dX8_copy_123 co_X8_finding im_X8_finding se_X8_finding ml_RX8_83 rfl (by decide) rfl (rfl : classes[8]? = some (RX8, TX8, 30)) rfl (S := []) rfl (Nat.le_of_ble_eq_true rfl) (k_X8_finding (by omega) 2 H4 _ e_q12 ?_)
                  show V (D + 1) RX8 mdX8_copy 126 [.ref 60, .int x1, .int x2, .int x3, .int x4, .int x5, .null, .null, .null] [.int q12.1] q12.2 post
                  obtain rfl := Option.some.inj h
                  exact st_iret dX8_copy_126 rfl hp
                · replace h := (if_neg c33).symm.trans h
                  refine st_iload_n dX8_copy_86 rfl rfl ?_
                  refine st_i2l dX8_copy_87 ?_
                  refine st_iload dX8_copy_88 rfl ?_
                  refine st_i2l dX8_copy_90 ?_
                  refine st_ladd dX8_copy_91 ?_
                  refine st_aload_n dX8_copy_92 rfl rfl ?_
                  refine gR8 dX8_copy_93 (by decide) rfl 3 (by decide) fl_RX8_13 rfl 62 rfl ?_
                  refine st_iload_n dX8_copy_96 rfl rfl ?_
                  obtain ⟨v13, e_v13, h⟩ := bnd h
                  refine st_iald dX8_copy_97 (by decide) rfl v13 e_v13 ?_
                  refine st_i2l dX8_copy_98 ?_
                  refine st_lcmp dX8_copy_99 ?_
                  refine st_if_gt dX8_copy_100 121 (by decide) (fun c34 => ?_) (fun c34 => ?_)
                  · replace c34 := (lg_cmp_gt (x2.toInt64 + x5.toInt64) v13.toInt64).mp c34
                    replace h := (if_pos c34).symm.trans h
                    refine st_aload_n dX8_copy_121 rfl rfl ?_
                    refine st_iconst dX8_copy_122 (v := 2) rfl ?_
                    obtain ⟨q14, e_q14, h⟩ := bnd h
                    refine st_callV [.int 2] dX8_copy_123 co_X8_finding im_X8_finding se_X8_finding ml_RX8_83 rfl (by decide) rfl (rfl : classes[8]? = some (RX8, TX8, 30)) rfl (S := []) rfl (Nat.le_of_ble_eq_true rfl) (k_X8_finding (by omega) 2 H4 _ e_q14 ?_)
                    show V (D + 1) RX8 mdX8_copy 126 [.ref 60, .int x1, .int x2, .int x3, .int x4, .int x5, .null, .null, .null] [.int q14.1] q14.2 post
                    obtain rfl := Option.some.inj h
                    exact st_iret dX8_copy_126 rfl hp
                  · replace c34 := (not_congr (lg_cmp_gt (x2.toInt64 + x5.toInt64) v13.toInt64)).mp c34
                    replace h := (if_neg c34).symm.trans h
                    refine st_iload dX8_copy_103 rfl ?_
                    refine st_i2l dX8_copy_105 ?_
                    refine st_iload dX8_copy_106 rfl ?_
                    refine st_i2l dX8_copy_108 ?_
                    refine st_ladd dX8_copy_109 ?_
                    refine st_aload_n dX8_copy_110 rfl rfl ?_
                    refine gR8 dX8_copy_111 (by decide) rfl 3 (by decide) fl_RX8_13 rfl 62 rfl ?_
                    refine st_iload_n dX8_copy_114 rfl rfl ?_
                    obtain ⟨v15, e_v15, h⟩ := bnd h
                    refine st_iald dX8_copy_115 (by decide) rfl v15 e_v15 ?_
                    refine st_i2l dX8_copy_116 ?_
                    refine st_lcmp dX8_copy_117 ?_
                    refine st_if_le dX8_copy_118 127 (by decide) (fun c35 => ?_) (fun c35 => ?_)
                    · replace c35 := (lg_cmp_le (x4.toInt64 + x5.toInt64) v15.toInt64).mp c35
                      replace h := (if_pos c35).symm.trans h
                      refine st_iload_n dX8_copy_127 rfl rfl ?_
                      refine st_iload dX8_copy_128 rfl ?_
                      have kj37 : ∀ z36 : Int32, z36 = ((if x2 < x4 then 0 else 1) : Int32) → V (D + 1) RX8 mdX8_copy 138 [.ref 60, .int x1, .int x2, .int x3, .int x4, .int x5, .null, .null, .null] [.int z36] H4 post := by
                        intro z36 ez36
                        subst ez36
                        refine st_istore dX8_copy_138 (by decide) [.ref 60, .int x1, .int x2, .int x3, .int x4, .int x5, .int ((if x2 < x4 then 0 else 1) : Int32), .null, .null] rfl ?_
                        refine st_iconst dX8_copy_140 (v := 0) rfl ?_
                        refine st_istore dX8_copy_141 (by decide) [.ref 60, .int x1, .int x2, .int x3, .int x4, .int x5, .int ((if x2 < x4 then 0 else 1) : Int32), .int 0, .null] rfl ?_
                        obtain ⟨l22, e_l22, h⟩ := bnd h
                        refine k_X8_copy_l143 (by omega) x1 x2 x3 x4 x5 ((if x2 < x4 then 0 else 1) : Int32) fuel 0 H4 _ e_l22 ?_
                        refine st_iload dX8_copy_204 rfl ?_
                        obtain rfl := Option.some.inj h
                        exact st_iret dX8_copy_206 rfl hp
                      refine st_ic_lt dX8_copy_130 137 (by decide) (fun c38 => ?_) (fun c38 => ?_)
                      · refine st_iconst dX8_copy_137 (v := 0) rfl ?_
                        exact (kj37 _ (Eq.symm (if_pos c38)))
                      · refine st_iconst dX8_copy_133 (v := 1) rfl ?_
                        refine st_goto dX8_copy_134 138 (by decide) ?_
                        exact (kj37 _ (Eq.symm (if_neg c38)))
                    · replace c35 := (not_congr (lg_cmp_le (x4.toInt64 + x5.toInt64) v15.toInt64)).mp c35
                      replace h := (if_neg c35).symm.trans h
                      refine st_aload_n dX8_copy_121 rfl rfl ?_
                      refine st_iconst dX8_copy_122 (v := 2) rfl ?_
                      obtain ⟨q23, e_q23, h⟩ := bnd h
                      refine st_callV [.int 2] dX8_copy_123 co_X8_finding im_X8_finding se_X8_finding ml_RX8_83 rfl (by decide) rfl (rfl : classes[8]? = some (RX8, TX8, 30)) rfl (S := []) rfl (Nat.le_of_ble_eq_true rfl) (k_X8_finding (by omega) 2 H4 _ e_q23 ?_)
                      show V (D + 1) RX8 mdX8_copy 126 [.ref 60, .int x1, .int x2, .int x3, .int x4, .int x5, .null, .null, .null] [.int q23.1] q23.2 post
                      obtain rfl := Option.some.inj h
                      exact st_iret dX8_copy_126 rfl hp
          · replace h := (if_neg c30).symm.trans h
            refine st_aload_n dX8_copy_66 rfl rfl ?_
            refine st_iconst dX8_copy_67 (v := 5) rfl ?_
            obtain ⟨q24, e_q24, h⟩ := bnd h
            refine st_callV [.int 5] dX8_copy_68 co_X8_finding im_X8_finding se_X8_finding ml_RX8_83 rfl (by decide) rfl (rfl : classes[8]? = some (RX8, TX8, 30)) rfl (S := []) rfl (Nat.le_of_ble_eq_true rfl) (k_X8_finding (by omega) 5 H4 _ e_q24 ?_)
            show V (D + 1) RX8 mdX8_copy 71 [.ref 60, .int x1, .int x2, .int x3, .int x4, .int x5, .null, .null, .null] [.int q24.1] q24.2 post
            obtain rfl := Option.some.inj h
            exact st_iret dX8_copy_71 rfl hp
        · replace h := (if_neg c29).symm.trans h
          refine st_aload_n dX8_copy_45 rfl rfl ?_
          refine st_iconst dX8_copy_46 (v := 1) rfl ?_
          obtain ⟨q25, e_q25, h⟩ := bnd h
          refine st_callV [.int 1] dX8_copy_47 co_X8_finding im_X8_finding se_X8_finding ml_RX8_83 rfl (by decide) rfl (rfl : classes[8]? = some (RX8, TX8, 30)) rfl (S := []) rfl (Nat.le_of_ble_eq_true rfl) (k_X8_finding (by omega) 1 H4 _ e_q25 ?_)
          show V (D + 1) RX8 mdX8_copy 50 [.ref 60, .int x1, .int x2, .int x3, .int x4, .int x5, .null, .null, .null] [.int q25.1] q25.2 post
          obtain rfl := Option.some.inj h
          exact st_iret dX8_copy_50 rfl hp
    · replace h := (if_pos c27).symm.trans h
      refine st_ldc dX8_copy_19 cn_RX8_82 ?_
      obtain rfl := Option.some.inj h
      exact st_iret dX8_copy_21 rfl hp
def f_X8_drop (x1 : Int32) (H : Hp) : Option (Int32 × Hp) :=
  (pf H 60 0 0).bind fun H1 =>
  (f_X8_isRow x1).bind fun v2 =>
  if v2 = 0 then
    some ((-1000001), H1)
  else
    (pf H1 60 1 0).bind fun H3 =>
    (ag H3 61 8 x1).bind fun v4 =>
    if 0 ≤ v4 then
      (as H3 61 8 x1 (-1)).bind fun H5 =>
      (ag H5 62 8 x1).bind fun v6 =>
      some (v6, H5)
    else
      (f_X8_finding 1 H3).bind fun q7 =>
      some (q7.1, q7.2)
set_option maxHeartbeats 4000000 in
set_option maxRecDepth 100000 in
theorem k_X8_drop {D : Nat} (hD : 2 ≤ D) (x1 : Int32) (H : Hp) (q : Int32 × Hp) (h : f_X8_drop x1 H = some q) {post : Option Value → Hp → Prop} (hp : post (some (.int q.1)) q.2) : Sem D mdX8_drop [.ref 60, .int x1] H post := by
  obtain ⟨D, rfl⟩ : ∃ E, D = E + 1 := ⟨D - 1, by omega⟩
  refine sem_of (own := RX8) rfl pn_RX8 (Nat.le_of_ble_eq_true rfl) [.ref 60, .int x1] ⟨Or.inr rfl, Or.inr rfl, trivial⟩ ?_
  unfold f_X8_drop at h
  refine st_aload_n dX8_drop_0 rfl rfl ?_
  refine st_iconst dX8_drop_1 (v := 0) rfl ?_
  obtain ⟨H1, e_H1, h⟩ := bnd h
  refine pI8 dX8_drop_2 (by decide) rfl 0 (by decide) fl_RX8_62 rfl rfl rfl rfl e_H1 ?_
  refine st_iload_n dX8_drop_5 rfl rfl ?_
  obtain ⟨v2, e_v2, h⟩ := bnd h
  refine st_callS [.int x1] dX8_drop_6 co_X8_isRow sm_X8_isRow ml_RX8_76 rfl (S := []) rfl (Nat.le_of_ble_eq_true rfl) (k_X8_isRow (by omega) x1 H1 _ e_v2 ?_)
  show V (D + 1) RX8 mdX8_drop 9 [.ref 60, .int x1] [.int v2] H1 post
  refine st_if_ne dX8_drop_9 15 (by decide) (fun c8 => ?_) (fun c8 => ?_)
  · replace h := (if_neg c8).symm.trans h
    refine st_aload_n dX8_drop_15 rfl rfl ?_
    refine st_iconst dX8_drop_16 (v := 0) rfl ?_
    obtain ⟨H3, e_H3, h⟩ := bnd h
    refine pI8 dX8_drop_17 (by decide) rfl 1 (by decide) fl_RX8_66 rfl rfl rfl rfl e_H3 ?_
    refine st_aload_n dX8_drop_20 rfl rfl ?_
    refine gR8 dX8_drop_21 (by decide) rfl 2 (by decide) fl_RX8_7 rfl 61 rfl ?_
    refine st_iload_n dX8_drop_24 rfl rfl ?_
    obtain ⟨v4, e_v4, h⟩ := bnd h
    refine st_iald dX8_drop_25 (by decide) rfl v4 e_v4 ?_
    refine st_if_ge dX8_drop_26 35 (by decide) (fun c9 => ?_) (fun c9 => ?_)
    · replace h := (if_pos c9).symm.trans h
      refine st_aload_n dX8_drop_35 rfl rfl ?_
      refine gR8 dX8_drop_36 (by decide) rfl 2 (by decide) fl_RX8_7 rfl 61 rfl ?_
      refine st_iload_n dX8_drop_39 rfl rfl ?_
      refine st_iconst dX8_drop_40 (v := (-1)) rfl ?_
      obtain ⟨H5, e_H5, h⟩ := bnd h
      refine st_iast dX8_drop_41 (by decide) rfl H5 e_H5 ?_
      refine st_aload_n dX8_drop_42 rfl rfl ?_
      refine gR8 dX8_drop_43 (by decide) rfl 3 (by decide) fl_RX8_13 rfl 62 rfl ?_
      refine st_iload_n dX8_drop_46 rfl rfl ?_
      obtain ⟨v6, e_v6, h⟩ := bnd h
      refine st_iald dX8_drop_47 (by decide) rfl v6 e_v6 ?_
      obtain rfl := Option.some.inj h
      exact st_iret dX8_drop_48 rfl hp
    · replace h := (if_neg c9).symm.trans h
      refine st_aload_n dX8_drop_29 rfl rfl ?_
      refine st_iconst dX8_drop_30 (v := 1) rfl ?_
      obtain ⟨q7, e_q7, h⟩ := bnd h
      refine st_callV [.int 1] dX8_drop_31 co_X8_finding im_X8_finding se_X8_finding ml_RX8_83 rfl (by decide) rfl (rfl : classes[8]? = some (RX8, TX8, 30)) rfl (S := []) rfl (Nat.le_of_ble_eq_true rfl) (k_X8_finding (by omega) 1 H3 _ e_q7 ?_)
      show V (D + 1) RX8 mdX8_drop 34 [.ref 60, .int x1] [.int q7.1] q7.2 post
      obtain rfl := Option.some.inj h
      exact st_iret dX8_drop_34 rfl hp
  · replace h := (if_pos c8).symm.trans h
    refine st_ldc dX8_drop_12 cn_RX8_82 ?_
    obtain rfl := Option.some.inj h
    exact st_iret dX8_drop_14 rfl hp
def f_X8_feed (x1 : Int32) (H : Hp) : Option (Int32 × Hp) :=
  (pf H 60 0 0).bind fun H1 =>
  (f_X8_in x1.toInt64 0 255).bind fun v2 =>
  if v2 = 0 then
    some ((-1000001), H1)
  else
    if (H1 60 11) = 130 then
      some ((-1000003), H1)
    else
      (as H1 68 130 (H1 60 11) x1).bind fun H3 =>
      (pf H3 60 11 ((H3 60 11) + 1)).bind fun H4 =>
      some ((H4 60 11), H4)
set_option maxHeartbeats 4000000 in
set_option maxRecDepth 100000 in
theorem k_X8_feed {D : Nat} (hD : 1 ≤ D) (x1 : Int32) (H : Hp) (q : Int32 × Hp) (h : f_X8_feed x1 H = some q) {post : Option Value → Hp → Prop} (hp : post (some (.int q.1)) q.2) : Sem D mdX8_feed [.ref 60, .int x1] H post := by
  obtain ⟨D, rfl⟩ : ∃ E, D = E + 1 := ⟨D - 1, by omega⟩
  refine sem_of (own := RX8) rfl pn_RX8 (Nat.le_of_ble_eq_true rfl) [.ref 60, .int x1] ⟨Or.inr rfl, Or.inr rfl, trivial⟩ ?_
  unfold f_X8_feed at h
  refine st_aload_n dX8_feed_0 rfl rfl ?_
  refine st_iconst dX8_feed_1 (v := 0) rfl ?_
  obtain ⟨H1, e_H1, h⟩ := bnd h
  refine pI8 dX8_feed_2 (by decide) rfl 0 (by decide) fl_RX8_62 rfl rfl rfl rfl e_H1 ?_
  refine st_iload_n dX8_feed_5 rfl rfl ?_
  refine st_i2l dX8_feed_6 ?_
  refine st_lconst dX8_feed_7 (v := 0) rfl ?_
  refine st_ldc2 dX8_feed_8 cl_RX8_87 ?_
  obtain ⟨v2, e_v2, h⟩ := bnd h
  refine st_callS [.long x1.toInt64, .long 0, .long 255] dX8_feed_11 co_X8_in sm_X8_in ml_RX8_72 rfl (S := []) rfl (Nat.le_of_ble_eq_true rfl) (k_X8_in (by omega) x1.toInt64 0 255 H1 _ e_v2 ?_)
  show V (D + 1) RX8 mdX8_feed 14 [.ref 60, .int x1] [.int v2] H1 post
  refine st_if_ne dX8_feed_14 20 (by decide) (fun c5 => ?_) (fun c5 => ?_)
  · replace h := (if_neg c5).symm.trans h
    refine st_aload_n dX8_feed_20 rfl rfl ?_
    refine gI8 dX8_feed_21 (by decide) rfl 11 (by decide) fl_RX8_89 rfl rfl ?_
    refine st_sipush dX8_feed_24 (v := 130) (by decide) ?_
    refine st_ic_ne dX8_feed_27 33 (by decide) (fun c6 => ?_) (fun c6 => ?_)
    · replace h := (if_neg c6).symm.trans h
      refine st_aload_n dX8_feed_33 rfl rfl ?_
      refine gR8 dX8_feed_34 (by decide) rfl 10 (by decide) fl_RX8_31 rfl 68 rfl ?_
      refine st_aload_n dX8_feed_37 rfl rfl ?_
      refine gI8 dX8_feed_38 (by decide) rfl 11 (by decide) fl_RX8_89 rfl rfl ?_
      refine st_iload_n dX8_feed_41 rfl rfl ?_
      obtain ⟨H3, e_H3, h⟩ := bnd h
      refine st_iast dX8_feed_42 (by decide) rfl H3 e_H3 ?_
      refine st_aload_n dX8_feed_43 rfl rfl ?_
      refine st_dup dX8_feed_44 rfl ?_
      refine gI8 dX8_feed_45 (by decide) rfl 11 (by decide) fl_RX8_89 rfl rfl ?_
      refine st_iconst dX8_feed_48 (v := 1) rfl ?_
      refine st_iadd dX8_feed_49 ?_
      obtain ⟨H4, e_H4, h⟩ := bnd h
      refine pI8 dX8_feed_50 (by decide) rfl 11 (by decide) fl_RX8_89 rfl rfl rfl rfl e_H4 ?_
      refine st_aload_n dX8_feed_53 rfl rfl ?_
      refine gI8 dX8_feed_54 (by decide) rfl 11 (by decide) fl_RX8_89 rfl rfl ?_
      obtain rfl := Option.some.inj h
      exact st_iret dX8_feed_57 rfl hp
    · replace h := (if_pos c6).symm.trans h
      refine st_ldc dX8_feed_30 cn_RX8_92 ?_
      obtain rfl := Option.some.inj h
      exact st_iret dX8_feed_32 rfl hp
  · replace h := (if_pos c5).symm.trans h
    refine st_ldc dX8_feed_17 cn_RX8_82 ?_
    obtain rfl := Option.some.inj h
    exact st_iret dX8_feed_19 rfl hp
def f_X8_fault (H : Hp) : Option (Int32 × Hp) :=
  (pf H 60 0 0).bind fun H1 =>
  some ((H1 60 18), H1)
set_option maxHeartbeats 4000000 in
set_option maxRecDepth 100000 in
theorem k_X8_fault {D : Nat} (hD : 0 ≤ D) (H : Hp) (q : Int32 × Hp) (h : f_X8_fault H = some q) {post : Option Value → Hp → Prop} (hp : post (some (.int q.1)) q.2) : Sem D mdX8_fault [.ref 60] H post := by
  refine sem_of (own := RX8) rfl pn_RX8 (Nat.le_of_ble_eq_true rfl) [.ref 60] ⟨Or.inr rfl, trivial⟩ ?_
  unfold f_X8_fault at h
  refine st_aload_n dX8_fault_0 rfl rfl ?_
  refine st_iconst dX8_fault_1 (v := 0) rfl ?_
  obtain ⟨H1, e_H1, h⟩ := bnd h
  refine pI8 dX8_fault_2 (by decide) rfl 0 (by decide) fl_RX8_62 rfl rfl rfl rfl e_H1 ?_
  refine st_aload_n dX8_fault_5 rfl rfl ?_
  refine gI8 dX8_fault_6 (by decide) rfl 18 (by decide) fl_RX8_131 rfl rfl ?_
  obtain rfl := Option.some.inj h
  exact st_iret dX8_fault_9 rfl hp
def f_X8_nextToken_l165 : Nat → Hp → Option (Hp)
  | 0, _ => none
  | n + 1, H =>
    if (H 60 11) ≤ (H 60 12) then
      some H
    else
      (ag H 68 130 (H 60 12)).bind fun v11 =>
      (f_X8_in v11.toInt64 48 57).bind fun v12 =>
      if v12 = 0 then
        some H
      else
        Option.bind (
          if 2 ≤ ((H 60 12) - (H 60 13)) then
            some (H 60 15)
          else
            (ag H 68 130 (H 60 12)).bind fun v13 =>
            some (((10 * (H 60 15)) + v13) - 48)) fun j14 =>
        (pf H 60 15 j14).bind fun H15 =>
        (pf H15 60 12 ((H15 60 12) + 1)).bind fun H16 =>
        f_X8_nextToken_l165 n H16
def f_X8_nextToken (H : Hp) : Option (Hp) :=
  (pf H 60 13 (H 60 12)).bind fun H1 =>
  Option.bind (
    if (H1 60 11) ≤ (H1 60 12) then
      some (-1000000)
    else
      (ag H1 68 130 (H1 60 12)).bind fun v2 =>
      some v2) fun j3 =>
  (pf H1 60 15 j3).bind fun H4 =>
  Option.bind (
    if (H4 60 12) = (H4 60 11) then
      some 1
    else
      (f_X8_in (H4 60 15).toInt64 97 122).bind fun v5 =>
      if v5 = 0 then
        (f_X8_in (H4 60 15).toInt64 48 57).bind fun v6 =>
        if v6 = 0 then
          if (H4 60 15) = 44 then
            some 4
          else
            if (H4 60 15) = 59 then
              some 4
            else
              some 0
        else
          some 3
      else
        some 2) fun j7 =>
  (pf H4 60 14 j7).bind fun H8 =>
  (pf H8 60 12 ((H8 60 12) + ((if (H8 60 11) ≤ (H8 60 12) then 0 else 1) : Int32))).bind fun H9 =>
  Option.bind (
    if (H9 60 14) = 3 then
      (pf H9 60 15 ((H9 60 15) - 48)).bind fun H10 =>
      (f_X8_nextToken_l165 fuel H10).bind fun l21 =>
      (pf l21 60 14 ((if ((l21 60 12) - (l21 60 13)) ≤ 2 then 3 else 0) : Int32)).bind fun H22 =>
      some H22
    else
      some H9) fun j23 =>
  some j23
set_option maxHeartbeats 4000000 in
set_option maxRecDepth 100000 in
theorem k_X8_nextToken_l165 {D : Nat} (hD : 1 ≤ (D + 1)) {post : Option Value → Hp → Prop} : ∀ (n : Nat) (H : Hp) (q : Hp), f_X8_nextToken_l165 n H = some q → V (D + 1) RX8 mdX8_nextToken 255 [.ref 60] [] q post → V (D + 1) RX8 mdX8_nextToken 165 [.ref 60] [] H post := by
  intro n
  induction n with
  | zero => intro H q h; simp [f_X8_nextToken_l165] at h
  | succ n ih =>
    intro H q h k1
    rw [f_X8_nextToken_l165] at h
    refine st_aload_n dX8_nextToken_165 rfl rfl ?_
    refine gI8 dX8_nextToken_166 (by decide) rfl 12 (by decide) fl_RX8_102 rfl rfl ?_
    refine st_aload_n dX8_nextToken_169 rfl rfl ?_
    refine gI8 dX8_nextToken_170 (by decide) rfl 11 (by decide) fl_RX8_89 rfl rfl ?_
    refine st_ic_ge dX8_nextToken_173 255 (by decide) (fun c17 => ?_) (fun c17 => ?_)
    · replace h := (if_pos c17).symm.trans h
      obtain rfl := Option.some.inj h
      exact k1
    · replace h := (if_neg c17).symm.trans h
      refine st_aload_n dX8_nextToken_176 rfl rfl ?_
      refine gR8 dX8_nextToken_177 (by decide) rfl 10 (by decide) fl_RX8_31 rfl 68 rfl ?_
      refine st_aload_n dX8_nextToken_180 rfl rfl ?_
      refine gI8 dX8_nextToken_181 (by decide) rfl 12 (by decide) fl_RX8_102 rfl rfl ?_
      obtain ⟨v11, e_v11, h⟩ := bnd h
      refine st_iald dX8_nextToken_184 (by decide) rfl v11 e_v11 ?_
      refine st_i2l dX8_nextToken_185 ?_
      refine st_ldc2 dX8_nextToken_186 cl_RX8_113 ?_
      refine st_ldc2 dX8_nextToken_189 cl_RX8_115 ?_
      obtain ⟨v12, e_v12, h⟩ := bnd h
      refine st_callS [.long v11.toInt64, .long 48, .long 57] dX8_nextToken_192 co_X8_in sm_X8_in ml_RX8_72 rfl (S := []) rfl (Nat.le_of_ble_eq_true rfl) (k_X8_in (by omega) v11.toInt64 48 57 H _ e_v12 ?_)
      show V (D + 1) RX8 mdX8_nextToken 195 [.ref 60] [.int v12] H post
      refine st_if_eq dX8_nextToken_195 255 (by decide) (fun c18 => ?_) (fun c18 => ?_)
      · replace h := (if_pos c18).symm.trans h
        obtain rfl := Option.some.inj h
        exact k1
      · replace h := (if_neg c18).symm.trans h
        refine st_aload_n dX8_nextToken_198 rfl rfl ?_
        refine st_aload_n dX8_nextToken_199 rfl rfl ?_
        refine gI8 dX8_nextToken_200 (by decide) rfl 12 (by decide) fl_RX8_102 rfl rfl ?_
        refine st_aload_n dX8_nextToken_203 rfl rfl ?_
        refine gI8 dX8_nextToken_204 (by decide) rfl 13 (by decide) fl_RX8_96 rfl rfl ?_
        refine st_isub dX8_nextToken_207 ?_
        refine st_iconst dX8_nextToken_208 (v := 2) rfl ?_
        obtain ⟨j14, e_j14, h⟩ := bnd h
        have kj19 : V (D + 1) RX8 mdX8_nextToken 239 [.ref 60] [.int j14, .ref 60] H post := by
          obtain ⟨H15, e_H15, h⟩ := bnd h
          refine pI8 dX8_nextToken_239 (by decide) rfl 15 (by decide) fl_RX8_106 rfl rfl rfl rfl e_H15 ?_
          refine st_aload_n dX8_nextToken_242 rfl rfl ?_
          refine st_dup dX8_nextToken_243 rfl ?_
          refine gI8 dX8_nextToken_244 (by decide) rfl 12 (by decide) fl_RX8_102 rfl rfl ?_
          refine st_iconst dX8_nextToken_247 (v := 1) rfl ?_
          refine st_iadd dX8_nextToken_248 ?_
          obtain ⟨H16, e_H16, h⟩ := bnd h
          refine pI8 dX8_nextToken_249 (by decide) rfl 12 (by decide) fl_RX8_102 rfl rfl rfl rfl e_H16 ?_
          refine st_goto dX8_nextToken_252 165 (by decide) ?_
          exact ih H16 q h k1
        refine st_ic_ge dX8_nextToken_209 235 (by decide) (fun c20 => ?_) (fun c20 => ?_)
        · replace e_j14 := (if_pos c20).symm.trans e_j14
          refine st_aload_n dX8_nextToken_235 rfl rfl ?_
          refine gI8 dX8_nextToken_236 (by decide) rfl 15 (by decide) fl_RX8_106 rfl rfl ?_
          obtain rfl := Option.some.inj e_j14
          exact kj19
        · replace e_j14 := (if_neg c20).symm.trans e_j14
          refine st_bipush dX8_nextToken_212 (v := 10) (by decide) ?_
          refine st_aload_n dX8_nextToken_214 rfl rfl ?_
          refine gI8 dX8_nextToken_215 (by decide) rfl 15 (by decide) fl_RX8_106 rfl rfl ?_
          refine st_imul dX8_nextToken_218 ?_
          refine st_aload_n dX8_nextToken_219 rfl rfl ?_
          refine gR8 dX8_nextToken_220 (by decide) rfl 10 (by decide) fl_RX8_31 rfl 68 rfl ?_
          refine st_aload_n dX8_nextToken_223 rfl rfl ?_
          refine gI8 dX8_nextToken_224 (by decide) rfl 12 (by decide) fl_RX8_102 rfl rfl ?_
          obtain ⟨v13, e_v13, e_j14⟩ := bnd e_j14
          refine st_iald dX8_nextToken_227 (by decide) rfl v13 e_v13 ?_
          refine st_iadd dX8_nextToken_228 ?_
          refine st_bipush dX8_nextToken_229 (v := 48) (by decide) ?_
          refine st_isub dX8_nextToken_231 ?_
          refine st_goto dX8_nextToken_232 239 (by decide) ?_
          obtain rfl := Option.some.inj e_j14
          exact kj19
set_option maxHeartbeats 4000000 in
set_option maxRecDepth 100000 in
theorem k_X8_nextToken {D : Nat} (hD : 1 ≤ D) (H : Hp) (q : Hp) (h : f_X8_nextToken H = some q) {post : Option Value → Hp → Prop} (hp : post none q) : Sem D mdX8_nextToken [.ref 60] H post := by
  obtain ⟨D, rfl⟩ : ∃ E, D = E + 1 := ⟨D - 1, by omega⟩
  refine sem_of (own := RX8) rfl pn_RX8 (Nat.le_of_ble_eq_true rfl) [.ref 60] ⟨Or.inr rfl, trivial⟩ ?_
  unfold f_X8_nextToken at h
  refine st_aload_n dX8_nextToken_0 rfl rfl ?_
  refine st_aload_n dX8_nextToken_1 rfl rfl ?_
  refine gI8 dX8_nextToken_2 (by decide) rfl 12 (by decide) fl_RX8_102 rfl rfl ?_
  obtain ⟨H1, e_H1, h⟩ := bnd h
  refine pI8 dX8_nextToken_5 (by decide) rfl 13 (by decide) fl_RX8_96 rfl rfl rfl rfl e_H1 ?_
  refine st_aload_n dX8_nextToken_8 rfl rfl ?_
  refine st_aload_n dX8_nextToken_9 rfl rfl ?_
  refine gI8 dX8_nextToken_10 (by decide) rfl 12 (by decide) fl_RX8_102 rfl rfl ?_
  refine st_aload_n dX8_nextToken_13 rfl rfl ?_
  refine gI8 dX8_nextToken_14 (by decide) rfl 11 (by decide) fl_RX8_89 rfl rfl ?_
  obtain ⟨j3, e_j3, h⟩ := bnd h
  have kj24 : V (D + 1) RX8 mdX8_nextToken 34 [.ref 60] [.int j3, .ref 60] H1 post := by
    obtain ⟨H4, e_H4, h⟩ := bnd h
    refine pI8 dX8_nextToken_34 (by decide) rfl 15 (by decide) fl_RX8_106 rfl rfl rfl rfl e_H4 ?_
    refine st_aload_n dX8_nextToken_37 rfl rfl ?_
    refine st_aload_n dX8_nextToken_38 rfl rfl ?_
    refine gI8 dX8_nextToken_39 (by decide) rfl 12 (by decide) fl_RX8_102 rfl rfl ?_
    refine st_aload_n dX8_nextToken_42 rfl rfl ?_
    refine gI8 dX8_nextToken_43 (by decide) rfl 11 (by decide) fl_RX8_89 rfl rfl ?_
    obtain ⟨j7, e_j7, h⟩ := bnd h
    have kj25 : V (D + 1) RX8 mdX8_nextToken 118 [.ref 60] [.int j7, .ref 60] H4 post := by
      obtain ⟨H8, e_H8, h⟩ := bnd h
      refine pI8 dX8_nextToken_118 (by decide) rfl 14 (by decide) fl_RX8_117 rfl rfl rfl rfl e_H8 ?_
      refine st_aload_n dX8_nextToken_121 rfl rfl ?_
      refine st_dup dX8_nextToken_122 rfl ?_
      refine gI8 dX8_nextToken_123 (by decide) rfl 12 (by decide) fl_RX8_102 rfl rfl ?_
      refine st_aload_n dX8_nextToken_126 rfl rfl ?_
      refine gI8 dX8_nextToken_127 (by decide) rfl 12 (by decide) fl_RX8_102 rfl rfl ?_
      refine st_aload_n dX8_nextToken_130 rfl rfl ?_
      refine gI8 dX8_nextToken_131 (by decide) rfl 11 (by decide) fl_RX8_89 rfl rfl ?_
      have kj27 : ∀ z26 : Int32, z26 = ((if (H8 60 11) ≤ (H8 60 12) then 0 else 1) : Int32) → V (D + 1) RX8 mdX8_nextToken 142 [.ref 60] [.int z26, .int (H8 60 12), .ref 60] H8 post := by
        intro z26 ez26
        subst ez26
        refine st_iadd dX8_nextToken_142 ?_
        obtain ⟨H9, e_H9, h⟩ := bnd h
        refine pI8 dX8_nextToken_143 (by decide) rfl 12 (by decide) fl_RX8_102 rfl rfl rfl rfl e_H9 ?_
        refine st_aload_n dX8_nextToken_146 rfl rfl ?_
        refine gI8 dX8_nextToken_147 (by decide) rfl 14 (by decide) fl_RX8_117 rfl rfl ?_
        refine st_iconst dX8_nextToken_150 (v := 3) rfl ?_
        obtain ⟨j23, e_j23, h⟩ := bnd h
        have kj28 : V (D + 1) RX8 mdX8_nextToken 277 [.null] [] j23 post := by
          obtain rfl := Option.some.inj h
          exact st_vret dX8_nextToken_277 rfl hp
        refine st_ic_ne dX8_nextToken_151 277 (by decide) (fun c29 => ?_) (fun c29 => ?_)
        · replace e_j23 := (if_neg c29).symm.trans e_j23
          obtain rfl := Option.some.inj e_j23
          exact st_sub [.null] ⟨Or.inl rfl, trivial⟩ kj28
        · replace e_j23 := (if_pos c29).symm.trans e_j23
          refine st_aload_n dX8_nextToken_154 rfl rfl ?_
          refine st_dup dX8_nextToken_155 rfl ?_
          refine gI8 dX8_nextToken_156 (by decide) rfl 15 (by decide) fl_RX8_106 rfl rfl ?_
          refine st_bipush dX8_nextToken_159 (v := 48) (by decide) ?_
          refine st_isub dX8_nextToken_161 ?_
          obtain ⟨H10, e_H10, e_j23⟩ := bnd e_j23
          refine pI8 dX8_nextToken_162 (by decide) rfl 15 (by decide) fl_RX8_106 rfl rfl rfl rfl e_H10 ?_
          obtain ⟨l21, e_l21, e_j23⟩ := bnd e_j23
          refine k_X8_nextToken_l165 (by omega) fuel H10 _ e_l21 ?_
          refine st_aload_n dX8_nextToken_255 rfl rfl ?_
          refine st_aload_n dX8_nextToken_256 rfl rfl ?_
          refine gI8 dX8_nextToken_257 (by decide) rfl 12 (by decide) fl_RX8_102 rfl rfl ?_
          refine st_aload_n dX8_nextToken_260 rfl rfl ?_
          refine gI8 dX8_nextToken_261 (by decide) rfl 13 (by decide) fl_RX8_96 rfl rfl ?_
          refine st_isub dX8_nextToken_264 ?_
          refine st_iconst dX8_nextToken_265 (v := 2) rfl ?_
          have kj31 : ∀ z30 : Int32, z30 = ((if ((l21 60 12) - (l21 60 13)) ≤ 2 then 3 else 0) : Int32) → V (D + 1) RX8 mdX8_nextToken 274 [.null] [.int z30, .ref 60] l21 post := by
            intro z30 ez30
            subst ez30
            obtain ⟨H22, e_H22, e_j23⟩ := bnd e_j23
            refine pI8 dX8_nextToken_274 (by decide) rfl 14 (by decide) fl_RX8_117 rfl rfl rfl rfl e_H22 ?_
            obtain rfl := Option.some.inj e_j23
            exact kj28
          refine st_ic_le dX8_nextToken_266 273 (by decide) (fun c32 => ?_) (fun c32 => ?_)
          · refine st_iconst dX8_nextToken_273 (v := 3) rfl ?_
            exact st_sub [.null] ⟨Or.inl rfl, trivial⟩ (kj31 _ (Eq.symm (if_pos c32)))
          · refine st_iconst dX8_nextToken_269 (v := 0) rfl ?_
            refine st_goto dX8_nextToken_270 274 (by decide) ?_
            exact st_sub [.null] ⟨Or.inl rfl, trivial⟩ (kj31 _ (Eq.symm (if_neg c32)))
      refine st_ic_ge dX8_nextToken_134 141 (by decide) (fun c33 => ?_) (fun c33 => ?_)
      · refine st_iconst dX8_nextToken_141 (v := 0) rfl ?_
        exact (kj27 _ (Eq.symm (if_pos c33)))
      · refine st_iconst dX8_nextToken_137 (v := 1) rfl ?_
        refine st_goto dX8_nextToken_138 142 (by decide) ?_
        exact (kj27 _ (Eq.symm (if_neg c33)))
    refine st_ic_ne dX8_nextToken_46 53 (by decide) (fun c34 => ?_) (fun c34 => ?_)
    · replace e_j7 := (if_neg c34).symm.trans e_j7
      refine st_aload_n dX8_nextToken_53 rfl rfl ?_
      refine gI8 dX8_nextToken_54 (by decide) rfl 15 (by decide) fl_RX8_106 rfl rfl ?_
      refine st_i2l dX8_nextToken_57 ?_
      refine st_ldc2 dX8_nextToken_58 cl_RX8_109 ?_
      refine st_ldc2 dX8_nextToken_61 cl_RX8_111 ?_
      obtain ⟨v5, e_v5, e_j7⟩ := bnd e_j7
      refine st_callS [.long (H4 60 15).toInt64, .long 97, .long 122] dX8_nextToken_64 co_X8_in sm_X8_in ml_RX8_72 rfl (S := [.ref 60]) rfl (Nat.le_of_ble_eq_true rfl) (k_X8_in (by omega) (H4 60 15).toInt64 97 122 H4 _ e_v5 ?_)
      show V (D + 1) RX8 mdX8_nextToken 67 [.ref 60] [.int v5, .ref 60] H4 post
      refine st_if_eq dX8_nextToken_67 74 (by decide) (fun c35 => ?_) (fun c35 => ?_)
      · replace e_j7 := (if_pos c35).symm.trans e_j7
        refine st_aload_n dX8_nextToken_74 rfl rfl ?_
        refine gI8 dX8_nextToken_75 (by decide) rfl 15 (by decide) fl_RX8_106 rfl rfl ?_
        refine st_i2l dX8_nextToken_78 ?_
        refine st_ldc2 dX8_nextToken_79 cl_RX8_113 ?_
        refine st_ldc2 dX8_nextToken_82 cl_RX8_115 ?_
        obtain ⟨v6, e_v6, e_j7⟩ := bnd e_j7
        refine st_callS [.long (H4 60 15).toInt64, .long 48, .long 57] dX8_nextToken_85 co_X8_in sm_X8_in ml_RX8_72 rfl (S := [.ref 60]) rfl (Nat.le_of_ble_eq_true rfl) (k_X8_in (by omega) (H4 60 15).toInt64 48 57 H4 _ e_v6 ?_)
        show V (D + 1) RX8 mdX8_nextToken 88 [.ref 60] [.int v6, .ref 60] H4 post
        refine st_if_eq dX8_nextToken_88 95 (by decide) (fun c36 => ?_) (fun c36 => ?_)
        · replace e_j7 := (if_pos c36).symm.trans e_j7
          refine st_aload_n dX8_nextToken_95 rfl rfl ?_
          refine gI8 dX8_nextToken_96 (by decide) rfl 15 (by decide) fl_RX8_106 rfl rfl ?_
          refine st_bipush dX8_nextToken_99 (v := 44) (by decide) ?_
          refine st_ic_eq dX8_nextToken_101 113 (by decide) (fun c37 => ?_) (fun c37 => ?_)
          · replace e_j7 := (if_pos c37).symm.trans e_j7
            refine st_iconst dX8_nextToken_113 (v := 4) rfl ?_
            refine st_goto dX8_nextToken_114 118 (by decide) ?_
            obtain rfl := Option.some.inj e_j7
            exact kj25
          · replace e_j7 := (if_neg c37).symm.trans e_j7
            refine st_aload_n dX8_nextToken_104 rfl rfl ?_
            refine gI8 dX8_nextToken_105 (by decide) rfl 15 (by decide) fl_RX8_106 rfl rfl ?_
            refine st_bipush dX8_nextToken_108 (v := 59) (by decide) ?_
            refine st_ic_ne dX8_nextToken_110 117 (by decide) (fun c38 => ?_) (fun c38 => ?_)
            · replace e_j7 := (if_neg c38).symm.trans e_j7
              refine st_iconst dX8_nextToken_117 (v := 0) rfl ?_
              obtain rfl := Option.some.inj e_j7
              exact kj25
            · replace e_j7 := (if_pos c38).symm.trans e_j7
              refine st_iconst dX8_nextToken_113 (v := 4) rfl ?_
              refine st_goto dX8_nextToken_114 118 (by decide) ?_
              obtain rfl := Option.some.inj e_j7
              exact kj25
        · replace e_j7 := (if_neg c36).symm.trans e_j7
          refine st_iconst dX8_nextToken_91 (v := 3) rfl ?_
          refine st_goto dX8_nextToken_92 118 (by decide) ?_
          obtain rfl := Option.some.inj e_j7
          exact kj25
      · replace e_j7 := (if_neg c35).symm.trans e_j7
        refine st_iconst dX8_nextToken_70 (v := 2) rfl ?_
        refine st_goto dX8_nextToken_71 118 (by decide) ?_
        obtain rfl := Option.some.inj e_j7
        exact kj25
    · replace e_j7 := (if_pos c34).symm.trans e_j7
      refine st_iconst dX8_nextToken_49 (v := 1) rfl ?_
      refine st_goto dX8_nextToken_50 118 (by decide) ?_
      obtain rfl := Option.some.inj e_j7
      exact kj25
  refine st_ic_ge dX8_nextToken_17 32 (by decide) (fun c39 => ?_) (fun c39 => ?_)
  · replace e_j3 := (if_pos c39).symm.trans e_j3
    refine st_ldc dX8_nextToken_32 cn_RX8_105 ?_
    obtain rfl := Option.some.inj e_j3
    exact kj24
  · replace e_j3 := (if_neg c39).symm.trans e_j3
    refine st_aload_n dX8_nextToken_20 rfl rfl ?_
    refine gR8 dX8_nextToken_21 (by decide) rfl 10 (by decide) fl_RX8_31 rfl 68 rfl ?_
    refine st_aload_n dX8_nextToken_24 rfl rfl ?_
    refine gI8 dX8_nextToken_25 (by decide) rfl 12 (by decide) fl_RX8_102 rfl rfl ?_
    obtain ⟨v2, e_v2, e_j3⟩ := bnd e_j3
    refine st_iald dX8_nextToken_28 (by decide) rfl v2 e_v2 ?_
    refine st_goto dX8_nextToken_29 34 (by decide) ?_
    obtain rfl := Option.some.inj e_j3
    exact kj24
def f_X8_begin (H : Hp) : Option (Hp) :=
  (pf H 60 12 0).bind fun H1 =>
  (pf H1 60 16 0).bind fun H2 =>
  (f_X8_nextToken H2).bind fun H3 =>
  some H3
set_option maxHeartbeats 4000000 in
set_option maxRecDepth 100000 in
theorem k_X8_begin {D : Nat} (hD : 2 ≤ D) (H : Hp) (q : Hp) (h : f_X8_begin H = some q) {post : Option Value → Hp → Prop} (hp : post none q) : Sem D mdX8_begin [.ref 60] H post := by
  obtain ⟨D, rfl⟩ : ∃ E, D = E + 1 := ⟨D - 1, by omega⟩
  refine sem_of (own := RX8) rfl pn_RX8 (Nat.le_of_ble_eq_true rfl) [.ref 60] ⟨Or.inr rfl, trivial⟩ ?_
  unfold f_X8_begin at h
  refine st_aload_n dX8_begin_0 rfl rfl ?_
  refine st_iconst dX8_begin_1 (v := 0) rfl ?_
  obtain ⟨H1, e_H1, h⟩ := bnd h
  refine pI8 dX8_begin_2 (by decide) rfl 12 (by decide) fl_RX8_102 rfl rfl rfl rfl e_H1 ?_
  refine st_aload_n dX8_begin_5 rfl rfl ?_
  refine st_iconst dX8_begin_6 (v := 0) rfl ?_
  obtain ⟨H2, e_H2, h⟩ := bnd h
  refine pI8 dX8_begin_7 (by decide) rfl 16 (by decide) fl_RX8_93 rfl rfl rfl rfl e_H2 ?_
  refine st_aload_n dX8_begin_10 rfl rfl ?_
  obtain ⟨H3, e_H3, h⟩ := bnd h
  refine st_callV [] dX8_begin_11 co_X8_nextToken im_X8_nextToken se_X8_nextToken ml_RX8_124 rfl (by decide) rfl (rfl : classes[8]? = some (RX8, TX8, 30)) rfl (S := []) rfl (Nat.le_of_ble_eq_true rfl) (k_X8_nextToken (by omega) H2 _ e_H3 ?_)
  show V (D + 1) RX8 mdX8_begin 14 [.ref 60] [] H3 post
  obtain rfl := Option.some.inj h
  exact st_vret dX8_begin_14 rfl hp
def f_X8_isLetter (x1 : Int32) (H : Hp) : Option (Int32) :=
  some ((if (H 60 16) = 0 then (if (H 60 14) = 2 then (if (H 60 15) = x1 then 1 else 0) else 0) else 0) : Int32)
set_option maxHeartbeats 4000000 in
set_option maxRecDepth 100000 in
theorem k_X8_isLetter {D : Nat} (hD : 0 ≤ D) (x1 : Int32) (H : Hp) (q : Int32) (h : f_X8_isLetter x1 H = some q) {post : Option Value → Hp → Prop} (hp : post (some (.int q)) H) : Sem D mdX8_isLetter [.ref 60, .int x1] H post := by
  refine sem_of (own := RX8) rfl pn_RX8 (Nat.le_of_ble_eq_true rfl) [.ref 60, .int x1] ⟨Or.inr rfl, Or.inr rfl, trivial⟩ ?_
  unfold f_X8_isLetter at h
  refine st_aload_n dX8_isLetter_0 rfl rfl ?_
  refine gI8 dX8_isLetter_1 (by decide) rfl 16 (by decide) fl_RX8_93 rfl rfl ?_
  have kj2 : ∀ z1 : Int32, z1 = ((if (H 60 16) = 0 then (if (H 60 14) = 2 then (if (H 60 15) = x1 then 1 else 0) else 0) else 0) : Int32) → V D RX8 mdX8_isLetter 28 [.null, .null] [.int z1] H post := by
    intro z1 ez1
    subst ez1
    obtain rfl := Option.some.inj h
    exact st_zret dX8_isLetter_28 rfl (by first | rfl | (split <;> rfl) | (repeat (first | rfl | split))) hp
  refine st_if_ne dX8_isLetter_4 27 (by decide) (fun c3 => ?_) (fun c3 => ?_)
  · refine st_iconst dX8_isLetter_27 (v := 0) rfl ?_
    exact st_sub [.null, .null] ⟨Or.inl rfl, Or.inl rfl, trivial⟩ (kj2 _ (Eq.symm (if_neg c3)))
  · refine st_aload_n dX8_isLetter_7 rfl rfl ?_
    refine gI8 dX8_isLetter_8 (by decide) rfl 14 (by decide) fl_RX8_117 rfl rfl ?_
    refine st_iconst dX8_isLetter_11 (v := 2) rfl ?_
    refine st_ic_ne dX8_isLetter_12 27 (by decide) (fun c4 => ?_) (fun c4 => ?_)
    · refine st_iconst dX8_isLetter_27 (v := 0) rfl ?_
      exact st_sub [.null, .null] ⟨Or.inl rfl, Or.inl rfl, trivial⟩ (kj2 _ (Eq.symm ((if_pos c3).trans (if_neg c4))))
    · refine st_aload_n dX8_isLetter_15 rfl rfl ?_
      refine gI8 dX8_isLetter_16 (by decide) rfl 15 (by decide) fl_RX8_106 rfl rfl ?_
      refine st_iload_n dX8_isLetter_19 rfl rfl ?_
      refine st_ic_ne dX8_isLetter_20 27 (by decide) (fun c5 => ?_) (fun c5 => ?_)
      · refine st_iconst dX8_isLetter_27 (v := 0) rfl ?_
        exact st_sub [.null, .null] ⟨Or.inl rfl, Or.inl rfl, trivial⟩ (kj2 _ (Eq.symm ((if_pos c3).trans ((if_pos c4).trans (if_neg c5)))))
      · refine st_iconst dX8_isLetter_23 (v := 1) rfl ?_
        refine st_goto dX8_isLetter_24 28 (by decide) ?_
        exact st_sub [.null, .null] ⟨Or.inl rfl, Or.inl rfl, trivial⟩ (kj2 _ (Eq.symm ((if_pos c3).trans ((if_pos c4).trans (if_pos c5)))))
def f_X8_bad (x1 : Int32) (H : Hp) : Option (Hp) :=
  Option.bind (
    if (H 60 16) = 0 then
      (pf H 60 16 x1).bind fun H1 =>
      (pf H1 60 17 (H1 60 13)).bind fun H2 =>
      some H2
    else
      some H) fun j3 =>
  some j3
set_option maxHeartbeats 4000000 in
set_option maxRecDepth 100000 in
theorem k_X8_bad {D : Nat} (hD : 0 ≤ D) (x1 : Int32) (H : Hp) (q : Hp) (h : f_X8_bad x1 H = some q) {post : Option Value → Hp → Prop} (hp : post none q) : Sem D mdX8_bad [.ref 60, .int x1] H post := by
  refine sem_of (own := RX8) rfl pn_RX8 (Nat.le_of_ble_eq_true rfl) [.ref 60, .int x1] ⟨Or.inr rfl, Or.inr rfl, trivial⟩ ?_
  unfold f_X8_bad at h
  refine st_aload_n dX8_bad_0 rfl rfl ?_
  refine gI8 dX8_bad_1 (by decide) rfl 16 (by decide) fl_RX8_93 rfl rfl ?_
  obtain ⟨j3, e_j3, h⟩ := bnd h
  have kj4 : V D RX8 mdX8_bad 20 [.null, .null] [] j3 post := by
    obtain rfl := Option.some.inj h
    exact st_vret dX8_bad_20 rfl hp
  refine st_if_ne dX8_bad_4 20 (by decide) (fun c5 => ?_) (fun c5 => ?_)
  · replace e_j3 := (if_neg c5).symm.trans e_j3
    obtain rfl := Option.some.inj e_j3
    exact st_sub [.null, .null] ⟨Or.inl rfl, Or.inl rfl, trivial⟩ kj4
  · replace e_j3 := (if_pos c5).symm.trans e_j3
    refine st_aload_n dX8_bad_7 rfl rfl ?_
    refine st_iload_n dX8_bad_8 rfl rfl ?_
    obtain ⟨H1, e_H1, e_j3⟩ := bnd e_j3
    refine pI8 dX8_bad_9 (by decide) rfl 16 (by decide) fl_RX8_93 rfl rfl rfl rfl e_H1 ?_
    refine st_aload_n dX8_bad_12 rfl rfl ?_
    refine st_aload_n dX8_bad_13 rfl rfl ?_
    refine gI8 dX8_bad_14 (by decide) rfl 13 (by decide) fl_RX8_96 rfl rfl ?_
    obtain ⟨H2, e_H2, e_j3⟩ := bnd e_j3
    refine pI8 dX8_bad_17 (by decide) rfl 17 (by decide) fl_RX8_99 rfl rfl rfl rfl e_H2 ?_
    obtain rfl := Option.some.inj e_j3
    exact st_sub [.null, .null] ⟨Or.inl rfl, Or.inl rfl, trivial⟩ kj4
def f_X8_must (x1 : Int32) (H : Hp) : Option (Hp) :=
  Option.bind (
    if x1 = 0 then
      (f_X8_bad 1 H).bind fun H1 =>
      some H1
    else
      some H) fun j2 =>
  Option.bind (
    if (j2 60 16) = 0 then
      (f_X8_nextToken j2).bind fun H3 =>
      some H3
    else
      some j2) fun j4 =>
  some j4
set_option maxHeartbeats 4000000 in
set_option maxRecDepth 100000 in
theorem k_X8_must {D : Nat} (hD : 2 ≤ D) (x1 : Int32) (H : Hp) (q : Hp) (h : f_X8_must x1 H = some q) {post : Option Value → Hp → Prop} (hp : post none q) : Sem D mdX8_must [.ref 60, .int x1] H post := by
  obtain ⟨D, rfl⟩ : ∃ E, D = E + 1 := ⟨D - 1, by omega⟩
  refine sem_of (own := RX8) rfl pn_RX8 (Nat.le_of_ble_eq_true rfl) [.ref 60, .int x1] ⟨Or.inr rfl, Or.inr rfl, trivial⟩ ?_
  unfold f_X8_must at h
  refine st_iload_n dX8_must_0 rfl rfl ?_
  obtain ⟨j2, e_j2, h⟩ := bnd h
  have kj5 : V (D + 1) RX8 mdX8_must 9 [.ref 60, .null] [] j2 post := by
    refine st_aload_n dX8_must_9 rfl rfl ?_
    refine gI8 dX8_must_10 (by decide) rfl 16 (by decide) fl_RX8_93 rfl rfl ?_
    obtain ⟨j4, e_j4, h⟩ := bnd h
    have kj6 : V (D + 1) RX8 mdX8_must 20 [.null, .null] [] j4 post := by
      obtain rfl := Option.some.inj h
      exact st_vret dX8_must_20 rfl hp
    refine st_if_ne dX8_must_13 20 (by decide) (fun c7 => ?_) (fun c7 => ?_)
    · replace e_j4 := (if_neg c7).symm.trans e_j4
      obtain rfl := Option.some.inj e_j4
      exact st_sub [.null, .null] ⟨Or.inl rfl, Or.inl rfl, trivial⟩ kj6
    · replace e_j4 := (if_pos c7).symm.trans e_j4
      refine st_aload_n dX8_must_16 rfl rfl ?_
      obtain ⟨H3, e_H3, e_j4⟩ := bnd e_j4
      refine st_callV [] dX8_must_17 co_X8_nextToken im_X8_nextToken se_X8_nextToken ml_RX8_124 rfl (by decide) rfl (rfl : classes[8]? = some (RX8, TX8, 30)) rfl (S := []) rfl (Nat.le_of_ble_eq_true rfl) (k_X8_nextToken (by omega) j2 _ e_H3 ?_)
      show V (D + 1) RX8 mdX8_must 20 [.ref 60, .null] [] H3 post
      obtain rfl := Option.some.inj e_j4
      exact st_sub [.null, .null] ⟨Or.inl rfl, Or.inl rfl, trivial⟩ kj6
  refine st_if_ne dX8_must_1 9 (by decide) (fun c8 => ?_) (fun c8 => ?_)
  · replace e_j2 := (if_neg c8).symm.trans e_j2
    obtain rfl := Option.some.inj e_j2
    exact st_sub [.ref 60, .null] ⟨Or.inr rfl, Or.inl rfl, trivial⟩ kj5
  · replace e_j2 := (if_pos c8).symm.trans e_j2
    refine st_aload_n dX8_must_4 rfl rfl ?_
    refine st_iconst dX8_must_5 (v := 1) rfl ?_
    obtain ⟨H1, e_H1, e_j2⟩ := bnd e_j2
    refine st_callV [.int 1] dX8_must_6 co_X8_bad im_X8_bad se_X8_bad ml_RX8_120 rfl (by decide) rfl (rfl : classes[8]? = some (RX8, TX8, 30)) rfl (S := []) rfl (Nat.le_of_ble_eq_true rfl) (k_X8_bad (by omega) 1 H _ e_H1 ?_)
    show V (D + 1) RX8 mdX8_must 9 [.ref 60, .int x1] [] H1 post
    obtain rfl := Option.some.inj e_j2
    exact st_sub [.ref 60, .null] ⟨Or.inr rfl, Or.inl rfl, trivial⟩ kj5
def f_X8_number (x1 : Int32) (x2 : Int32) (H : Hp) : Option (Int32 × Hp) :=
  Option.bind (
    if (H 60 16) = 0 then
      if (H 60 14) = 3 then
        some H
      else
        (f_X8_bad 1 H).bind fun H1 =>
        some H1
    else
      some H) fun j2 =>
  Option.bind (
    if (j2 60 16) = 0 then
      (f_X8_in (j2 60 15).toInt64 x1.toInt64 x2.toInt64).bind fun v3 =>
      if v3 = 0 then
        (f_X8_bad 2 j2).bind fun H4 =>
        some H4
      else
        some j2
    else
      some j2) fun j5 =>
  (f_X8_must 1 j5).bind fun H6 =>
  some ((if (j5 60 16) = 0 then (j5 60 15) else x1), H6)
set_option maxHeartbeats 4000000 in
set_option maxRecDepth 100000 in
theorem k_X8_number {D : Nat} (hD : 3 ≤ D) (x1 : Int32) (x2 : Int32) (H : Hp) (q : Int32 × Hp) (h : f_X8_number x1 x2 H = some q) {post : Option Value → Hp → Prop} (hp : post (some (.int q.1)) q.2) : Sem D mdX8_number [.ref 60, .int x1, .int x2] H post := by
  obtain ⟨D, rfl⟩ : ∃ E, D = E + 1 := ⟨D - 1, by omega⟩
  refine sem_of (own := RX8) rfl pn_RX8 (Nat.le_of_ble_eq_true rfl) [.ref 60, .int x1, .int x2, .null] ⟨Or.inr rfl, Or.inr rfl, Or.inr rfl, rfl, trivial⟩ ?_
  unfold f_X8_number at h
  refine st_aload_n dX8_number_0 rfl rfl ?_
  refine gI8 dX8_number_1 (by decide) rfl 16 (by decide) fl_RX8_93 rfl rfl ?_
  obtain ⟨j2, e_j2, h⟩ := bnd h
  have kj7 : V (D + 1) RX8 mdX8_number 20 [.ref 60, .int x1, .int x2, .null] [] j2 post := by
    refine st_aload_n dX8_number_20 rfl rfl ?_
    refine gI8 dX8_number_21 (by decide) rfl 16 (by decide) fl_RX8_93 rfl rfl ?_
    obtain ⟨j5, e_j5, h⟩ := bnd h
    have kj8 : V (D + 1) RX8 mdX8_number 47 [.ref 60, .int x1, .null, .null] [] j5 post := by
      refine st_aload_n dX8_number_47 rfl rfl ?_
      refine gI8 dX8_number_48 (by decide) rfl 16 (by decide) fl_RX8_93 rfl rfl ?_
      have kj10 : ∀ z9 : Int32, z9 = (if (j5 60 16) = 0 then (j5 60 15) else x1) → V (D + 1) RX8 mdX8_number 62 [.ref 60, .null, .null, .null] [.int z9] j5 post := by
        intro z9 ez9
        subst ez9
        refine st_istore_n dX8_number_62 rfl (by decide) [.ref 60, .null, .null, .int (if (j5 60 16) = 0 then (j5 60 15) else x1)] rfl ?_
        refine st_aload_n dX8_number_63 rfl rfl ?_
        refine st_iconst dX8_number_64 (v := 1) rfl ?_
        obtain ⟨H6, e_H6, h⟩ := bnd h
        refine st_callV [.int 1] dX8_number_65 co_X8_must im_X8_must se_X8_must ml_RX8_127 rfl (by decide) rfl (rfl : classes[8]? = some (RX8, TX8, 30)) rfl (S := []) rfl (Nat.le_of_ble_eq_true rfl) (k_X8_must (by omega) 1 j5 _ e_H6 ?_)
        show V (D + 1) RX8 mdX8_number 68 [.ref 60, .null, .null, .int (if (j5 60 16) = 0 then (j5 60 15) else x1)] [] H6 post
        refine st_iload_n dX8_number_68 rfl rfl ?_
        obtain rfl := Option.some.inj h
        exact st_iret dX8_number_69 rfl hp
      refine st_if_ne dX8_number_51 61 (by decide) (fun c11 => ?_) (fun c11 => ?_)
      · refine st_iload_n dX8_number_61 rfl rfl ?_
        exact st_sub [.ref 60, .null, .null, .null] ⟨Or.inr rfl, Or.inl rfl, Or.inl rfl, Or.inl rfl, trivial⟩ (kj10 _ (Eq.symm (if_neg c11)))
      · refine st_aload_n dX8_number_54 rfl rfl ?_
        refine gI8 dX8_number_55 (by decide) rfl 15 (by decide) fl_RX8_106 rfl rfl ?_
        refine st_goto dX8_number_58 62 (by decide) ?_
        exact st_sub [.ref 60, .null, .null, .null] ⟨Or.inr rfl, Or.inl rfl, Or.inl rfl, Or.inl rfl, trivial⟩ (kj10 _ (Eq.symm (if_pos c11)))
    refine st_if_ne dX8_number_24 47 (by decide) (fun c12 => ?_) (fun c12 => ?_)
    · replace e_j5 := (if_neg c12).symm.trans e_j5
      obtain rfl := Option.some.inj e_j5
      exact st_sub [.ref 60, .int x1, .null, .null] ⟨Or.inr rfl, Or.inr rfl, Or.inl rfl, Or.inl rfl, trivial⟩ kj8
    · replace e_j5 := (if_pos c12).symm.trans e_j5
      refine st_aload_n dX8_number_27 rfl rfl ?_
      refine gI8 dX8_number_28 (by decide) rfl 15 (by decide) fl_RX8_106 rfl rfl ?_
      refine st_i2l dX8_number_31 ?_
      refine st_iload_n dX8_number_32 rfl rfl ?_
      refine st_i2l dX8_number_33 ?_
      refine st_iload_n dX8_number_34 rfl rfl ?_
      refine st_i2l dX8_number_35 ?_
      obtain ⟨v3, e_v3, e_j5⟩ := bnd e_j5
      refine st_callS [.long (j2 60 15).toInt64, .long x1.toInt64, .long x2.toInt64] dX8_number_36 co_X8_in sm_X8_in ml_RX8_72 rfl (S := []) rfl (Nat.le_of_ble_eq_true rfl) (k_X8_in (by omega) (j2 60 15).toInt64 x1.toInt64 x2.toInt64 j2 _ e_v3 ?_)
      show V (D + 1) RX8 mdX8_number 39 [.ref 60, .int x1, .int x2, .null] [.int v3] j2 post
      refine st_if_ne dX8_number_39 47 (by decide) (fun c13 => ?_) (fun c13 => ?_)
      · replace e_j5 := (if_neg c13).symm.trans e_j5
        obtain rfl := Option.some.inj e_j5
        exact st_sub [.ref 60, .int x1, .null, .null] ⟨Or.inr rfl, Or.inr rfl, Or.inl rfl, Or.inl rfl, trivial⟩ kj8
      · replace e_j5 := (if_pos c13).symm.trans e_j5
        refine st_aload_n dX8_number_42 rfl rfl ?_
        refine st_iconst dX8_number_43 (v := 2) rfl ?_
        obtain ⟨H4, e_H4, e_j5⟩ := bnd e_j5
        refine st_callV [.int 2] dX8_number_44 co_X8_bad im_X8_bad se_X8_bad ml_RX8_120 rfl (by decide) rfl (rfl : classes[8]? = some (RX8, TX8, 30)) rfl (S := []) rfl (Nat.le_of_ble_eq_true rfl) (k_X8_bad (by omega) 2 j2 _ e_H4 ?_)
        show V (D + 1) RX8 mdX8_number 47 [.ref 60, .int x1, .int x2, .null] [] H4 post
        obtain rfl := Option.some.inj e_j5
        exact st_sub [.ref 60, .int x1, .null, .null] ⟨Or.inr rfl, Or.inr rfl, Or.inl rfl, Or.inl rfl, trivial⟩ kj8
  refine st_if_ne dX8_number_4 20 (by decide) (fun c14 => ?_) (fun c14 => ?_)
  · replace e_j2 := (if_neg c14).symm.trans e_j2
    obtain rfl := Option.some.inj e_j2
    exact kj7
  · replace e_j2 := (if_pos c14).symm.trans e_j2
    refine st_aload_n dX8_number_7 rfl rfl ?_
    refine gI8 dX8_number_8 (by decide) rfl 14 (by decide) fl_RX8_117 rfl rfl ?_
    refine st_iconst dX8_number_11 (v := 3) rfl ?_
    refine st_ic_eq dX8_number_12 20 (by decide) (fun c15 => ?_) (fun c15 => ?_)
    · replace e_j2 := (if_pos c15).symm.trans e_j2
      obtain rfl := Option.some.inj e_j2
      exact kj7
    · replace e_j2 := (if_neg c15).symm.trans e_j2
      refine st_aload_n dX8_number_15 rfl rfl ?_
      refine st_iconst dX8_number_16 (v := 1) rfl ?_
      obtain ⟨H1, e_H1, e_j2⟩ := bnd e_j2
      refine st_callV [.int 1] dX8_number_17 co_X8_bad im_X8_bad se_X8_bad ml_RX8_120 rfl (by decide) rfl (rfl : classes[8]? = some (RX8, TX8, 30)) rfl (S := []) rfl (Nat.le_of_ble_eq_true rfl) (k_X8_bad (by omega) 1 H _ e_H1 ?_)
      show V (D + 1) RX8 mdX8_number 20 [.ref 60, .int x1, .int x2, .null] [] H1 post
      obtain rfl := Option.some.inj e_j2
      exact kj7
def f_X8_mustSign (x1 : Int32) (H : Hp) : Option (Hp) :=
  (f_X8_must ((if (H 60 14) = 4 then (if (H 60 15) = x1 then 1 else 0) else 0) : Int32) H).bind fun H1 =>
  some H1
set_option maxHeartbeats 4000000 in
set_option maxRecDepth 100000 in
theorem k_X8_mustSign {D : Nat} (hD : 3 ≤ D) (x1 : Int32) (H : Hp) (q : Hp) (h : f_X8_mustSign x1 H = some q) {post : Option Value → Hp → Prop} (hp : post none q) : Sem D mdX8_mustSign [.ref 60, .int x1] H post := by
  obtain ⟨D, rfl⟩ : ∃ E, D = E + 1 := ⟨D - 1, by omega⟩
  refine sem_of (own := RX8) rfl pn_RX8 (Nat.le_of_ble_eq_true rfl) [.ref 60, .int x1] ⟨Or.inr rfl, Or.inr rfl, trivial⟩ ?_
  unfold f_X8_mustSign at h
  refine st_aload_n dX8_mustSign_0 rfl rfl ?_
  refine st_aload_n dX8_mustSign_1 rfl rfl ?_
  refine gI8 dX8_mustSign_2 (by decide) rfl 14 (by decide) fl_RX8_117 rfl rfl ?_
  refine st_iconst dX8_mustSign_5 (v := 4) rfl ?_
  have kj3 : ∀ z2 : Int32, z2 = ((if (H 60 14) = 4 then (if (H 60 15) = x1 then 1 else 0) else 0) : Int32) → V (D + 1) RX8 mdX8_mustSign 22 [.null, .null] [.int z2, .ref 60] H post := by
    intro z2 ez2
    subst ez2
    obtain ⟨H1, e_H1, h⟩ := bnd h
    refine st_callV [.int ((if (H 60 14) = 4 then (if (H 60 15) = x1 then 1 else 0) else 0) : Int32)] dX8_mustSign_22 co_X8_must im_X8_must se_X8_must ml_RX8_127 rfl (by decide) rfl (rfl : classes[8]? = some (RX8, TX8, 30)) rfl (S := []) rfl (Nat.le_of_ble_eq_true rfl) (k_X8_must (by omega) ((if (H 60 14) = 4 then (if (H 60 15) = x1 then 1 else 0) else 0) : Int32) H _ e_H1 ?_)
    show V (D + 1) RX8 mdX8_mustSign 25 [.null, .null] [] H1 post
    obtain rfl := Option.some.inj h
    exact st_vret dX8_mustSign_25 rfl hp
  refine st_ic_ne dX8_mustSign_6 21 (by decide) (fun c4 => ?_) (fun c4 => ?_)
  · refine st_iconst dX8_mustSign_21 (v := 0) rfl ?_
    exact st_sub [.null, .null] ⟨Or.inl rfl, Or.inl rfl, trivial⟩ (kj3 _ (Eq.symm (if_neg c4)))
  · refine st_aload_n dX8_mustSign_9 rfl rfl ?_
    refine gI8 dX8_mustSign_10 (by decide) rfl 15 (by decide) fl_RX8_106 rfl rfl ?_
    refine st_iload_n dX8_mustSign_13 rfl rfl ?_
    refine st_ic_ne dX8_mustSign_14 21 (by decide) (fun c5 => ?_) (fun c5 => ?_)
    · refine st_iconst dX8_mustSign_21 (v := 0) rfl ?_
      exact st_sub [.null, .null] ⟨Or.inl rfl, Or.inl rfl, trivial⟩ (kj3 _ (Eq.symm ((if_pos c4).trans (if_neg c5))))
    · refine st_iconst dX8_mustSign_17 (v := 1) rfl ?_
      refine st_goto dX8_mustSign_18 22 (by decide) ?_
      exact st_sub [.null, .null] ⟨Or.inl rfl, Or.inl rfl, trivial⟩ (kj3 _ (Eq.symm ((if_pos c4).trans (if_pos c5))))
def f_X8_kindBy (x0 : Int32) : Option (Int32) :=
  some ((if x0 = 111 then 1 else (if x0 = 115 then 2 else (if x0 = 104 then 3 else (if x0 = 102 then 4 else (if x0 = 99 then 5 else (-1000000)))))) : Int32)
set_option maxHeartbeats 4000000 in
set_option maxRecDepth 100000 in
theorem k_X8_kindBy {D : Nat} (hD : 0 ≤ D) (x0 : Int32) (H : Hp) (q : Int32) (h : f_X8_kindBy x0 = some q) {post : Option Value → Hp → Prop} (hp : post (some (.int q)) H) : Sem D mdX8_kindBy [.int x0] H post := by
  refine sem_of (own := RX8) rfl pn_RX8 (Nat.le_of_ble_eq_true rfl) [.int x0] ⟨Or.inr rfl, trivial⟩ ?_
  unfold f_X8_kindBy at h
  refine st_iload_n dX8_kindBy_0 rfl rfl ?_
  refine st_bipush dX8_kindBy_1 (v := 111) (by decide) ?_
  have kj2 : ∀ z1 : Int32, z1 = ((if x0 = 111 then 1 else (if x0 = 115 then 2 else (if x0 = 104 then 3 else (if x0 = 102 then 4 else (if x0 = 99 then 5 else (-1000000)))))) : Int32) → V D RX8 mdX8_kindBy 52 [.null] [.int z1] H post := by
    intro z1 ez1
    subst ez1
    obtain rfl := Option.some.inj h
    exact st_iret dX8_kindBy_52 rfl hp
  refine st_ic_ne dX8_kindBy_3 10 (by decide) (fun c3 => ?_) (fun c3 => ?_)
  · refine st_iload_n dX8_kindBy_10 rfl rfl ?_
    refine st_bipush dX8_kindBy_11 (v := 115) (by decide) ?_
    refine st_ic_ne dX8_kindBy_13 20 (by decide) (fun c4 => ?_) (fun c4 => ?_)
    · refine st_iload_n dX8_kindBy_20 rfl rfl ?_
      refine st_bipush dX8_kindBy_21 (v := 104) (by decide) ?_
      refine st_ic_ne dX8_kindBy_23 30 (by decide) (fun c5 => ?_) (fun c5 => ?_)
      · refine st_iload_n dX8_kindBy_30 rfl rfl ?_
        refine st_bipush dX8_kindBy_31 (v := 102) (by decide) ?_
        refine st_ic_ne dX8_kindBy_33 40 (by decide) (fun c6 => ?_) (fun c6 => ?_)
        · refine st_iload_n dX8_kindBy_40 rfl rfl ?_
          refine st_bipush dX8_kindBy_41 (v := 99) (by decide) ?_
          refine st_ic_ne dX8_kindBy_43 50 (by decide) (fun c7 => ?_) (fun c7 => ?_)
          · refine st_ldc dX8_kindBy_50 cn_RX8_105 ?_
            exact st_sub [.null] ⟨Or.inl rfl, trivial⟩ (kj2 _ (Eq.symm ((if_neg c3).trans ((if_neg c4).trans ((if_neg c5).trans ((if_neg c6).trans (if_neg c7)))))))
          · refine st_iconst dX8_kindBy_46 (v := 5) rfl ?_
            refine st_goto dX8_kindBy_47 52 (by decide) ?_
            exact st_sub [.null] ⟨Or.inl rfl, trivial⟩ (kj2 _ (Eq.symm ((if_neg c3).trans ((if_neg c4).trans ((if_neg c5).trans ((if_neg c6).trans (if_pos c7)))))))
        · refine st_iconst dX8_kindBy_36 (v := 4) rfl ?_
          refine st_goto dX8_kindBy_37 52 (by decide) ?_
          exact st_sub [.null] ⟨Or.inl rfl, trivial⟩ (kj2 _ (Eq.symm ((if_neg c3).trans ((if_neg c4).trans ((if_neg c5).trans (if_pos c6))))))
      · refine st_iconst dX8_kindBy_26 (v := 3) rfl ?_
        refine st_goto dX8_kindBy_27 52 (by decide) ?_
        exact st_sub [.null] ⟨Or.inl rfl, trivial⟩ (kj2 _ (Eq.symm ((if_neg c3).trans ((if_neg c4).trans (if_pos c5)))))
    · refine st_iconst dX8_kindBy_16 (v := 2) rfl ?_
      refine st_goto dX8_kindBy_17 52 (by decide) ?_
      exact st_sub [.null] ⟨Or.inl rfl, trivial⟩ (kj2 _ (Eq.symm ((if_neg c3).trans (if_pos c4))))
  · refine st_iconst dX8_kindBy_6 (v := 1) rfl ?_
    refine st_goto dX8_kindBy_7 52 (by decide) ?_
    exact st_sub [.null] ⟨Or.inl rfl, trivial⟩ (kj2 _ (Eq.symm (if_pos c3)))
def f_X8_isSort (H : Hp) : Option (Int32) :=
  Option.bind (
    if (H 60 16) = 0 then
      if (H 60 14) = 2 then
        (f_X8_kindBy (H 60 15)).bind fun v1 =>
        if v1 = (-1000000) then
          some 0
        else
          some 1
      else
        some 0
    else
      some 0) fun j2 =>
  zr j2
set_option maxHeartbeats 4000000 in
set_option maxRecDepth 100000 in
theorem k_X8_isSort {D : Nat} (hD : 1 ≤ D) (H : Hp) (q : Int32) (h : f_X8_isSort H = some q) {post : Option Value → Hp → Prop} (hp : post (some (.int q)) H) : Sem D mdX8_isSort [.ref 60] H post := by
  obtain ⟨D, rfl⟩ : ∃ E, D = E + 1 := ⟨D - 1, by omega⟩
  refine sem_of (own := RX8) rfl pn_RX8 (Nat.le_of_ble_eq_true rfl) [.ref 60] ⟨Or.inr rfl, trivial⟩ ?_
  unfold f_X8_isSort at h
  refine st_aload_n dX8_isSort_0 rfl rfl ?_
  refine gI8 dX8_isSort_1 (by decide) rfl 16 (by decide) fl_RX8_93 rfl rfl ?_
  obtain ⟨j2, e_j2, h⟩ := bnd h
  have kj3 : V (D + 1) RX8 mdX8_isSort 32 [.null] [.int j2] H post := by
    obtain ⟨rfl, hz⟩ := zr_some h
    exact st_zret dX8_isSort_32 rfl hz hp
  refine st_if_ne dX8_isSort_4 31 (by decide) (fun c4 => ?_) (fun c4 => ?_)
  · replace e_j2 := (if_neg c4).symm.trans e_j2
    refine st_iconst dX8_isSort_31 (v := 0) rfl ?_
    obtain rfl := Option.some.inj e_j2
    exact st_sub [.null] ⟨Or.inl rfl, trivial⟩ kj3
  · replace e_j2 := (if_pos c4).symm.trans e_j2
    refine st_aload_n dX8_isSort_7 rfl rfl ?_
    refine gI8 dX8_isSort_8 (by decide) rfl 14 (by decide) fl_RX8_117 rfl rfl ?_
    refine st_iconst dX8_isSort_11 (v := 2) rfl ?_
    refine st_ic_ne dX8_isSort_12 31 (by decide) (fun c5 => ?_) (fun c5 => ?_)
    · replace e_j2 := (if_neg c5).symm.trans e_j2
      refine st_iconst dX8_isSort_31 (v := 0) rfl ?_
      obtain rfl := Option.some.inj e_j2
      exact st_sub [.null] ⟨Or.inl rfl, trivial⟩ kj3
    · replace e_j2 := (if_pos c5).symm.trans e_j2
      refine st_aload_n dX8_isSort_15 rfl rfl ?_
      refine gI8 dX8_isSort_16 (by decide) rfl 15 (by decide) fl_RX8_106 rfl rfl ?_
      obtain ⟨v1, e_v1, e_j2⟩ := bnd e_j2
      refine st_callS [.int (H 60 15)] dX8_isSort_19 co_X8_kindBy sm_X8_kindBy ml_RX8_134 rfl (S := []) rfl (Nat.le_of_ble_eq_true rfl) (k_X8_kindBy (by omega) (H 60 15) H _ e_v1 ?_)
      show V (D + 1) RX8 mdX8_isSort 22 [.ref 60] [.int v1] H post
      refine st_ldc dX8_isSort_22 cn_RX8_105 ?_
      refine st_ic_eq dX8_isSort_24 31 (by decide) (fun c6 => ?_) (fun c6 => ?_)
      · replace e_j2 := (if_pos c6).symm.trans e_j2
        refine st_iconst dX8_isSort_31 (v := 0) rfl ?_
        obtain rfl := Option.some.inj e_j2
        exact st_sub [.null] ⟨Or.inl rfl, trivial⟩ kj3
      · replace e_j2 := (if_neg c6).symm.trans e_j2
        refine st_iconst dX8_isSort_27 (v := 1) rfl ?_
        refine st_goto dX8_isSort_28 32 (by decide) ?_
        obtain rfl := Option.some.inj e_j2
        exact st_sub [.null] ⟨Or.inl rfl, trivial⟩ kj3
def f_X8_readProject (H : Hp) : Option (Hp) :=
  (f_X8_kindBy (H 60 15)).bind fun v1 =>
  (ag H 65 80 0).bind fun v2 =>
  Option.bind (
    if v2 = 6 then
      (f_X8_bad 3 H).bind fun H3 =>
      some H3
    else
      some H) fun j4 =>
  (f_X8_must 1 j4).bind fun H5 =>
  (f_X8_mustSign 59 H5).bind fun H6 =>
  Option.bind (
    if (H6 60 16) = 0 then
      (ag H6 65 80 0).bind fun v7 =>
      (as H6 65 80 (4 + v7) v1).bind fun H8 =>
      (ag H8 65 80 0).bind fun v9 =>
      (as H8 65 80 0 (v9 + 1)).bind fun H10 =>
      some H10
    else
      some H6) fun j11 =>
  some j11
set_option maxHeartbeats 4000000 in
set_option maxRecDepth 100000 in
theorem k_X8_readProject {D : Nat} (hD : 4 ≤ D) (H : Hp) (q : Hp) (h : f_X8_readProject H = some q) {post : Option Value → Hp → Prop} (hp : post none q) : Sem D mdX8_readProject [.ref 60] H post := by
  obtain ⟨D, rfl⟩ : ∃ E, D = E + 1 := ⟨D - 1, by omega⟩
  refine sem_of (own := RX8) rfl pn_RX8 (Nat.le_of_ble_eq_true rfl) [.ref 60, .null] ⟨Or.inr rfl, rfl, trivial⟩ ?_
  unfold f_X8_readProject at h
  refine st_aload_n dX8_readProject_0 rfl rfl ?_
  refine gI8 dX8_readProject_1 (by decide) rfl 15 (by decide) fl_RX8_106 rfl rfl ?_
  obtain ⟨v1, e_v1, h⟩ := bnd h
  refine st_callS [.int (H 60 15)] dX8_readProject_4 co_X8_kindBy sm_X8_kindBy ml_RX8_134 rfl (S := []) rfl (Nat.le_of_ble_eq_true rfl) (k_X8_kindBy (by omega) (H 60 15) H _ e_v1 ?_)
  show V (D + 1) RX8 mdX8_readProject 7 [.ref 60, .null] [.int v1] H post
  refine st_istore_n dX8_readProject_7 rfl (by decide) [.ref 60, .int v1] rfl ?_
  refine st_aload_n dX8_readProject_8 rfl rfl ?_
  refine gR8 dX8_readProject_9 (by decide) rfl 6 (by decide) fl_RX8_22 rfl 65 rfl ?_
  refine st_iconst dX8_readProject_12 (v := 0) rfl ?_
  obtain ⟨v2, e_v2, h⟩ := bnd h
  refine st_iald dX8_readProject_13 (by decide) rfl v2 e_v2 ?_
  refine st_bipush dX8_readProject_14 (v := 6) (by decide) ?_
  obtain ⟨j4, e_j4, h⟩ := bnd h
  have kj12 : V (D + 1) RX8 mdX8_readProject 24 [.ref 60, .int v1] [] j4 post := by
    refine st_aload_n dX8_readProject_24 rfl rfl ?_
    refine st_iconst dX8_readProject_25 (v := 1) rfl ?_
    obtain ⟨H5, e_H5, h⟩ := bnd h
    refine st_callV [.int 1] dX8_readProject_26 co_X8_must im_X8_must se_X8_must ml_RX8_127 rfl (by decide) rfl (rfl : classes[8]? = some (RX8, TX8, 30)) rfl (S := []) rfl (Nat.le_of_ble_eq_true rfl) (k_X8_must (by omega) 1 j4 _ e_H5 ?_)
    show V (D + 1) RX8 mdX8_readProject 29 [.ref 60, .int v1] [] H5 post
    refine st_aload_n dX8_readProject_29 rfl rfl ?_
    refine st_bipush dX8_readProject_30 (v := 59) (by decide) ?_
    obtain ⟨H6, e_H6, h⟩ := bnd h
    refine st_callV [.int 59] dX8_readProject_32 co_X8_mustSign im_X8_mustSign se_X8_mustSign ml_RX8_137 rfl (by decide) rfl (rfl : classes[8]? = some (RX8, TX8, 30)) rfl (S := []) rfl (Nat.le_of_ble_eq_true rfl) (k_X8_mustSign (by omega) 59 H5 _ e_H6 ?_)
    show V (D + 1) RX8 mdX8_readProject 35 [.ref 60, .int v1] [] H6 post
    refine st_aload_n dX8_readProject_35 rfl rfl ?_
    refine gI8 dX8_readProject_36 (by decide) rfl 16 (by decide) fl_RX8_93 rfl rfl ?_
    obtain ⟨j11, e_j11, h⟩ := bnd h
    have kj13 : V (D + 1) RX8 mdX8_readProject 66 [.null, .null] [] j11 post := by
      obtain rfl := Option.some.inj h
      exact st_vret dX8_readProject_66 rfl hp
    refine st_if_ne dX8_readProject_39 66 (by decide) (fun c14 => ?_) (fun c14 => ?_)
    · replace e_j11 := (if_neg c14).symm.trans e_j11
      obtain rfl := Option.some.inj e_j11
      exact st_sub [.null, .null] ⟨Or.inl rfl, Or.inl rfl, trivial⟩ kj13
    · replace e_j11 := (if_pos c14).symm.trans e_j11
      refine st_aload_n dX8_readProject_42 rfl rfl ?_
      refine gR8 dX8_readProject_43 (by decide) rfl 6 (by decide) fl_RX8_22 rfl 65 rfl ?_
      refine st_iconst dX8_readProject_46 (v := 4) rfl ?_
      refine st_aload_n dX8_readProject_47 rfl rfl ?_
      refine gR8 dX8_readProject_48 (by decide) rfl 6 (by decide) fl_RX8_22 rfl 65 rfl ?_
      refine st_iconst dX8_readProject_51 (v := 0) rfl ?_
      obtain ⟨v7, e_v7, e_j11⟩ := bnd e_j11
      refine st_iald dX8_readProject_52 (by decide) rfl v7 e_v7 ?_
      refine st_iadd dX8_readProject_53 ?_
      refine st_iload_n dX8_readProject_54 rfl rfl ?_
      obtain ⟨H8, e_H8, e_j11⟩ := bnd e_j11
      refine st_iast dX8_readProject_55 (by decide) rfl H8 e_H8 ?_
      refine st_aload_n dX8_readProject_56 rfl rfl ?_
      refine gR8 dX8_readProject_57 (by decide) rfl 6 (by decide) fl_RX8_22 rfl 65 rfl ?_
      refine st_iconst dX8_readProject_60 (v := 0) rfl ?_
      refine st_dup2 dX8_readProject_61 rfl rfl ?_
      obtain ⟨v9, e_v9, e_j11⟩ := bnd e_j11
      refine st_iald dX8_readProject_62 (by decide) rfl v9 e_v9 ?_
      refine st_iconst dX8_readProject_63 (v := 1) rfl ?_
      refine st_iadd dX8_readProject_64 ?_
      obtain ⟨H10, e_H10, e_j11⟩ := bnd e_j11
      refine st_iast dX8_readProject_65 (by decide) rfl H10 e_H10 ?_
      obtain rfl := Option.some.inj e_j11
      exact st_sub [.null, .null] ⟨Or.inl rfl, Or.inl rfl, trivial⟩ kj13
  refine st_ic_ne dX8_readProject_16 24 (by decide) (fun c15 => ?_) (fun c15 => ?_)
  · replace e_j4 := (if_neg c15).symm.trans e_j4
    obtain rfl := Option.some.inj e_j4
    exact kj12
  · replace e_j4 := (if_pos c15).symm.trans e_j4
    refine st_aload_n dX8_readProject_19 rfl rfl ?_
    refine st_iconst dX8_readProject_20 (v := 3) rfl ?_
    obtain ⟨H3, e_H3, e_j4⟩ := bnd e_j4
    refine st_callV [.int 3] dX8_readProject_21 co_X8_bad im_X8_bad se_X8_bad ml_RX8_120 rfl (by decide) rfl (rfl : classes[8]? = some (RX8, TX8, 30)) rfl (S := []) rfl (Nat.le_of_ble_eq_true rfl) (k_X8_bad (by omega) 3 H _ e_H3 ?_)
    show V (D + 1) RX8 mdX8_readProject 24 [.ref 60, .int v1] [] H3 post
    obtain rfl := Option.some.inj e_j4
    exact kj12
def f_X8_isGift (H : Hp) : Option (Int32) :=
  some ((if (H 60 16) = 0 then (if (H 60 14) = 2 then (if (H 60 15) = 103 then 1 else 0) else 0) else 0) : Int32)
set_option maxHeartbeats 4000000 in
set_option maxRecDepth 100000 in
theorem k_X8_isGift {D : Nat} (hD : 0 ≤ D) (H : Hp) (q : Int32) (h : f_X8_isGift H = some q) {post : Option Value → Hp → Prop} (hp : post (some (.int q)) H) : Sem D mdX8_isGift [.ref 60] H post := by
  refine sem_of (own := RX8) rfl pn_RX8 (Nat.le_of_ble_eq_true rfl) [.ref 60] ⟨Or.inr rfl, trivial⟩ ?_
  unfold f_X8_isGift at h
  refine st_aload_n dX8_isGift_0 rfl rfl ?_
  refine gI8 dX8_isGift_1 (by decide) rfl 16 (by decide) fl_RX8_93 rfl rfl ?_
  have kj2 : ∀ z1 : Int32, z1 = ((if (H 60 16) = 0 then (if (H 60 14) = 2 then (if (H 60 15) = 103 then 1 else 0) else 0) else 0) : Int32) → V D RX8 mdX8_isGift 29 [.null] [.int z1] H post := by
    intro z1 ez1
    subst ez1
    obtain rfl := Option.some.inj h
    exact st_zret dX8_isGift_29 rfl (by first | rfl | (split <;> rfl) | (repeat (first | rfl | split))) hp
  refine st_if_ne dX8_isGift_4 28 (by decide) (fun c3 => ?_) (fun c3 => ?_)
  · refine st_iconst dX8_isGift_28 (v := 0) rfl ?_
    exact st_sub [.null] ⟨Or.inl rfl, trivial⟩ (kj2 _ (Eq.symm (if_neg c3)))
  · refine st_aload_n dX8_isGift_7 rfl rfl ?_
    refine gI8 dX8_isGift_8 (by decide) rfl 14 (by decide) fl_RX8_117 rfl rfl ?_
    refine st_iconst dX8_isGift_11 (v := 2) rfl ?_
    refine st_ic_ne dX8_isGift_12 28 (by decide) (fun c4 => ?_) (fun c4 => ?_)
    · refine st_iconst dX8_isGift_28 (v := 0) rfl ?_
      exact st_sub [.null] ⟨Or.inl rfl, trivial⟩ (kj2 _ (Eq.symm ((if_pos c3).trans (if_neg c4))))
    · refine st_aload_n dX8_isGift_15 rfl rfl ?_
      refine gI8 dX8_isGift_16 (by decide) rfl 15 (by decide) fl_RX8_106 rfl rfl ?_
      refine st_bipush dX8_isGift_19 (v := 103) (by decide) ?_
      refine st_ic_ne dX8_isGift_21 28 (by decide) (fun c5 => ?_) (fun c5 => ?_)
      · refine st_iconst dX8_isGift_28 (v := 0) rfl ?_
        exact st_sub [.null] ⟨Or.inl rfl, trivial⟩ (kj2 _ (Eq.symm ((if_pos c3).trans ((if_pos c4).trans (if_neg c5)))))
      · refine st_iconst dX8_isGift_24 (v := 1) rfl ?_
        refine st_goto dX8_isGift_25 29 (by decide) ?_
        exact st_sub [.null] ⟨Or.inl rfl, trivial⟩ (kj2 _ (Eq.symm ((if_pos c3).trans ((if_pos c4).trans (if_pos c5)))))
