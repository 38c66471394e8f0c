def f_X7_best (x1 : Int32) (x2 : Int32) (x3 : Int32) (H : Hp) : Option (Int32 × Hp) :=
  if (H 7 0) = 0 then
    some ((-1000002), H)
  else
    (f_X7_isGiver x1).bind fun v1 =>
    if v1 = 0 then
      some ((-1000001), H)
    else
      (f_X7_within x2 1 99).bind fun v2 =>
      if v2 = 0 then
        some ((-1000001), H)
      else
        (f_X7_within x3 0 1).bind fun v3 =>
        if v3 = 0 then
          some ((-1000001), H)
        else
          if (H 7 4) < 20 then
            (f_X3_bestTarget x1 x2 x3 H).bind fun q4 =>
            some (q4.1, q4.2)
          else
            some ((-1000003), H)
set_option maxHeartbeats 4000000 in
set_option maxRecDepth 100000 in
theorem k_X7_best {D : Nat} (hD : 6 ≤ D) (x1 : Int32) (x2 : Int32) (x3 : Int32) (H : Hp) (q : Int32 × Hp) (h : f_X7_best x1 x2 x3 H = some q) {post : Option Value → Hp → Prop} (hp : post (some (.int q.1)) q.2) : Sem D mdX7_best [.ref 0, .int x1, .int x2, .int x3] H post := by
  obtain ⟨D, rfl⟩ : ∃ E, D = E + 1 := ⟨D - 1, by omega⟩
  refine sem_of (own := RX7) rfl pn_RX7 (Nat.le_of_ble_eq_true rfl) [.ref 0, .int x1, .int x2, .int x3] ⟨Or.inr rfl, Or.inr rfl, Or.inr rfl, Or.inr rfl, trivial⟩ ?_
  unfold f_X7_best at h
  refine st_aload_n dX7_best_0 rfl rfl ?_
  refine gR7 dX7_best_1 (by decide) rfl 2 (by decide) fl_RX7_26 rfl 7 rfl ?_
  refine gI4 dX7_best_4 (by decide) rfl 0 (by decide) fl_RX7_181 rfl rfl ?_
  refine st_if_ne dX7_best_7 13 (by decide) (fun c5 => ?_) (fun c5 => ?_)
  · replace h := (if_neg c5).symm.trans h
    refine st_iload_n dX7_best_13 rfl rfl ?_
    obtain ⟨v1, e_v1, h⟩ := bnd h
    refine st_callS [.int x1] dX7_best_14 co_X7_isGiver sm_X7_isGiver ml_RX7_149 rfl (S := []) rfl (Nat.le_of_ble_eq_true rfl) (k_X7_isGiver (by omega) x1 H _ e_v1 ?_)
    show V (D + 1) RX7 mdX7_best 17 [.ref 0, .int x1, .int x2, .int x3] [.int v1] H post
    refine st_if_eq dX7_best_17 39 (by decide) (fun c6 => ?_) (fun c6 => ?_)
    · replace h := (if_pos c6).symm.trans h
      refine st_ldc dX7_best_39 cn_RX7_77 ?_
      obtain rfl := Option.some.inj h
      exact st_iret dX7_best_41 rfl hp
    · replace h := (if_neg c6).symm.trans h
      refine st_iload_n dX7_best_20 rfl rfl ?_
      refine st_iconst dX7_best_21 (v := 1) rfl ?_
      refine st_bipush dX7_best_22 (v := 99) (by decide) ?_
      obtain ⟨v2, e_v2, h⟩ := bnd h
      refine st_callS [.int x2, .int 1, .int 99] dX7_best_24 co_X7_within sm_X7_within ml_RX7_73 rfl (S := []) rfl (Nat.le_of_ble_eq_true rfl) (k_X7_within (by omega) x2 1 99 H _ e_v2 ?_)
      show V (D + 1) RX7 mdX7_best 27 [.ref 0, .int x1, .int x2, .int x3] [.int v2] H post
      refine st_if_eq dX7_best_27 39 (by decide) (fun c7 => ?_) (fun c7 => ?_)
      · replace h := (if_pos c7).symm.trans h
        refine st_ldc dX7_best_39 cn_RX7_77 ?_
        obtain rfl := Option.some.inj h
        exact st_iret dX7_best_41 rfl hp
      · replace h := (if_neg c7).symm.trans h
        refine st_iload_n dX7_best_30 rfl rfl ?_
        refine st_iconst dX7_best_31 (v := 0) rfl ?_
        refine st_iconst dX7_best_32 (v := 1) rfl ?_
        obtain ⟨v3, e_v3, h⟩ := bnd h
        refine st_callS [.int x3, .int 0, .int 1] dX7_best_33 co_X7_within sm_X7_within ml_RX7_73 rfl (S := []) rfl (Nat.le_of_ble_eq_true rfl) (k_X7_within (by omega) x3 0 1 H _ e_v3 ?_)
        show V (D + 1) RX7 mdX7_best 36 [.ref 0, .int x1, .int x2, .int x3] [.int v3] H post
        refine st_if_ne dX7_best_36 42 (by decide) (fun c8 => ?_) (fun c8 => ?_)
        · replace h := (if_neg c8).symm.trans h
          refine st_aload_n dX7_best_42 rfl rfl ?_
          refine gR7 dX7_best_43 (by decide) rfl 2 (by decide) fl_RX7_26 rfl 7 rfl ?_
          refine gI4 dX7_best_46 (by decide) rfl 4 (by decide) fl_RX7_155 rfl rfl ?_
          refine st_bipush dX7_best_49 (v := 20) (by decide) ?_
          refine st_ic_lt dX7_best_51 57 (by decide) (fun c9 => ?_) (fun c9 => ?_)
          · replace h := (if_pos c9).symm.trans h
            refine st_aload_n dX7_best_57 rfl rfl ?_
            refine gR7 dX7_best_58 (by decide) rfl 7 (by decide) fl_RX7_56 rfl 49 rfl ?_
            refine st_iload_n dX7_best_61 rfl rfl ?_
            refine st_iload_n dX7_best_62 rfl rfl ?_
            refine st_iload_n dX7_best_63 rfl rfl ?_
            obtain ⟨q4, e_q4, h⟩ := bnd h
            refine st_callV [.int x1, .int x2, .int x3] dX7_best_64 co_X3_bestTarget im_X3_bestTarget se_X3_bestTarget ml_RX7_249 rfl (by decide) rfl (rfl : classes[3]? = some (RX3, TX3, 5)) rfl (S := []) rfl (Nat.le_of_ble_eq_true rfl) (k_X3_bestTarget (by omega) x1 x2 x3 H _ e_q4 ?_)
            show V (D + 1) RX7 mdX7_best 67 [.ref 0, .int x1, .int x2, .int x3] [.int q4.1] q4.2 post
            obtain rfl := Option.some.inj h
            exact st_iret dX7_best_67 rfl hp
          · replace h := (if_neg c9).symm.trans h
            refine st_ldc dX7_best_54 cn_RX7_117 ?_
            obtain rfl := Option.some.inj h
            exact st_iret dX7_best_56 rfl hp
        · replace h := (if_pos c8).symm.trans h
          refine st_ldc dX7_best_39 cn_RX7_77 ?_
          obtain rfl := Option.some.inj h
          exact st_iret dX7_best_41 rfl hp
  · replace h := (if_pos c5).symm.trans h
    refine st_ldc dX7_best_10 cn_RX7_145 ?_
    obtain rfl := Option.some.inj h
    exact st_iret dX7_best_12 rfl hp
def f_X3_leastCoins_l25 (x2 : Int32) (x3 : Int32) (x4 : Int32) : Nat → Int32 → Hp → Option ((Hp) ⊕ (Int32 × Hp))
  | 0, _, _ => none
  | n + 1, x5, H =>
    if 99 < x5 then
      some (.inl H)
    else
      (f_X2_add x4 x2 1 H).bind fun H3 =>
      (f_X2_claimOf x2 H3).bind fun v4 =>
      if v4 < x3 then
        f_X3_leastCoins_l25 x2 x3 x4 n (x5 + 1) H3
      else
        some (.inr (x5, H3))
def f_X3_leastCoins (x1 : Int32) (x2 : Int32) (x3 : Int32) (H : Hp) : Option (Int32 × Hp) :=
  (ag H 9 10 x1).bind fun v1 =>
  (f_X2_load H).bind fun H2 =>
  (f_X3_leastCoins_l25 x2 x3 v1 fuel 1 H2).bind fun l7 => Sum.elim (fun t8 =>
    some ((-1000000), t8)) (fun r => some r) l7
set_option maxHeartbeats 4000000 in
set_option maxRecDepth 100000 in
theorem k_X3_leastCoins_l25 {D : Nat} (hD : 5 ≤ (D + 1)) (x2 : Int32) (x3 : Int32) (x4 : Int32) {post : Option Value → Hp → Prop} : ∀ (n : Nat) (x5 : Int32) (H : Hp) (q : (Hp) ⊕ (Int32 × Hp)), f_X3_leastCoins_l25 x2 x3 x4 n x5 H = some q → (∀ t, q = .inl t → V (D + 1) RX3 mdX3_leastCoins 64 [.null, .null, .null, .null, .null, .null] [] t post) → (∀ r, q = .inr r → post (some (.int r.1)) r.2) → V (D + 1) RX3 mdX3_leastCoins 25 [.ref 49, .null, .int x2, .int x3, .int x4, .int x5] [] H post := by
  intro n
  induction n with
  | zero => intro x5 H q h; simp [f_X3_leastCoins_l25] at h
  | succ n ih =>
    intro x5 H q h k1 k2
    rw [f_X3_leastCoins_l25] at h
    refine st_iload dX3_leastCoins_25 rfl ?_
    refine st_bipush dX3_leastCoins_27 (v := 99) (by decide) ?_
    refine st_ic_gt dX3_leastCoins_29 64 (by decide) (fun c5 => ?_) (fun c5 => ?_)
    · replace h := (if_pos c5).symm.trans h
      exact st_sub [.null, .null, .null, .null, .null, .null] ⟨Or.inl rfl, Or.inl rfl, Or.inl rfl, Or.inl rfl, Or.inl rfl, Or.inl rfl, trivial⟩ (k1 _ (Option.some.inj h).symm)
    · replace h := (if_neg c5).symm.trans h
      refine st_aload_n dX3_leastCoins_32 rfl rfl ?_
      refine gR3 dX3_leastCoins_33 (by decide) rfl 1 (by decide) fl_RX3_28 rfl 38 rfl ?_
      refine st_iload dX3_leastCoins_36 rfl ?_
      refine st_iload_n dX3_leastCoins_38 rfl rfl ?_
      refine st_iconst dX3_leastCoins_39 (v := 1) rfl ?_
      obtain ⟨H3, e_H3, h⟩ := bnd h
      refine st_callV [.int x4, .int x2, .int 1] dX3_leastCoins_40 co_X2_add im_X2_add se_X2_add ml_RX3_41 rfl (by decide) rfl (rfl : classes[2]? = some (RX2, TX2, 15)) rfl (S := []) rfl (Nat.le_of_ble_eq_true rfl) (k_X2_add (by omega) x4 x2 1 H _ e_H3 ?_)
      show V (D + 1) RX3 mdX3_leastCoins 43 [.ref 49, .null, .int x2, .int x3, .int x4, .int x5] [] H3 post
      refine st_aload_n dX3_leastCoins_43 rfl rfl ?_
      refine gR3 dX3_leastCoins_44 (by decide) rfl 1 (by decide) fl_RX3_28 rfl 38 rfl ?_
      refine st_iload_n dX3_leastCoins_47 rfl rfl ?_
      obtain ⟨v4, e_v4, h⟩ := bnd h
      refine st_callV [.int x2] dX3_leastCoins_48 co_X2_claimOf im_X2_claimOf se_X2_claimOf ml_RX3_61 rfl (by decide) rfl (rfl : classes[2]? = some (RX2, TX2, 15)) rfl (S := []) rfl (Nat.le_of_ble_eq_true rfl) (k_X2_claimOf (by omega) x2 H3 _ e_v4 ?_)
      show V (D + 1) RX3 mdX3_leastCoins 51 [.ref 49, .null, .int x2, .int x3, .int x4, .int x5] [.int v4] H3 post
      refine st_iload_n dX3_leastCoins_51 rfl rfl ?_
      refine st_ic_lt dX3_leastCoins_52 58 (by decide) (fun c6 => ?_) (fun c6 => ?_)
      · replace h := (if_pos c6).symm.trans h
        refine st_iinc dX3_leastCoins_58 rfl (v := (x5 + 1)) rfl (by decide) [.ref 49, .null, .int x2, .int x3, .int x4, .int (x5 + 1)] rfl ?_
        refine st_goto dX3_leastCoins_61 25 (by decide) ?_
        exact ih (x5 + 1) H3 q h k1 k2
      · replace h := (if_neg c6).symm.trans h
        refine st_iload dX3_leastCoins_55 rfl ?_
        have hp := k2 _ (Option.some.inj h).symm
        exact st_iret dX3_leastCoins_57 rfl hp
set_option maxHeartbeats 4000000 in
set_option maxRecDepth 100000 in
theorem k_X3_leastCoins {D : Nat} (hD : 5 ≤ D) (x1 : Int32) (x2 : Int32) (x3 : Int32) (H : Hp) (q : Int32 × Hp) (h : f_X3_leastCoins x1 x2 x3 H = some q) {post : Option Value → Hp → Prop} (hp : post (some (.int q.1)) q.2) : Sem D mdX3_leastCoins [.ref 49, .int x1, .int x2, .int x3] H post := by
  obtain ⟨D, rfl⟩ : ∃ E, D = E + 1 := ⟨D - 1, by omega⟩
  refine sem_of (own := RX3) rfl pn_RX3 (Nat.le_of_ble_eq_true rfl) [.ref 49, .int x1, .int x2, .int x3, .null, .null] ⟨Or.inr rfl, Or.inr rfl, Or.inr rfl, Or.inr rfl, rfl, rfl, trivial⟩ ?_
  unfold f_X3_leastCoins at h
  refine st_aload_n dX3_leastCoins_0 rfl rfl ?_
  refine gR3 dX3_leastCoins_1 (by decide) rfl 0 (by decide) fl_RX3_25 rfl 7 rfl ?_
  refine gR4 dX3_leastCoins_4 (by decide) rfl 6 (by decide) fl_RX3_38 rfl 9 rfl ?_
  refine st_iload_n dX3_leastCoins_7 rfl rfl ?_
  obtain ⟨v1, e_v1, h⟩ := bnd h
  refine st_iald dX3_leastCoins_8 (by decide) rfl v1 e_v1 ?_
  refine st_istore dX3_leastCoins_9 (by decide) [.ref 49, .int x1, .int x2, .int x3, .int v1, .null] rfl ?_
  refine st_aload_n dX3_leastCoins_11 rfl rfl ?_
  refine gR3 dX3_leastCoins_12 (by decide) rfl 1 (by decide) fl_RX3_28 rfl 38 rfl ?_
  refine st_aload_n dX3_leastCoins_15 rfl rfl ?_
  refine gR3 dX3_leastCoins_16 (by decide) rfl 0 (by decide) fl_RX3_25 rfl 7 rfl ?_
  obtain ⟨H2, e_H2, h⟩ := bnd h
  refine st_callV [.ref 7] dX3_leastCoins_19 co_X2_load im_X2_load se_X2_load ml_RX3_32 rfl (by decide) rfl (rfl : classes[2]? = some (RX2, TX2, 15)) rfl (S := []) rfl (Nat.le_of_ble_eq_true rfl) (k_X2_load (by omega) H _ e_H2 ?_)
  show V (D + 1) RX3 mdX3_leastCoins 22 [.ref 49, .int x1, .int x2, .int x3, .int v1, .null] [] H2 post
  refine st_iconst dX3_leastCoins_22 (v := 1) rfl ?_
  refine st_istore dX3_leastCoins_23 (by decide) [.ref 49, .int x1, .int x2, .int x3, .int v1, .int 1] rfl ?_
  refine st_sub [.ref 49, .null, .int x2, .int x3, .int v1, .int 1] ⟨Or.inr rfl, Or.inl rfl, Or.inr rfl, Or.inr rfl, Or.inr rfl, Or.inr rfl, trivial⟩ ?_
  obtain ⟨l7, e_l7, h⟩ := bnd h
  refine k_X3_leastCoins_l25 (by omega) x2 x3 v1 fuel 1 H2 _ e_l7 (fun t8 z => ?_) (fun r z => ?_)
  · subst z
    rw [Sum.elim_inl] at h
    refine st_ldc dX3_leastCoins_64 cn_RX3_65 ?_
    obtain rfl := Option.some.inj h
    exact st_iret dX3_leastCoins_66 rfl hp
  · subst z
    rw [Sum.elim_inr] at h
    obtain rfl := Option.some.inj h
    exact hp
def f_X7_least (x1 : Int32) (x2 : Int32) (x3 : Int32) (H : Hp) : Option (Int32 × Hp) :=
  (f_X7_isGiver x1).bind fun v1 =>
  if v1 = 0 then
    some ((-1000001), H)
  else
    (f_X7_isProject x2 H).bind fun v2 =>
    if v2 = 0 then
      some ((-1000001), H)
    else
      (f_X7_within x3 1 9999).bind fun v3 =>
      if v3 = 0 then
        some ((-1000001), H)
      else
        if (H 7 4) < 20 then
          (f_X3_leastCoins x1 x2 x3 H).bind fun q4 =>
          some (q4.1, q4.2)
        else
          some ((-1000003), H)
set_option maxHeartbeats 4000000 in
set_option maxRecDepth 100000 in
theorem k_X7_least {D : Nat} (hD : 6 ≤ D) (x1 : Int32) (x2 : Int32) (x3 : Int32) (H : Hp) (q : Int32 × Hp) (h : f_X7_least x1 x2 x3 H = some q) {post : Option Value → Hp → Prop} (hp : post (some (.int q.1)) q.2) : Sem D mdX7_least [.ref 0, .int x1, .int x2, .int x3] H post := by
  obtain ⟨D, rfl⟩ : ∃ E, D = E + 1 := ⟨D - 1, by omega⟩
  refine sem_of (own := RX7) rfl pn_RX7 (Nat.le_of_ble_eq_true rfl) [.ref 0, .int x1, .int x2, .int x3] ⟨Or.inr rfl, Or.inr rfl, Or.inr rfl, Or.inr rfl, trivial⟩ ?_
  unfold f_X7_least at h
  refine st_iload_n dX7_least_0 rfl rfl ?_
  obtain ⟨v1, e_v1, h⟩ := bnd h
  refine st_callS [.int x1] dX7_least_1 co_X7_isGiver sm_X7_isGiver ml_RX7_149 rfl (S := []) rfl (Nat.le_of_ble_eq_true rfl) (k_X7_isGiver (by omega) x1 H _ e_v1 ?_)
  show V (D + 1) RX7 mdX7_least 4 [.ref 0, .int x1, .int x2, .int x3] [.int v1] H post
  refine st_if_eq dX7_least_4 26 (by decide) (fun c5 => ?_) (fun c5 => ?_)
  · replace h := (if_pos c5).symm.trans h
    refine st_ldc dX7_least_26 cn_RX7_77 ?_
    obtain rfl := Option.some.inj h
    exact st_iret dX7_least_28 rfl hp
  · replace h := (if_neg c5).symm.trans h
    refine st_aload_n dX7_least_7 rfl rfl ?_
    refine st_iload_n dX7_least_8 rfl rfl ?_
    obtain ⟨v2, e_v2, h⟩ := bnd h
    refine st_callV [.int x2] dX7_least_9 co_X7_isProject im_X7_isProject se_X7_isProject ml_RX7_152 rfl (by decide) rfl (rfl : classes[7]? = some (RX7, TX7, 11)) rfl (S := []) rfl (Nat.le_of_ble_eq_true rfl) (k_X7_isProject (by omega) x2 H _ e_v2 ?_)
    show V (D + 1) RX7 mdX7_least 12 [.ref 0, .int x1, .int x2, .int x3] [.int v2] H post
    refine st_if_eq dX7_least_12 26 (by decide) (fun c6 => ?_) (fun c6 => ?_)
    · replace h := (if_pos c6).symm.trans h
      refine st_ldc dX7_least_26 cn_RX7_77 ?_
      obtain rfl := Option.some.inj h
      exact st_iret dX7_least_28 rfl hp
    · replace h := (if_neg c6).symm.trans h
      refine st_iload_n dX7_least_15 rfl rfl ?_
      refine st_iconst dX7_least_16 (v := 1) rfl ?_
      refine st_sipush dX7_least_17 (v := 9999) (by decide) ?_
      obtain ⟨v3, e_v3, h⟩ := bnd h
      refine st_callS [.int x3, .int 1, .int 9999] dX7_least_20 co_X7_within sm_X7_within ml_RX7_73 rfl (S := []) rfl (Nat.le_of_ble_eq_true rfl) (k_X7_within (by omega) x3 1 9999 H _ e_v3 ?_)
      show V (D + 1) RX7 mdX7_least 23 [.ref 0, .int x1, .int x2, .int x3] [.int v3] H post
      refine st_if_ne dX7_least_23 29 (by decide) (fun c7 => ?_) (fun c7 => ?_)
      · replace h := (if_neg c7).symm.trans h
        refine st_aload_n dX7_least_29 rfl rfl ?_
        refine gR7 dX7_least_30 (by decide) rfl 2 (by decide) fl_RX7_26 rfl 7 rfl ?_
        refine gI4 dX7_least_33 (by decide) rfl 4 (by decide) fl_RX7_155 rfl rfl ?_
        refine st_bipush dX7_least_36 (v := 20) (by decide) ?_
        refine st_ic_lt dX7_least_38 44 (by decide) (fun c8 => ?_) (fun c8 => ?_)
        · replace h := (if_pos c8).symm.trans h
          refine st_aload_n dX7_least_44 rfl rfl ?_
          refine gR7 dX7_least_45 (by decide) rfl 7 (by decide) fl_RX7_56 rfl 49 rfl ?_
          refine st_iload_n dX7_least_48 rfl rfl ?_
          refine st_iload_n dX7_least_49 rfl rfl ?_
          refine st_iload_n dX7_least_50 rfl rfl ?_
          obtain ⟨q4, e_q4, h⟩ := bnd h
          refine st_callV [.int x1, .int x2, .int x3] dX7_least_51 co_X3_leastCoins im_X3_leastCoins se_X3_leastCoins ml_RX7_252 rfl (by decide) rfl (rfl : classes[3]? = some (RX3, TX3, 5)) rfl (S := []) rfl (Nat.le_of_ble_eq_true rfl) (k_X3_leastCoins (by omega) x1 x2 x3 H _ e_q4 ?_)
          show V (D + 1) RX7 mdX7_least 54 [.ref 0, .int x1, .int x2, .int x3] [.int q4.1] q4.2 post
          obtain rfl := Option.some.inj h
          exact st_iret dX7_least_54 rfl hp
        · replace h := (if_neg c8).symm.trans h
          refine st_ldc dX7_least_41 cn_RX7_117 ?_
          obtain rfl := Option.some.inj h
          exact st_iret dX7_least_43 rfl hp
      · replace h := (if_pos c7).symm.trans h
        refine st_ldc dX7_least_26 cn_RX7_77 ?_
        obtain rfl := Option.some.inj h
        exact st_iret dX7_least_28 rfl hp
def f_X2_leave (x1 : Int32) (H : Hp) : Option (Hp) :=
  (f_X2_weigh x1 (-1) H).bind fun H1 =>
  some H1
set_option maxHeartbeats 4000000 in
set_option maxRecDepth 100000 in
theorem k_X2_leave {D : Nat} (hD : 3 ≤ D) (x1 : Int32) (H : Hp) (q : Hp) (h : f_X2_leave x1 H = some q) {post : Option Value → Hp → Prop} (hp : post none q) : Sem D mdX2_leave [.ref 38, .int x1] H post := by
  obtain ⟨D, rfl⟩ : ∃ E, D = E + 1 := ⟨D - 1, by omega⟩
  refine sem_of (own := RX2) rfl pn_RX2 (Nat.le_of_ble_eq_true rfl) [.ref 38, .int x1] ⟨Or.inr rfl, Or.inr rfl, trivial⟩ ?_
  unfold f_X2_leave at h
  refine st_aload_n dX2_leave_0 rfl rfl ?_
  refine st_iload_n dX2_leave_1 rfl rfl ?_
  refine st_iconst dX2_leave_2 (v := (-1)) rfl ?_
  obtain ⟨H1, e_H1, h⟩ := bnd h
  refine st_callV [.int x1, .int (-1)] dX2_leave_3 co_X2_weigh im_X2_weigh se_X2_weigh ml_RX2_84 rfl (by decide) rfl (rfl : classes[2]? = some (RX2, TX2, 15)) rfl (S := []) rfl (Nat.le_of_ble_eq_true rfl) (k_X2_weigh (by omega) x1 (-1) H _ e_H1 ?_)
  show V (D + 1) RX2 mdX2_leave 6 [.ref 38, .int x1] [] H1 post
  obtain rfl := Option.some.inj h
  exact st_vret dX2_leave_6 rfl hp
def f_X3_mostMissed_l21 (x1 : Int32) : Nat → Int32 → Int32 → Int32 → Hp → Option (Int32 × Int32 × Hp)
  | 0, _, _, _, _ => none
  | n + 1, x3, x4, x5, H =>
    if 10 ≤ x5 then
      some (x3, x4, H)
    else
      (f_X2_gives x5 H).bind fun v2 =>
      Option.bind (
        if v2 = 0 then
          some (x3, x4, H)
        else
          (f_X2_leave x5 H).bind fun H3 =>
          (f_X2_settle H3).bind fun H4 =>
          (f_X2_join x5 H4).bind fun H5 =>
          if x3 = (-1000000) then
            (ag H5 48 6 x1).bind fun v6 =>
            some (x5, v6, H5)
          else
            (ag H5 48 6 x1).bind fun v7 =>
            if x4 ≤ v7 then
              some (x3, x4, H5)
            else
              (ag H5 48 6 x1).bind fun v8 =>
              some (x5, v8, H5)) fun j9 =>
      f_X3_mostMissed_l21 x1 n j9.1 j9.2.1 (x5 + 1) j9.2.2
def f_X3_mostMissed (x1 : Int32) (x2 : Int32) (H : Hp) : Option (Int32 × Hp) :=
  (f_X2_load H).bind fun H1 =>
  (f_X3_mostMissed_l21 x1 fuel (-1000000) (-1000000) 0 H1).bind fun l15 =>
  some ((if x2 = 0 then l15.1 else l15.2.1), l15.2.2)
set_option maxHeartbeats 4000000 in
set_option maxRecDepth 100000 in
theorem k_X3_mostMissed_l21 {D : Nat} (hD : 5 ≤ (D + 1)) (x1 : Int32) (x2 : Int32) {post : Option Value → Hp → Prop} : ∀ (n : Nat) (x3 : Int32) (x4 : Int32) (x5 : Int32) (H : Hp) (q : Int32 × Int32 × Hp), f_X3_mostMissed_l21 x1 n x3 x4 x5 H = some q → V (D + 1) RX3 mdX3_mostMissed 108 [.null, .null, .int x2, .int q.1, .int q.2.1, .null] [] q.2.2 post → V (D + 1) RX3 mdX3_mostMissed 21 [.ref 49, .int x1, .int x2, .int x3, .int x4, .int x5] [] H post := by
  intro n
  induction n with
  | zero => intro x3 x4 x5 H q h; simp [f_X3_mostMissed_l21] at h
  | succ n ih =>
    intro x3 x4 x5 H q h k1
    rw [f_X3_mostMissed_l21] at h
    refine st_iload dX3_mostMissed_21 rfl ?_
    refine st_bipush dX3_mostMissed_23 (v := 10) (by decide) ?_
    refine st_ic_ge dX3_mostMissed_25 108 (by decide) (fun c10 => ?_) (fun c10 => ?_)
    · replace h := (if_pos c10).symm.trans h
      obtain rfl := Option.some.inj h
      exact st_sub [.null, .null, .int x2, .int x3, .int x4, .null] ⟨Or.inl rfl, Or.inl rfl, Or.inr rfl, Or.inr rfl, Or.inr rfl, Or.inl rfl, trivial⟩ k1
    · replace h := (if_neg c10).symm.trans h
      refine st_aload_n dX3_mostMissed_28 rfl rfl ?_
      refine gR3 dX3_mostMissed_29 (by decide) rfl 1 (by decide) fl_RX3_28 rfl 38 rfl ?_
      refine st_iload dX3_mostMissed_32 rfl ?_
      obtain ⟨v2, e_v2, h⟩ := bnd h
      refine st_callV [.int x5] dX3_mostMissed_34 co_X2_gives im_X2_gives se_X2_gives ml_RX3_66 rfl (by decide) rfl (rfl : classes[2]? = some (RX2, TX2, 15)) rfl (S := []) rfl (Nat.le_of_ble_eq_true rfl) (k_X2_gives (by omega) x5 H _ e_v2 ?_)
      show V (D + 1) RX3 mdX3_mostMissed 37 [.ref 49, .int x1, .int x2, .int x3, .int x4, .int x5] [.int v2] H post
      obtain ⟨j9, e_j9, h⟩ := bnd h
      have kj11 : V (D + 1) RX3 mdX3_mostMissed 102 [.ref 49, .int x1, .int x2, .int j9.1, .int j9.2.1, .int x5] [] j9.2.2 post := by
        refine st_iinc dX3_mostMissed_102 rfl (v := (x5 + 1)) rfl (by decide) [.ref 49, .int x1, .int x2, .int j9.1, .int j9.2.1, .int (x5 + 1)] rfl ?_
        refine st_goto dX3_mostMissed_105 21 (by decide) ?_
        exact ih j9.1 j9.2.1 (x5 + 1) j9.2.2 q h k1
      refine st_if_ne dX3_mostMissed_37 43 (by decide) (fun c12 => ?_) (fun c12 => ?_)
      · replace e_j9 := (if_neg c12).symm.trans e_j9
        refine st_aload_n dX3_mostMissed_43 rfl rfl ?_
        refine gR3 dX3_mostMissed_44 (by decide) rfl 1 (by decide) fl_RX3_28 rfl 38 rfl ?_
        refine st_iload dX3_mostMissed_47 rfl ?_
        obtain ⟨H3, e_H3, e_j9⟩ := bnd e_j9
        refine st_callV [.int x5] dX3_mostMissed_49 co_X2_leave im_X2_leave se_X2_leave ml_RX3_70 rfl (by decide) rfl (rfl : classes[2]? = some (RX2, TX2, 15)) rfl (S := []) rfl (Nat.le_of_ble_eq_true rfl) (k_X2_leave (by omega) x5 H _ e_H3 ?_)
        show V (D + 1) RX3 mdX3_mostMissed 52 [.ref 49, .int x1, .int x2, .int x3, .int x4, .int x5] [] H3 post
        refine st_aload_n dX3_mostMissed_52 rfl rfl ?_
        refine gR3 dX3_mostMissed_53 (by decide) rfl 1 (by decide) fl_RX3_28 rfl 38 rfl ?_
        obtain ⟨H4, e_H4, e_j9⟩ := bnd e_j9
        refine st_callV [] dX3_mostMissed_56 co_X2_settle im_X2_settle se_X2_settle ml_RX3_45 rfl (by decide) rfl (rfl : classes[2]? = some (RX2, TX2, 15)) rfl (S := []) rfl (Nat.le_of_ble_eq_true rfl) (k_X2_settle (by omega) H3 _ e_H4 ?_)
        show V (D + 1) RX3 mdX3_mostMissed 59 [.ref 49, .int x1, .int x2, .int x3, .int x4, .int x5] [] H4 post
        refine st_aload_n dX3_mostMissed_59 rfl rfl ?_
        refine gR3 dX3_mostMissed_60 (by decide) rfl 1 (by decide) fl_RX3_28 rfl 38 rfl ?_
        refine st_iload dX3_mostMissed_63 rfl ?_
        obtain ⟨H5, e_H5, e_j9⟩ := bnd e_j9
        refine st_callV [.int x5] dX3_mostMissed_65 co_X2_join im_X2_join se_X2_join ml_RX3_74 rfl (by decide) rfl (rfl : classes[2]? = some (RX2, TX2, 15)) rfl (S := []) rfl (Nat.le_of_ble_eq_true rfl) (k_X2_join (by omega) x5 H4 _ e_H5 ?_)
        show V (D + 1) RX3 mdX3_mostMissed 68 [.ref 49, .int x1, .int x2, .int x3, .int x4, .int x5] [] H5 post
        refine st_iload_n dX3_mostMissed_68 rfl rfl ?_
        refine st_ldc dX3_mostMissed_69 cn_RX3_65 ?_
        refine st_ic_eq dX3_mostMissed_71 88 (by decide) (fun c13 => ?_) (fun c13 => ?_)
        · replace e_j9 := (if_pos c13).symm.trans e_j9
          refine st_iload dX3_mostMissed_88 rfl ?_
          refine st_istore_n dX3_mostMissed_90 rfl (by decide) [.ref 49, .int x1, .int x2, .int x5, .int x4, .int x5] rfl ?_
          refine st_aload_n dX3_mostMissed_91 rfl rfl ?_
          refine gR3 dX3_mostMissed_92 (by decide) rfl 1 (by decide) fl_RX3_28 rfl 38 rfl ?_
          refine gR2 dX3_mostMissed_95 (by decide) rfl 9 (by decide) fl_RX3_48 rfl 48 rfl ?_
          refine st_iload_n dX3_mostMissed_98 rfl rfl ?_
          obtain ⟨v6, e_v6, e_j9⟩ := bnd e_j9
          refine st_iald dX3_mostMissed_99 (by decide) rfl v6 e_v6 ?_
          refine st_istore dX3_mostMissed_100 (by decide) [.ref 49, .int x1, .int x2, .int x5, .int v6, .int x5] rfl ?_
          obtain rfl := Option.some.inj e_j9
          exact kj11
        · replace e_j9 := (if_neg c13).symm.trans e_j9
          refine st_aload_n dX3_mostMissed_74 rfl rfl ?_
          refine gR3 dX3_mostMissed_75 (by decide) rfl 1 (by decide) fl_RX3_28 rfl 38 rfl ?_
          refine gR2 dX3_mostMissed_78 (by decide) rfl 9 (by decide) fl_RX3_48 rfl 48 rfl ?_
          refine st_iload_n dX3_mostMissed_81 rfl rfl ?_
          obtain ⟨v7, e_v7, e_j9⟩ := bnd e_j9
          refine st_iald dX3_mostMissed_82 (by decide) rfl v7 e_v7 ?_
          refine st_iload dX3_mostMissed_83 rfl ?_
          refine st_ic_ge dX3_mostMissed_85 102 (by decide) (fun c14 => ?_) (fun c14 => ?_)
          · replace e_j9 := (if_pos c14).symm.trans e_j9
            obtain rfl := Option.some.inj e_j9
            exact kj11
          · replace e_j9 := (if_neg c14).symm.trans e_j9
            refine st_iload dX3_mostMissed_88 rfl ?_
            refine st_istore_n dX3_mostMissed_90 rfl (by decide) [.ref 49, .int x1, .int x2, .int x5, .int x4, .int x5] rfl ?_
            refine st_aload_n dX3_mostMissed_91 rfl rfl ?_
            refine gR3 dX3_mostMissed_92 (by decide) rfl 1 (by decide) fl_RX3_28 rfl 38 rfl ?_
            refine gR2 dX3_mostMissed_95 (by decide) rfl 9 (by decide) fl_RX3_48 rfl 48 rfl ?_
            refine st_iload_n dX3_mostMissed_98 rfl rfl ?_
            obtain ⟨v8, e_v8, e_j9⟩ := bnd e_j9
            refine st_iald dX3_mostMissed_99 (by decide) rfl v8 e_v8 ?_
            refine st_istore dX3_mostMissed_100 (by decide) [.ref 49, .int x1, .int x2, .int x5, .int v8, .int x5] rfl ?_
            obtain rfl := Option.some.inj e_j9
            exact kj11
      · replace e_j9 := (if_pos c12).symm.trans e_j9
        refine st_goto dX3_mostMissed_40 102 (by decide) ?_
        obtain rfl := Option.some.inj e_j9
        exact kj11
set_option maxHeartbeats 4000000 in
set_option maxRecDepth 100000 in
theorem k_X3_mostMissed {D : Nat} (hD : 5 ≤ D) (x1 : Int32) (x2 : Int32) (H : Hp) (q : Int32 × Hp) (h : f_X3_mostMissed x1 x2 H = some q) {post : Option Value → Hp → Prop} (hp : post (some (.int q.1)) q.2) : Sem D mdX3_mostMissed [.ref 49, .int x1, .int x2] H post := by
  obtain ⟨D, rfl⟩ : ∃ E, D = E + 1 := ⟨D - 1, by omega⟩
  refine sem_of (own := RX3) rfl pn_RX3 (Nat.le_of_ble_eq_true rfl) [.ref 49, .int x1, .int x2, .null, .null, .null] ⟨Or.inr rfl, Or.inr rfl, Or.inr rfl, rfl, rfl, rfl, trivial⟩ ?_
  unfold f_X3_mostMissed at h
  refine st_ldc dX3_mostMissed_0 cn_RX3_65 ?_
  refine st_istore_n dX3_mostMissed_2 rfl (by decide) [.ref 49, .int x1, .int x2, .int (-1000000), .null, .null] rfl ?_
  refine st_ldc dX3_mostMissed_3 cn_RX3_65 ?_
  refine st_istore dX3_mostMissed_5 (by decide) [.ref 49, .int x1, .int x2, .int (-1000000), .int (-1000000), .null] rfl ?_
  refine st_aload_n dX3_mostMissed_7 rfl rfl ?_
  refine gR3 dX3_mostMissed_8 (by decide) rfl 1 (by decide) fl_RX3_28 rfl 38 rfl ?_
  refine st_aload_n dX3_mostMissed_11 rfl rfl ?_
  refine gR3 dX3_mostMissed_12 (by decide) rfl 0 (by decide) fl_RX3_25 rfl 7 rfl ?_
  obtain ⟨H1, e_H1, h⟩ := bnd h
  refine st_callV [.ref 7] dX3_mostMissed_15 co_X2_load im_X2_load se_X2_load ml_RX3_32 rfl (by decide) rfl (rfl : classes[2]? = some (RX2, TX2, 15)) rfl (S := []) rfl (Nat.le_of_ble_eq_true rfl) (k_X2_load (by omega) H _ e_H1 ?_)
  show V (D + 1) RX3 mdX3_mostMissed 18 [.ref 49, .int x1, .int x2, .int (-1000000), .int (-1000000), .null] [] H1 post
  refine st_iconst dX3_mostMissed_18 (v := 0) rfl ?_
  refine st_istore dX3_mostMissed_19 (by decide) [.ref 49, .int x1, .int x2, .int (-1000000), .int (-1000000), .int 0] rfl ?_
  obtain ⟨l15, e_l15, h⟩ := bnd h
  refine k_X3_mostMissed_l21 (by omega) x1 x2 fuel (-1000000) (-1000000) 0 H1 _ e_l15 ?_
  refine st_iload_n dX3_mostMissed_108 rfl rfl ?_
  have kj17 : ∀ z16 : Int32, z16 = (if x2 = 0 then l15.1 else l15.2.1) → V (D + 1) RX3 mdX3_mostMissed 118 [.null, .null, .null, .null, .null, .null] [.int z16] l15.2.2 post := by
    intro z16 ez16
    subst ez16
    obtain rfl := Option.some.inj h
    exact st_iret dX3_mostMissed_118 rfl hp
  refine st_if_ne dX3_mostMissed_109 116 (by decide) (fun c18 => ?_) (fun c18 => ?_)
  · refine st_iload dX3_mostMissed_116 rfl ?_
    exact st_sub [.null, .null, .null, .null, .null, .null] ⟨Or.inl rfl, Or.inl rfl, Or.inl rfl, Or.inl rfl, Or.inl rfl, Or.inl rfl, trivial⟩ (kj17 _ (Eq.symm (if_neg c18)))
  · refine st_iload_n dX3_mostMissed_112 rfl rfl ?_
    refine st_goto dX3_mostMissed_113 118 (by decide) ?_
    exact st_sub [.null, .null, .null, .null, .null, .null] ⟨Or.inl rfl, Or.inl rfl, Or.inl rfl, Or.inl rfl, Or.inl rfl, Or.inl rfl, trivial⟩ (kj17 _ (Eq.symm (if_pos c18)))
def f_X7_missed (x1 : Int32) (x2 : Int32) (H : Hp) : Option (Int32 × Hp) :=
  (f_X7_isProject x1 H).bind fun v1 =>
  if v1 = 0 then
    some ((-1000001), H)
  else
    (f_X7_within x2 0 1).bind fun v2 =>
    if v2 = 0 then
      some ((-1000001), H)
    else
      (f_X3_mostMissed x1 x2 H).bind fun q3 =>
      some (q3.1, q3.2)
set_option maxHeartbeats 4000000 in
set_option maxRecDepth 100000 in
theorem k_X7_missed {D : Nat} (hD : 6 ≤ D) (x1 : Int32) (x2 : Int32) (H : Hp) (q : Int32 × Hp) (h : f_X7_missed x1 x2 H = some q) {post : Option Value → Hp → Prop} (hp : post (some (.int q.1)) q.2) : Sem D mdX7_missed [.ref 0, .int x1, .int x2] H post := by
  obtain ⟨D, rfl⟩ : ∃ E, D = E + 1 := ⟨D - 1, by omega⟩
  refine sem_of (own := RX7) rfl pn_RX7 (Nat.le_of_ble_eq_true rfl) [.ref 0, .int x1, .int x2] ⟨Or.inr rfl, Or.inr rfl, Or.inr rfl, trivial⟩ ?_
  unfold f_X7_missed at h
  refine st_aload_n dX7_missed_0 rfl rfl ?_
  refine st_iload_n dX7_missed_1 rfl rfl ?_
  obtain ⟨v1, e_v1, h⟩ := bnd h
  refine st_callV [.int x1] dX7_missed_2 co_X7_isProject im_X7_isProject se_X7_isProject ml_RX7_152 rfl (by decide) rfl (rfl : classes[7]? = some (RX7, TX7, 11)) rfl (S := []) rfl (Nat.le_of_ble_eq_true rfl) (k_X7_isProject (by omega) x1 H _ e_v1 ?_)
  show V (D + 1) RX7 mdX7_missed 5 [.ref 0, .int x1, .int x2] [.int v1] H post
  refine st_if_eq dX7_missed_5 17 (by decide) (fun c4 => ?_) (fun c4 => ?_)
  · replace h := (if_pos c4).symm.trans h
    refine st_ldc dX7_missed_17 cn_RX7_77 ?_
    obtain rfl := Option.some.inj h
    exact st_iret dX7_missed_19 rfl hp
  · replace h := (if_neg c4).symm.trans h
    refine st_iload_n dX7_missed_8 rfl rfl ?_
    refine st_iconst dX7_missed_9 (v := 0) rfl ?_
    refine st_iconst dX7_missed_10 (v := 1) rfl ?_
    obtain ⟨v2, e_v2, h⟩ := bnd h
    refine st_callS [.int x2, .int 0, .int 1] dX7_missed_11 co_X7_within sm_X7_within ml_RX7_73 rfl (S := []) rfl (Nat.le_of_ble_eq_true rfl) (k_X7_within (by omega) x2 0 1 H _ e_v2 ?_)
    show V (D + 1) RX7 mdX7_missed 14 [.ref 0, .int x1, .int x2] [.int v2] H post
    refine st_if_ne dX7_missed_14 20 (by decide) (fun c5 => ?_) (fun c5 => ?_)
    · replace h := (if_neg c5).symm.trans h
      refine st_aload_n dX7_missed_20 rfl rfl ?_
      refine gR7 dX7_missed_21 (by decide) rfl 7 (by decide) fl_RX7_56 rfl 49 rfl ?_
      refine st_iload_n dX7_missed_24 rfl rfl ?_
      refine st_iload_n dX7_missed_25 rfl rfl ?_
      obtain ⟨q3, e_q3, h⟩ := bnd h
      refine st_callV [.int x1, .int x2] dX7_missed_26 co_X3_mostMissed im_X3_mostMissed se_X3_mostMissed ml_RX7_255 rfl (by decide) rfl (rfl : classes[3]? = some (RX3, TX3, 5)) rfl (S := []) rfl (Nat.le_of_ble_eq_true rfl) (k_X3_mostMissed (by omega) x1 x2 H _ e_q3 ?_)
      show V (D + 1) RX7 mdX7_missed 29 [.ref 0, .int x1, .int x2] [.int q3.1] q3.2 post
      obtain rfl := Option.some.inj h
      exact st_iret dX7_missed_29 rfl hp
    · replace h := (if_pos c5).symm.trans h
      refine st_ldc dX7_missed_17 cn_RX7_77 ?_
      obtain rfl := Option.some.inj h
      exact st_iret dX7_missed_19 rfl hp
def f_X3_likestRing_l36 (H : Hp) (x5 : Int32) : Nat → Int32 → Int32 → Int32 → Int32 → Option (Int32 × Int32 × Int32)
  | 0, _, _, _, _ => none
  | n + 1, x2, x3, x4, x6 =>
    if 10 ≤ x6 then
      some (x2, x3, x4)
    else
      (f_X2_overlapOf x5 x6 H).bind fun v2 =>
      f_X3_likestRing_l36 H x5 n (if v2 ≤ x4 then x2 else x5) (if v2 ≤ x4 then x3 else x6) (if v2 ≤ x4 then x4 else v2) (x6 + 1)
def f_X3_likestRing_l23 (H : Hp) : Nat → Int32 → Int32 → Int32 → Int32 → Option (Int32 × Int32 × Int32)
  | 0, _, _, _, _ => none
  | n + 1, x2, x3, x4, x5 =>
    if 10 ≤ x5 then
      some (x2, x3, x4)
    else
      (f_X3_likestRing_l36 H x5 fuel x2 x3 x4 (x5 + 1)).bind fun l9 =>
      f_X3_likestRing_l23 H n l9.1 l9.2.1 l9.2.2 (x5 + 1)
def f_X3_likestRing (x1 : Int32) (H : Hp) : Option (Int32 × Hp) :=
  (f_X2_lay H).bind fun H1 =>
  (f_X3_likestRing_l23 H1 fuel (-1000000) (-1000000) 0 0).bind fun l11 =>
  if l11.2.2 = 0 then
    some ((-1000000), H1)
  else
    if x1 = 2 then
      some (l11.2.2, H1)
    else
      some ((if x1 = 0 then l11.1 else l11.2.1), H1)
set_option maxHeartbeats 4000000 in
set_option maxRecDepth 100000 in
theorem k_X3_likestRing_l36 {D : Nat} (hD : 2 ≤ (D + 1)) (H : Hp) (x5 : Int32) (x1 : Int32) {post : Option Value → Hp → Prop} : ∀ (n : Nat) (x2 : Int32) (x3 : Int32) (x4 : Int32) (x6 : Int32) (q : Int32 × Int32 × Int32), f_X3_likestRing_l36 H x5 n x2 x3 x4 x6 = some q → V (D + 1) RX3 mdX3_likestRing 79 [.ref 49, .int x1, .int q.1, .int q.2.1, .int q.2.2, .int x5, .null, .null] [] H post → V (D + 1) RX3 mdX3_likestRing 36 [.ref 49, .int x1, .int x2, .int x3, .int x4, .int x5, .int x6, .null] [] H post := by
  intro n
  induction n with
  | zero => intro x2 x3 x4 x6 q h; simp [f_X3_likestRing_l36] at h
  | succ n ih =>
    intro x2 x3 x4 x6 q h k1
    rw [f_X3_likestRing_l36] at h
    refine st_iload dX3_likestRing_36 rfl ?_
    refine st_bipush dX3_likestRing_38 (v := 10) (by decide) ?_
    refine st_ic_ge dX3_likestRing_40 79 (by decide) (fun c3 => ?_) (fun c3 => ?_)
    · replace h := (if_pos c3).symm.trans h
      obtain rfl := Option.some.inj h
      exact st_sub [.ref 49, .int x1, .int x2, .int x3, .int x4, .int x5, .null, .null] ⟨Or.inr rfl, Or.inr rfl, Or.inr rfl, Or.inr rfl, Or.inr rfl, Or.inr rfl, Or.inl rfl, Or.inl rfl, trivial⟩ k1
    · replace h := (if_neg c3).symm.trans h
      refine st_aload_n dX3_likestRing_43 rfl rfl ?_
      refine gR3 dX3_likestRing_44 (by decide) rfl 1 (by decide) fl_RX3_28 rfl 38 rfl ?_
      refine st_iload dX3_likestRing_47 rfl ?_
      refine st_iload dX3_likestRing_49 rfl ?_
      obtain ⟨v2, e_v2, h⟩ := bnd h
      refine st_callV [.int x5, .int x6] dX3_likestRing_51 co_X2_overlapOf im_X2_overlapOf se_X2_overlapOf ml_RX3_80 rfl (by decide) rfl (rfl : classes[2]? = some (RX2, TX2, 15)) rfl (S := []) rfl (Nat.le_of_ble_eq_true rfl) (k_X2_overlapOf (by omega) x5 x6 H _ e_v2 ?_)
      show V (D + 1) RX3 mdX3_likestRing 54 [.ref 49, .int x1, .int x2, .int x3, .int x4, .int x5, .int x6, .null] [.int v2] H post
      refine st_istore dX3_likestRing_54 (by decide) [.ref 49, .int x1, .int x2, .int x3, .int x4, .int x5, .int x6, .int v2] rfl ?_
      refine st_iload dX3_likestRing_56 rfl ?_
      refine st_iload dX3_likestRing_58 rfl ?_
      have kj7 : ∀ z4 : Int32, z4 = (if v2 ≤ x4 then x2 else x5) → ∀ z5 : Int32, z5 = (if v2 ≤ x4 then x3 else x6) → ∀ z6 : Int32, z6 = (if v2 ≤ x4 then x4 else v2) → V (D + 1) RX3 mdX3_likestRing 73 [.ref 49, .int x1, .int z4, .int z5, .int z6, .int x5, .int x6, .null] [] H post := by
        intro z4 ez4 z5 ez5 z6 ez6
        subst ez4
        subst ez5
        subst ez6
        refine st_iinc dX3_likestRing_73 rfl (v := (x6 + 1)) rfl (by decide) [.ref 49, .int x1, .int (if v2 ≤ x4 then x2 else x5), .int (if v2 ≤ x4 then x3 else x6), .int (if v2 ≤ x4 then x4 else v2), .int x5, .int (x6 + 1), .null] rfl ?_
        refine st_goto dX3_likestRing_76 36 (by decide) ?_
        exact ih (if v2 ≤ x4 then x2 else x5) (if v2 ≤ x4 then x3 else x6) (if v2 ≤ x4 then x4 else v2) (x6 + 1) q h k1
      refine st_ic_le dX3_likestRing_60 73 (by decide) (fun c8 => ?_) (fun c8 => ?_)
      · exact st_sub [.ref 49, .int x1, .int x2, .int x3, .int x4, .int x5, .int x6, .null] ⟨Or.inr rfl, Or.inr rfl, Or.inr rfl, Or.inr rfl, Or.inr rfl, Or.inr rfl, Or.inr rfl, Or.inl rfl, trivial⟩ (kj7 _ (Eq.symm (if_pos c8)) _ (Eq.symm (if_pos c8)) _ (Eq.symm (if_pos c8)))
      · refine st_iload dX3_likestRing_63 rfl ?_
        refine st_istore_n dX3_likestRing_65 rfl (by decide) [.ref 49, .int x1, .int x5, .int x3, .int x4, .int x5, .int x6, .int v2] rfl ?_
        refine st_iload dX3_likestRing_66 rfl ?_
        refine st_istore_n dX3_likestRing_68 rfl (by decide) [.ref 49, .int x1, .int x5, .int x6, .int x4, .int x5, .int x6, .int v2] rfl ?_
        refine st_iload dX3_likestRing_69 rfl ?_
        refine st_istore dX3_likestRing_71 (by decide) [.ref 49, .int x1, .int x5, .int x6, .int v2, .int x5, .int x6, .int v2] rfl ?_
        exact st_sub [.ref 49, .int x1, .int x5, .int x6, .int v2, .int x5, .int x6, .null] ⟨Or.inr rfl, Or.inr rfl, Or.inr rfl, Or.inr rfl, Or.inr rfl, Or.inr rfl, Or.inr rfl, Or.inl rfl, trivial⟩ (kj7 _ (Eq.symm (if_neg c8)) _ (Eq.symm (if_neg c8)) _ (Eq.symm (if_neg c8)))
set_option maxHeartbeats 4000000 in
set_option maxRecDepth 100000 in
theorem k_X3_likestRing_l23 {D : Nat} (hD : 2 ≤ (D + 1)) (H : Hp) (x1 : Int32) {post : Option Value → Hp → Prop} : ∀ (n : Nat) (x2 : Int32) (x3 : Int32) (x4 : Int32) (x5 : Int32) (q : Int32 × Int32 × Int32), f_X3_likestRing_l23 H n x2 x3 x4 x5 = some q → V (D + 1) RX3 mdX3_likestRing 85 [.null, .int x1, .int q.1, .int q.2.1, .int q.2.2, .null, .null, .null] [] H post → V (D + 1) RX3 mdX3_likestRing 23 [.ref 49, .int x1, .int x2, .int x3, .int x4, .int x5, .null, .null] [] H post := by
  intro n
  induction n with
  | zero => intro x2 x3 x4 x5 q h; simp [f_X3_likestRing_l23] at h
  | succ n ih =>
    intro x2 x3 x4 x5 q h k1
    rw [f_X3_likestRing_l23] at h
    refine st_iload dX3_likestRing_23 rfl ?_
    refine st_bipush dX3_likestRing_25 (v := 10) (by decide) ?_
    refine st_ic_ge dX3_likestRing_27 85 (by decide) (fun c10 => ?_) (fun c10 => ?_)
    · replace h := (if_pos c10).symm.trans h
      obtain rfl := Option.some.inj h
      exact st_sub [.null, .int x1, .int x2, .int x3, .int x4, .null, .null, .null] ⟨Or.inl rfl, Or.inr rfl, Or.inr rfl, Or.inr rfl, Or.inr rfl, Or.inl rfl, Or.inl rfl, Or.inl rfl, trivial⟩ k1
    · replace h := (if_neg c10).symm.trans h
      refine st_iload dX3_likestRing_30 rfl ?_
      refine st_iconst dX3_likestRing_32 (v := 1) rfl ?_
      refine st_iadd dX3_likestRing_33 ?_
      refine st_istore dX3_likestRing_34 (by decide) [.ref 49, .int x1, .int x2, .int x3, .int x4, .int x5, .int (x5 + 1), .null] rfl ?_
      obtain ⟨l9, e_l9, h⟩ := bnd h
      refine k_X3_likestRing_l36 (by omega) H x5 x1 fuel x2 x3 x4 (x5 + 1) _ e_l9 ?_
      refine st_iinc dX3_likestRing_79 rfl (v := (x5 + 1)) rfl (by decide) [.ref 49, .int x1, .int l9.1, .int l9.2.1, .int l9.2.2, .int (x5 + 1), .null, .null] rfl ?_
      refine st_goto dX3_likestRing_82 23 (by decide) ?_
      exact ih l9.1 l9.2.1 l9.2.2 (x5 + 1) q h k1
set_option maxHeartbeats 4000000 in
set_option maxRecDepth 100000 in
theorem k_X3_likestRing {D : Nat} (hD : 2 ≤ D) (x1 : Int32) (H : Hp) (q : Int32 × Hp) (h : f_X3_likestRing x1 H = some q) {post : Option Value → Hp → Prop} (hp : post (some (.int q.1)) q.2) : Sem D mdX3_likestRing [.ref 49, .int x1] H post := by
  obtain ⟨D, rfl⟩ : ∃ E, D = E + 1 := ⟨D - 1, by omega⟩
  refine sem_of (own := RX3) rfl pn_RX3 (Nat.le_of_ble_eq_true rfl) [.ref 49, .int x1, .null, .null, .null, .null, .null, .null] ⟨Or.inr rfl, Or.inr rfl, rfl, rfl, rfl, rfl, rfl, rfl, trivial⟩ ?_
  unfold f_X3_likestRing at h
  refine st_ldc dX3_likestRing_0 cn_RX3_65 ?_
  refine st_istore_n dX3_likestRing_2 rfl (by decide) [.ref 49, .int x1, .int (-1000000), .null, .null, .null, .null, .null] rfl ?_
  refine st_ldc dX3_likestRing_3 cn_RX3_65 ?_
  refine st_istore_n dX3_likestRing_5 rfl (by decide) [.ref 49, .int x1, .int (-1000000), .int (-1000000), .null, .null, .null, .null] rfl ?_
  refine st_iconst dX3_likestRing_6 (v := 0) rfl ?_
  refine st_istore dX3_likestRing_7 (by decide) [.ref 49, .int x1, .int (-1000000), .int (-1000000), .int 0, .null, .null, .null] rfl ?_
  refine st_aload_n dX3_likestRing_9 rfl rfl ?_
  refine gR3 dX3_likestRing_10 (by decide) rfl 1 (by decide) fl_RX3_28 rfl 38 rfl ?_
  refine st_aload_n dX3_likestRing_13 rfl rfl ?_
  refine gR3 dX3_likestRing_14 (by decide) rfl 0 (by decide) fl_RX3_25 rfl 7 rfl ?_
  obtain ⟨H1, e_H1, h⟩ := bnd h
  refine st_callV [.ref 7] dX3_likestRing_17 co_X2_lay im_X2_lay se_X2_lay ml_RX3_77 rfl (by decide) rfl (rfl : classes[2]? = some (RX2, TX2, 15)) rfl (S := []) rfl (Nat.le_of_ble_eq_true rfl) (k_X2_lay (by omega) H _ e_H1 ?_)
  show V (D + 1) RX3 mdX3_likestRing 20 [.ref 49, .int x1, .int (-1000000), .int (-1000000), .int 0, .null, .null, .null] [] H1 post
  refine st_iconst dX3_likestRing_20 (v := 0) rfl ?_
  refine st_istore dX3_likestRing_21 (by decide) [.ref 49, .int x1, .int (-1000000), .int (-1000000), .int 0, .int 0, .null, .null] rfl ?_
  obtain ⟨l11, e_l11, h⟩ := bnd h
  refine k_X3_likestRing_l23 (by omega) H1 x1 fuel (-1000000) (-1000000) 0 0 _ e_l11 ?_
  refine st_iload dX3_likestRing_85 rfl ?_
  refine st_if_ne dX3_likestRing_87 93 (by decide) (fun c12 => ?_) (fun c12 => ?_)
  · replace h := (if_neg c12).symm.trans h
    refine st_iload_n dX3_likestRing_93 rfl rfl ?_
    refine st_iconst dX3_likestRing_94 (v := 2) rfl ?_
    refine st_ic_ne dX3_likestRing_95 101 (by decide) (fun c13 => ?_) (fun c13 => ?_)
    · replace h := (if_neg c13).symm.trans h
      refine st_iload_n dX3_likestRing_101 rfl rfl ?_
      have kj15 : ∀ z14 : Int32, z14 = (if x1 = 0 then l11.1 else l11.2.1) → V (D + 1) RX3 mdX3_likestRing 110 [.null, .null, .null, .null, .null, .null, .null, .null] [.int z14] H1 post := by
        intro z14 ez14
        subst ez14
        obtain rfl := Option.some.inj h
        exact st_iret dX3_likestRing_110 rfl hp
      refine st_if_ne dX3_likestRing_102 109 (by decide) (fun c16 => ?_) (fun c16 => ?_)
      · refine st_iload_n dX3_likestRing_109 rfl rfl ?_
        exact st_sub [.null, .null, .null, .null, .null, .null, .null, .null] ⟨Or.inl rfl, Or.inl rfl, Or.inl rfl, Or.inl rfl, Or.inl rfl, Or.inl rfl, Or.inl rfl, Or.inl rfl, trivial⟩ (kj15 _ (Eq.symm (if_neg c16)))
      · refine st_iload_n dX3_likestRing_105 rfl rfl ?_
        refine st_goto dX3_likestRing_106 110 (by decide) ?_
        exact st_sub [.null, .null, .null, .null, .null, .null, .null, .null] ⟨Or.inl rfl, Or.inl rfl, Or.inl rfl, Or.inl rfl, Or.inl rfl, Or.inl rfl, Or.inl rfl, Or.inl rfl, trivial⟩ (kj15 _ (Eq.symm (if_pos c16)))
    · replace h := (if_pos c13).symm.trans h
      refine st_iload dX3_likestRing_98 rfl ?_
      obtain rfl := Option.some.inj h
      exact st_iret dX3_likestRing_100 rfl hp
  · replace h := (if_pos c12).symm.trans h
    refine st_ldc dX3_likestRing_90 cn_RX3_65 ?_
    obtain rfl := Option.some.inj h
    exact st_iret dX3_likestRing_92 rfl hp
def f_X7_ring (x1 : Int32) (H : Hp) : Option (Int32 × Hp) :=
  if (H 7 0) = 0 then
    some ((-1000002), H)
  else
    (f_X7_within x1 0 2).bind fun v1 =>
    Option.bind (
      if v1 = 0 then
        some ((-1000001), H)
      else
        (f_X3_likestRing x1 H).bind fun q2 =>
        some (q2.1, q2.2)) fun j3 =>
    some (j3.1, j3.2)
set_option maxHeartbeats 4000000 in
set_option maxRecDepth 100000 in
theorem k_X7_ring {D : Nat} (hD : 3 ≤ D) (x1 : Int32) (H : Hp) (q : Int32 × Hp) (h : f_X7_ring x1 H = some q) {post : Option Value → Hp → Prop} (hp : post (some (.int q.1)) q.2) : Sem D mdX7_ring [.ref 0, .int x1] H post := by
  obtain ⟨D, rfl⟩ : ∃ E, D = E + 1 := ⟨D - 1, by omega⟩
  refine sem_of (own := RX7) rfl pn_RX7 (Nat.le_of_ble_eq_true rfl) [.ref 0, .int x1] ⟨Or.inr rfl, Or.inr rfl, trivial⟩ ?_
  unfold f_X7_ring at h
  refine st_aload_n dX7_ring_0 rfl rfl ?_
  refine gR7 dX7_ring_1 (by decide) rfl 2 (by decide) fl_RX7_26 rfl 7 rfl ?_
  refine gI4 dX7_ring_4 (by decide) rfl 0 (by decide) fl_RX7_181 rfl rfl ?_
  refine st_if_ne dX7_ring_7 13 (by decide) (fun c4 => ?_) (fun c4 => ?_)
  · replace h := (if_neg c4).symm.trans h
    refine st_iload_n dX7_ring_13 rfl rfl ?_
    refine st_iconst dX7_ring_14 (v := 0) rfl ?_
    refine st_iconst dX7_ring_15 (v := 2) rfl ?_
    obtain ⟨v1, e_v1, h⟩ := bnd h
    refine st_callS [.int x1, .int 0, .int 2] dX7_ring_16 co_X7_within sm_X7_within ml_RX7_73 rfl (S := []) rfl (Nat.le_of_ble_eq_true rfl) (k_X7_within (by omega) x1 0 2 H _ e_v1 ?_)
    show V (D + 1) RX7 mdX7_ring 19 [.ref 0, .int x1] [.int v1] H post
    obtain ⟨j3, e_j3, h⟩ := bnd h
    have kj5 : V (D + 1) RX7 mdX7_ring 35 [.null, .null] [.int j3.1] j3.2 post := by
      obtain rfl := Option.some.inj h
      exact st_iret dX7_ring_35 rfl hp
    refine st_if_eq dX7_ring_19 33 (by decide) (fun c6 => ?_) (fun c6 => ?_)
    · replace e_j3 := (if_pos c6).symm.trans e_j3
      refine st_ldc dX7_ring_33 cn_RX7_77 ?_
      obtain rfl := Option.some.inj e_j3
      exact st_sub [.null, .null] ⟨Or.inl rfl, Or.inl rfl, trivial⟩ kj5
    · replace e_j3 := (if_neg c6).symm.trans e_j3
      refine st_aload_n dX7_ring_22 rfl rfl ?_
      refine gR7 dX7_ring_23 (by decide) rfl 7 (by decide) fl_RX7_56 rfl 49 rfl ?_
      refine st_iload_n dX7_ring_26 rfl rfl ?_
      obtain ⟨q2, e_q2, e_j3⟩ := bnd e_j3
      refine st_callV [.int x1] dX7_ring_27 co_X3_likestRing im_X3_likestRing se_X3_likestRing ml_RX7_258 rfl (by decide) rfl (rfl : classes[3]? = some (RX3, TX3, 5)) rfl (S := []) rfl (Nat.le_of_ble_eq_true rfl) (k_X3_likestRing (by omega) x1 H _ e_q2 ?_)
      show V (D + 1) RX7 mdX7_ring 30 [.ref 0, .int x1] [.int q2.1] q2.2 post
      refine st_goto dX7_ring_30 35 (by decide) ?_
      obtain rfl := Option.some.inj e_j3
      exact st_sub [.null, .null] ⟨Or.inl rfl, Or.inl rfl, trivial⟩ kj5
  · replace h := (if_pos c4).symm.trans h
    refine st_ldc dX7_ring_10 cn_RX7_145 ?_
    obtain rfl := Option.some.inj h
    exact st_iret dX7_ring_12 rfl hp
def f_X3_bestHalves_l43 (x2 : Int32) (x3 : Int32) (x4 : Int32) (x6 : Int32) : Nat → Int32 → Int32 → Int32 → Hp → Option (Int32 × Int32 × Hp)
  | 0, _, _, _, _ => none
  | n + 1, x7, x8, x9, H =>
    if x2 < x9 then
      some (x7, x8, H)
    else
      (f_X2_settle H).bind fun H4 =>
      (ag H4 48 6 x3).bind fun v5 =>
      Option.bind (
        if x3 = x4 then
          some 0
        else
          (ag H4 48 6 x4).bind fun v6 =>
          some v6) fun j7 =>
      Option.bind (
        if x2 ≤ x9 then
          some H4
        else
          (f_X2_add x6 x3 1 H4).bind fun H8 =>
          (f_X2_add x6 x4 (-1) H8).bind fun H9 =>
          some H9) fun j10 =>
      f_X3_bestHalves_l43 x2 x3 x4 x6 n (if x9 = 0 then x9 else (if (v5 + j7) ≤ x8 then x7 else x9)) (if x9 = 0 then (v5 + j7) else (if (v5 + j7) ≤ x8 then x8 else (v5 + j7))) (x9 + 1) j10
def f_X3_bestHalves (x1 : Int32) (x2 : Int32) (x3 : Int32) (x4 : Int32) (x5 : Int32) (H : Hp) : Option (Int32 × Hp) :=
  (ag H 9 10 x1).bind fun v1 =>
  (f_X2_load H).bind fun H2 =>
  (f_X2_add v1 x4 x2 H2).bind fun H3 =>
  (f_X3_bestHalves_l43 x2 x3 x4 v1 fuel 0 0 0 H3).bind fun l21 =>
  some ((if x5 = 0 then l21.1 else l21.2.1), l21.2.2)
set_option maxHeartbeats 4000000 in
set_option maxRecDepth 100000 in
theorem k_X3_bestHalves_l43 {D : Nat} (hD : 5 ≤ (D + 1)) (x2 : Int32) (x3 : Int32) (x4 : Int32) (x6 : Int32) (x5 : Int32) {post : Option Value → Hp → Prop} : ∀ (n : Nat) (x7 : Int32) (x8 : Int32) (x9 : Int32) (H : Hp) (q : Int32 × Int32 × Hp), f_X3_bestHalves_l43 x2 x3 x4 x6 n x7 x8 x9 H = some q → V (D + 1) RX3 mdX3_bestHalves 143 [.null, .null, .null, .null, .null, .int x5, .null, .int q.1, .int q.2.1, .null, .null] [] q.2.2 post → V (D + 1) RX3 mdX3_bestHalves 43 [.ref 49, .null, .int x2, .int x3, .int x4, .int x5, .int x6, .int x7, .int x8, .int x9, .null] [] H post := by
  intro n
  induction n with
  | zero => intro x7 x8 x9 H q h; simp [f_X3_bestHalves_l43] at h
  | succ n ih =>
    intro x7 x8 x9 H q h k1
    rw [f_X3_bestHalves_l43] at h
    refine st_iload dX3_bestHalves_43 rfl ?_
    refine st_iload_n dX3_bestHalves_45 rfl rfl ?_
    refine st_ic_gt dX3_bestHalves_46 143 (by decide) (fun c11 => ?_) (fun c11 => ?_)
    · replace h := (if_pos c11).symm.trans h
      obtain rfl := Option.some.inj h
      exact st_sub [.null, .null, .null, .null, .null, .int x5, .null, .int x7, .int x8, .null, .null] ⟨Or.inl rfl, Or.inl rfl, Or.inl rfl, Or.inl rfl, Or.inl rfl, Or.inr rfl, Or.inl rfl, Or.inr rfl, Or.inr rfl, Or.inl rfl, Or.inl rfl, trivial⟩ k1
    · replace h := (if_neg c11).symm.trans h
      refine st_aload_n dX3_bestHalves_49 rfl rfl ?_
      refine gR3 dX3_bestHalves_50 (by decide) rfl 1 (by decide) fl_RX3_28 rfl 38 rfl ?_
      obtain ⟨H4, e_H4, h⟩ := bnd h
      refine st_callV [] dX3_bestHalves_53 co_X2_settle im_X2_settle se_X2_settle ml_RX3_45 rfl (by decide) rfl (rfl : classes[2]? = some (RX2, TX2, 15)) rfl (S := []) rfl (Nat.le_of_ble_eq_true rfl) (k_X2_settle (by omega) H _ e_H4 ?_)
      show V (D + 1) RX3 mdX3_bestHalves 56 [.ref 49, .null, .int x2, .int x3, .int x4, .int x5, .int x6, .int x7, .int x8, .int x9, .null] [] H4 post
      refine st_aload_n dX3_bestHalves_56 rfl rfl ?_
      refine gR3 dX3_bestHalves_57 (by decide) rfl 1 (by decide) fl_RX3_28 rfl 38 rfl ?_
      refine gR2 dX3_bestHalves_60 (by decide) rfl 9 (by decide) fl_RX3_48 rfl 48 rfl ?_
      refine st_iload_n dX3_bestHalves_63 rfl rfl ?_
      obtain ⟨v5, e_v5, h⟩ := bnd h
      refine st_iald dX3_bestHalves_64 (by decide) rfl v5 e_v5 ?_
      refine st_iload_n dX3_bestHalves_65 rfl rfl ?_
      refine st_iload dX3_bestHalves_66 rfl ?_
      obtain ⟨j7, e_j7, h⟩ := bnd h
      have kj12 : V (D + 1) RX3 mdX3_bestHalves 85 [.ref 49, .null, .int x2, .int x3, .int x4, .int x5, .int x6, .int x7, .int x8, .int x9, .null] [.int j7, .int v5] H4 post := by
        refine st_iadd dX3_bestHalves_85 ?_
        refine st_istore dX3_bestHalves_86 (by decide) [.ref 49, .null, .int x2, .int x3, .int x4, .int x5, .int x6, .int x7, .int x8, .int x9, .int (v5 + j7)] rfl ?_
        refine st_iload dX3_bestHalves_88 rfl ?_
        have kj15 : ∀ z13 : Int32, z13 = (if x9 = 0 then x9 else (if (v5 + j7) ≤ x8 then x7 else x9)) → ∀ z14 : Int32, z14 = (if x9 = 0 then (v5 + j7) else (if (v5 + j7) ≤ x8 then x8 else (v5 + j7))) → V (D + 1) RX3 mdX3_bestHalves 108 [.ref 49, .null, .int x2, .int x3, .int x4, .int x5, .int x6, .int z13, .int z14, .int x9, .null] [] H4 post := by
          intro z13 ez13 z14 ez14
          subst ez13
          subst ez14
          refine st_iload dX3_bestHalves_108 rfl ?_
          refine st_iload_n dX3_bestHalves_110 rfl rfl ?_
          obtain ⟨j10, e_j10, h⟩ := bnd h
          have kj16 : V (D + 1) RX3 mdX3_bestHalves 137 [.ref 49, .null, .int x2, .int x3, .int x4, .int x5, .int x6, .int (if x9 = 0 then x9 else (if (v5 + j7) ≤ x8 then x7 else x9)), .int (if x9 = 0 then (v5 + j7) else (if (v5 + j7) ≤ x8 then x8 else (v5 + j7))), .int x9, .null] [] j10 post := by
            refine st_iinc dX3_bestHalves_137 rfl (v := (x9 + 1)) rfl (by decide) [.ref 49, .null, .int x2, .int x3, .int x4, .int x5, .int x6, .int (if x9 = 0 then x9 else (if (v5 + j7) ≤ x8 then x7 else x9)), .int (if x9 = 0 then (v5 + j7) else (if (v5 + j7) ≤ x8 then x8 else (v5 + j7))), .int (x9 + 1), .null] rfl ?_
            refine st_goto dX3_bestHalves_140 43 (by decide) ?_
            exact ih (if x9 = 0 then x9 else (if (v5 + j7) ≤ x8 then x7 else x9)) (if x9 = 0 then (v5 + j7) else (if (v5 + j7) ≤ x8 then x8 else (v5 + j7))) (x9 + 1) j10 q h k1
          refine st_ic_ge dX3_bestHalves_111 137 (by decide) (fun c17 => ?_) (fun c17 => ?_)
          · replace e_j10 := (if_pos c17).symm.trans e_j10
            obtain rfl := Option.some.inj e_j10
            exact kj16
          · replace e_j10 := (if_neg c17).symm.trans e_j10
            refine st_aload_n dX3_bestHalves_114 rfl rfl ?_
            refine gR3 dX3_bestHalves_115 (by decide) rfl 1 (by decide) fl_RX3_28 rfl 38 rfl ?_
            refine st_iload dX3_bestHalves_118 rfl ?_
            refine st_iload_n dX3_bestHalves_120 rfl rfl ?_
            refine st_iconst dX3_bestHalves_121 (v := 1) rfl ?_
            obtain ⟨H8, e_H8, e_j10⟩ := bnd e_j10
            refine st_callV [.int x6, .int x3, .int 1] dX3_bestHalves_122 co_X2_add im_X2_add se_X2_add ml_RX3_41 rfl (by decide) rfl (rfl : classes[2]? = some (RX2, TX2, 15)) rfl (S := []) rfl (Nat.le_of_ble_eq_true rfl) (k_X2_add (by omega) x6 x3 1 H4 _ e_H8 ?_)
            show V (D + 1) RX3 mdX3_bestHalves 125 [.ref 49, .null, .int x2, .int x3, .int x4, .int x5, .int x6, .int (if x9 = 0 then x9 else (if (v5 + j7) ≤ x8 then x7 else x9)), .int (if x9 = 0 then (v5 + j7) else (if (v5 + j7) ≤ x8 then x8 else (v5 + j7))), .int x9, .null] [] H8 post
            refine st_aload_n dX3_bestHalves_125 rfl rfl ?_
            refine gR3 dX3_bestHalves_126 (by decide) rfl 1 (by decide) fl_RX3_28 rfl 38 rfl ?_
            refine st_iload dX3_bestHalves_129 rfl ?_
            refine st_iload dX3_bestHalves_131 rfl ?_
            refine st_iconst dX3_bestHalves_133 (v := (-1)) rfl ?_
            obtain ⟨H9, e_H9, e_j10⟩ := bnd e_j10
            refine st_callV [.int x6, .int x4, .int (-1)] dX3_bestHalves_134 co_X2_add im_X2_add se_X2_add ml_RX3_41 rfl (by decide) rfl (rfl : classes[2]? = some (RX2, TX2, 15)) rfl (S := []) rfl (Nat.le_of_ble_eq_true rfl) (k_X2_add (by omega) x6 x4 (-1) H8 _ e_H9 ?_)
            show V (D + 1) RX3 mdX3_bestHalves 137 [.ref 49, .null, .int x2, .int x3, .int x4, .int x5, .int x6, .int (if x9 = 0 then x9 else (if (v5 + j7) ≤ x8 then x7 else x9)), .int (if x9 = 0 then (v5 + j7) else (if (v5 + j7) ≤ x8 then x8 else (v5 + j7))), .int x9, .null] [] H9 post
            obtain rfl := Option.some.inj e_j10
            exact kj16
        refine st_if_eq dX3_bestHalves_90 100 (by decide) (fun c18 => ?_) (fun c18 => ?_)
        · refine st_iload dX3_bestHalves_100 rfl ?_
          refine st_istore dX3_bestHalves_102 (by decide) [.ref 49, .null, .int x2, .int x3, .int x4, .int x5, .int x6, .int x9, .int x8, .int x9, .int (v5 + j7)] rfl ?_
          refine st_iload dX3_bestHalves_104 rfl ?_
          refine st_istore dX3_bestHalves_106 (by decide) [.ref 49, .null, .int x2, .int x3, .int x4, .int x5, .int x6, .int x9, .int (v5 + j7), .int x9, .int (v5 + j7)] rfl ?_
          exact st_sub [.ref 49, .null, .int x2, .int x3, .int x4, .int x5, .int x6, .int x9, .int (v5 + j7), .int x9, .null] ⟨Or.inr rfl, Or.inl rfl, Or.inr rfl, Or.inr rfl, Or.inr rfl, Or.inr rfl, Or.inr rfl, Or.inr rfl, Or.inr rfl, Or.inr rfl, Or.inl rfl, trivial⟩ (kj15 _ (Eq.symm (if_pos c18)) _ (Eq.symm (if_pos c18)))
        · refine st_iload dX3_bestHalves_93 rfl ?_
          refine st_iload dX3_bestHalves_95 rfl ?_
          refine st_ic_le dX3_bestHalves_97 108 (by decide) (fun c19 => ?_) (fun c19 => ?_)
          · exact st_sub [.ref 49, .null, .int x2, .int x3, .int x4, .int x5, .int x6, .int x7, .int x8, .int x9, .null] ⟨Or.inr rfl, Or.inl rfl, Or.inr rfl, Or.inr rfl, Or.inr rfl, Or.inr rfl, Or.inr rfl, Or.inr rfl, Or.inr rfl, Or.inr rfl, Or.inl rfl, trivial⟩ (kj15 _ (Eq.symm ((if_neg c18).trans (if_pos c19))) _ (Eq.symm ((if_neg c18).trans (if_pos c19))))
          · refine st_iload dX3_bestHalves_100 rfl ?_
            refine st_istore dX3_bestHalves_102 (by decide) [.ref 49, .null, .int x2, .int x3, .int x4, .int x5, .int x6, .int x9, .int x8, .int x9, .int (v5 + j7)] rfl ?_
            refine st_iload dX3_bestHalves_104 rfl ?_
            refine st_istore dX3_bestHalves_106 (by decide) [.ref 49, .null, .int x2, .int x3, .int x4, .int x5, .int x6, .int x9, .int (v5 + j7), .int x9, .int (v5 + j7)] rfl ?_
            exact st_sub [.ref 49, .null, .int x2, .int x3, .int x4, .int x5, .int x6, .int x9, .int (v5 + j7), .int x9, .null] ⟨Or.inr rfl, Or.inl rfl, Or.inr rfl, Or.inr rfl, Or.inr rfl, Or.inr rfl, Or.inr rfl, Or.inr rfl, Or.inr rfl, Or.inr rfl, Or.inl rfl, trivial⟩ (kj15 _ (Eq.symm ((if_neg c18).trans (if_neg c19))) _ (Eq.symm ((if_neg c18).trans (if_neg c19))))
      refine st_ic_ne dX3_bestHalves_68 75 (by decide) (fun c20 => ?_) (fun c20 => ?_)
      · replace e_j7 := (if_neg c20).symm.trans e_j7
        refine st_aload_n dX3_bestHalves_75 rfl rfl ?_
        refine gR3 dX3_bestHalves_76 (by decide) rfl 1 (by decide) fl_RX3_28 rfl 38 rfl ?_
        refine gR2 dX3_bestHalves_79 (by decide) rfl 9 (by decide) fl_RX3_48 rfl 48 rfl ?_
        refine st_iload dX3_bestHalves_82 rfl ?_
        obtain ⟨v6, e_v6, e_j7⟩ := bnd e_j7
        refine st_iald dX3_bestHalves_84 (by decide) rfl v6 e_v6 ?_
        obtain rfl := Option.some.inj e_j7
        exact kj12
      · replace e_j7 := (if_pos c20).symm.trans e_j7
        refine st_iconst dX3_bestHalves_71 (v := 0) rfl ?_
        refine st_goto dX3_bestHalves_72 85 (by decide) ?_
        obtain rfl := Option.some.inj e_j7
        exact kj12
set_option maxHeartbeats 4000000 in
set_option maxRecDepth 100000 in
theorem k_X3_bestHalves {D : Nat} (hD : 5 ≤ D) (x1 : Int32) (x2 : Int32) (x3 : Int32) (x4 : Int32) (x5 : Int32) (H : Hp) (q : Int32 × Hp) (h : f_X3_bestHalves x1 x2 x3 x4 x5 H = some q) {post : Option Value → Hp → Prop} (hp : post (some (.int q.1)) q.2) : Sem D mdX3_bestHalves [.ref 49, .int x1, .int x2, .int x3, .int x4, .int x5] H post := by
  obtain ⟨D, rfl⟩ : ∃ E, D = E + 1 := ⟨D - 1, by omega⟩
  refine sem_of (own := RX3) rfl pn_RX3 (Nat.le_of_ble_eq_true rfl) [.ref 49, .int x1, .int x2, .int x3, .int x4, .int x5, .null, .null, .null, .null, .null] ⟨Or.inr rfl, Or.inr rfl, Or.inr rfl, Or.inr rfl, Or.inr rfl, Or.inr rfl, rfl, rfl, rfl, rfl, rfl, trivial⟩ ?_
  unfold f_X3_bestHalves at h
  refine st_aload_n dX3_bestHalves_0 rfl rfl ?_
  refine gR3 dX3_bestHalves_1 (by decide) rfl 0 (by decide) fl_RX3_25 rfl 7 rfl ?_
  refine gR4 dX3_bestHalves_4 (by decide) rfl 6 (by decide) fl_RX3_38 rfl 9 rfl ?_
  refine st_iload_n dX3_bestHalves_7 rfl rfl ?_
  obtain ⟨v1, e_v1, h⟩ := bnd h
  refine st_iald dX3_bestHalves_8 (by decide) rfl v1 e_v1 ?_
  refine st_istore dX3_bestHalves_9 (by decide) [.ref 49, .int x1, .int x2, .int x3, .int x4, .int x5, .int v1, .null, .null, .null, .null] rfl ?_
  refine st_iconst dX3_bestHalves_11 (v := 0) rfl ?_
  refine st_istore dX3_bestHalves_12 (by decide) [.ref 49, .int x1, .int x2, .int x3, .int x4, .int x5, .int v1, .int 0, .null, .null, .null] rfl ?_
  refine st_iconst dX3_bestHalves_14 (v := 0) rfl ?_
  refine st_istore dX3_bestHalves_15 (by decide) [.ref 49, .int x1, .int x2, .int x3, .int x4, .int x5, .int v1, .int 0, .int 0, .null, .null] rfl ?_
  refine st_aload_n dX3_bestHalves_17 rfl rfl ?_
  refine gR3 dX3_bestHalves_18 (by decide) rfl 1 (by decide) fl_RX3_28 rfl 38 rfl ?_
  refine st_aload_n dX3_bestHalves_21 rfl rfl ?_
  refine gR3 dX3_bestHalves_22 (by decide) rfl 0 (by decide) fl_RX3_25 rfl 7 rfl ?_
  obtain ⟨H2, e_H2, h⟩ := bnd h
  refine st_callV [.ref 7] dX3_bestHalves_25 co_X2_load im_X2_load se_X2_load ml_RX3_32 rfl (by decide) rfl (rfl : classes[2]? = some (RX2, TX2, 15)) rfl (S := []) rfl (Nat.le_of_ble_eq_true rfl) (k_X2_load (by omega) H _ e_H2 ?_)
  show V (D + 1) RX3 mdX3_bestHalves 28 [.ref 49, .int x1, .int x2, .int x3, .int x4, .int x5, .int v1, .int 0, .int 0, .null, .null] [] H2 post
  refine st_aload_n dX3_bestHalves_28 rfl rfl ?_
  refine gR3 dX3_bestHalves_29 (by decide) rfl 1 (by decide) fl_RX3_28 rfl 38 rfl ?_
  refine st_iload dX3_bestHalves_32 rfl ?_
  refine st_iload dX3_bestHalves_34 rfl ?_
  refine st_iload_n dX3_bestHalves_36 rfl rfl ?_
  obtain ⟨H3, e_H3, h⟩ := bnd h
  refine st_callV [.int v1, .int x4, .int x2] dX3_bestHalves_37 co_X2_add im_X2_add se_X2_add ml_RX3_41 rfl (by decide) rfl (rfl : classes[2]? = some (RX2, TX2, 15)) rfl (S := []) rfl (Nat.le_of_ble_eq_true rfl) (k_X2_add (by omega) v1 x4 x2 H2 _ e_H3 ?_)
  show V (D + 1) RX3 mdX3_bestHalves 40 [.ref 49, .int x1, .int x2, .int x3, .int x4, .int x5, .int v1, .int 0, .int 0, .null, .null] [] H3 post
  refine st_iconst dX3_bestHalves_40 (v := 0) rfl ?_
  refine st_istore dX3_bestHalves_41 (by decide) [.ref 49, .int x1, .int x2, .int x3, .int x4, .int x5, .int v1, .int 0, .int 0, .int 0, .null] rfl ?_
  refine st_sub [.ref 49, .null, .int x2, .int x3, .int x4, .int x5, .int v1, .int 0, .int 0, .int 0, .null] ⟨Or.inr rfl, Or.inl rfl, Or.inr rfl, Or.inr rfl, Or.inr rfl, Or.inr rfl, Or.inr rfl, Or.inr rfl, Or.inr rfl, Or.inr rfl, Or.inl rfl, trivial⟩ ?_
  obtain ⟨l21, e_l21, h⟩ := bnd h
  refine k_X3_bestHalves_l43 (by omega) x2 x3 x4 v1 x5 fuel 0 0 0 H3 _ e_l21 ?_
  refine st_iload dX3_bestHalves_143 rfl ?_
  have kj23 : ∀ z22 : Int32, z22 = (if x5 = 0 then l21.1 else l21.2.1) → V (D + 1) RX3 mdX3_bestHalves 155 [.null, .null, .null, .null, .null, .null, .null, .null, .null, .null, .null] [.int z22] l21.2.2 post := by
    intro z22 ez22
    subst ez22
    obtain rfl := Option.some.inj h
    exact st_iret dX3_bestHalves_155 rfl hp
  refine st_if_ne dX3_bestHalves_145 153 (by decide) (fun c24 => ?_) (fun c24 => ?_)
  · refine st_iload dX3_bestHalves_153 rfl ?_
    exact st_sub [.null, .null, .null, .null, .null, .null, .null, .null, .null, .null, .null] ⟨Or.inl rfl, Or.inl rfl, Or.inl rfl, Or.inl rfl, Or.inl rfl, Or.inl rfl, Or.inl rfl, Or.inl rfl, Or.inl rfl, Or.inl rfl, Or.inl rfl, trivial⟩ (kj23 _ (Eq.symm (if_neg c24)))
  · refine st_iload dX3_bestHalves_148 rfl ?_
    refine st_goto dX3_bestHalves_150 155 (by decide) ?_
    exact st_sub [.null, .null, .null, .null, .null, .null, .null, .null, .null, .null, .null] ⟨Or.inl rfl, Or.inl rfl, Or.inl rfl, Or.inl rfl, Or.inl rfl, Or.inl rfl, Or.inl rfl, Or.inl rfl, Or.inl rfl, Or.inl rfl, Or.inl rfl, trivial⟩ (kj23 _ (Eq.symm (if_pos c24)))
def f_X7_halves (x1 : Int32) (x2 : Int32) (x3 : Int32) (x4 : Int32) (x5 : Int32) (H : Hp) : Option (Int32 × Hp) :=
  (f_X7_isGiver x1).bind fun v1 =>
  if v1 = 0 then
    some ((-1000001), H)
  else
    (f_X7_within x2 1 40).bind fun v2 =>
    if v2 = 0 then
      some ((-1000001), H)
    else
      (f_X7_isProject x3 H).bind fun v3 =>
      if v3 = 0 then
        some ((-1000001), H)
      else
        (f_X7_isProject x4 H).bind fun v4 =>
        if v4 = 0 then
          some ((-1000001), H)
        else
          (f_X7_within x5 0 1).bind fun v5 =>
          if v5 = 0 then
            some ((-1000001), H)
          else
            if (H 7 4) ≤ 18 then
              (f_X3_bestHalves x1 x2 x3 x4 x5 H).bind fun q6 =>
              some (q6.1, q6.2)
            else
              some ((-1000003), H)
set_option maxHeartbeats 4000000 in
set_option maxRecDepth 100000 in
theorem k_X7_halves {D : Nat} (hD : 6 ≤ D) (x1 : Int32) (x2 : Int32) (x3 : Int32) (x4 : Int32) (x5 : Int32) (H : Hp) (q : Int32 × Hp) (h : f_X7_halves x1 x2 x3 x4 x5 H = some q) {post : Option Value → Hp → Prop} (hp : post (some (.int q.1)) q.2) : Sem D mdX7_halves [.ref 0, .int x1, .int x2, .int x3, .int x4, .int x5] H post := by
  obtain ⟨D, rfl⟩ : ∃ E, D = E + 1 := ⟨D - 1, by omega⟩
  refine sem_of (own := RX7) rfl pn_RX7 (Nat.le_of_ble_eq_true rfl) [.ref 0, .int x1, .int x2, .int x3, .int x4, .int x5] ⟨Or.inr rfl, Or.inr rfl, Or.inr rfl, Or.inr rfl, Or.inr rfl, Or.inr rfl, trivial⟩ ?_
  unfold f_X7_halves at h
  refine st_iload_n dX7_halves_0 rfl rfl ?_
  obtain ⟨v1, e_v1, h⟩ := bnd h
  refine st_callS [.int x1] dX7_halves_1 co_X7_isGiver sm_X7_isGiver ml_RX7_149 rfl (S := []) rfl (Nat.le_of_ble_eq_true rfl) (k_X7_isGiver (by omega) x1 H _ e_v1 ?_)
  show V (D + 1) RX7 mdX7_halves 4 [.ref 0, .int x1, .int x2, .int x3, .int x4, .int x5] [.int v1] H post
  refine st_if_eq dX7_halves_4 44 (by decide) (fun c7 => ?_) (fun c7 => ?_)
  · replace h := (if_pos c7).symm.trans h
    refine st_ldc dX7_halves_44 cn_RX7_77 ?_
    obtain rfl := Option.some.inj h
    exact st_iret dX7_halves_46 rfl hp
  · replace h := (if_neg c7).symm.trans h
    refine st_iload_n dX7_halves_7 rfl rfl ?_
    refine st_iconst dX7_halves_8 (v := 1) rfl ?_
    refine st_bipush dX7_halves_9 (v := 40) (by decide) ?_
    obtain ⟨v2, e_v2, h⟩ := bnd h
    refine st_callS [.int x2, .int 1, .int 40] dX7_halves_11 co_X7_within sm_X7_within ml_RX7_73 rfl (S := []) rfl (Nat.le_of_ble_eq_true rfl) (k_X7_within (by omega) x2 1 40 H _ e_v2 ?_)
    show V (D + 1) RX7 mdX7_halves 14 [.ref 0, .int x1, .int x2, .int x3, .int x4, .int x5] [.int v2] H post
    refine st_if_eq dX7_halves_14 44 (by decide) (fun c8 => ?_) (fun c8 => ?_)
    · replace h := (if_pos c8).symm.trans h
      refine st_ldc dX7_halves_44 cn_RX7_77 ?_
      obtain rfl := Option.some.inj h
      exact st_iret dX7_halves_46 rfl hp
    · replace h := (if_neg c8).symm.trans h
      refine st_aload_n dX7_halves_17 rfl rfl ?_
      refine st_iload_n dX7_halves_18 rfl rfl ?_
      obtain ⟨v3, e_v3, h⟩ := bnd h
      refine st_callV [.int x3] dX7_halves_19 co_X7_isProject im_X7_isProject se_X7_isProject ml_RX7_152 rfl (by decide) rfl (rfl : classes[7]? = some (RX7, TX7, 11)) rfl (S := []) rfl (Nat.le_of_ble_eq_true rfl) (k_X7_isProject (by omega) x3 H _ e_v3 ?_)
      show V (D + 1) RX7 mdX7_halves 22 [.ref 0, .int x1, .int x2, .int x3, .int x4, .int x5] [.int v3] H post
      refine st_if_eq dX7_halves_22 44 (by decide) (fun c9 => ?_) (fun c9 => ?_)
      · replace h := (if_pos c9).symm.trans h
        refine st_ldc dX7_halves_44 cn_RX7_77 ?_
        obtain rfl := Option.some.inj h
        exact st_iret dX7_halves_46 rfl hp
      · replace h := (if_neg c9).symm.trans h
        refine st_aload_n dX7_halves_25 rfl rfl ?_
        refine st_iload dX7_halves_26 rfl ?_
        obtain ⟨v4, e_v4, h⟩ := bnd h
        refine st_callV [.int x4] dX7_halves_28 co_X7_isProject im_X7_isProject se_X7_isProject ml_RX7_152 rfl (by decide) rfl (rfl : classes[7]? = some (RX7, TX7, 11)) rfl (S := []) rfl (Nat.le_of_ble_eq_true rfl) (k_X7_isProject (by omega) x4 H _ e_v4 ?_)
        show V (D + 1) RX7 mdX7_halves 31 [.ref 0, .int x1, .int x2, .int x3, .int x4, .int x5] [.int v4] H post
        refine st_if_eq dX7_halves_31 44 (by decide) (fun c10 => ?_) (fun c10 => ?_)
        · replace h := (if_pos c10).symm.trans h
          refine st_ldc dX7_halves_44 cn_RX7_77 ?_
          obtain rfl := Option.some.inj h
          exact st_iret dX7_halves_46 rfl hp
        · replace h := (if_neg c10).symm.trans h
          refine st_iload dX7_halves_34 rfl ?_
          refine st_iconst dX7_halves_36 (v := 0) rfl ?_
          refine st_iconst dX7_halves_37 (v := 1) rfl ?_
          obtain ⟨v5, e_v5, h⟩ := bnd h
          refine st_callS [.int x5, .int 0, .int 1] dX7_halves_38 co_X7_within sm_X7_within ml_RX7_73 rfl (S := []) rfl (Nat.le_of_ble_eq_true rfl) (k_X7_within (by omega) x5 0 1 H _ e_v5 ?_)
          show V (D + 1) RX7 mdX7_halves 41 [.ref 0, .int x1, .int x2, .int x3, .int x4, .int x5] [.int v5] H post
          refine st_if_ne dX7_halves_41 47 (by decide) (fun c11 => ?_) (fun c11 => ?_)
          · replace h := (if_neg c11).symm.trans h
            refine st_aload_n dX7_halves_47 rfl rfl ?_
            refine gR7 dX7_halves_48 (by decide) rfl 2 (by decide) fl_RX7_26 rfl 7 rfl ?_
            refine gI4 dX7_halves_51 (by decide) rfl 4 (by decide) fl_RX7_155 rfl rfl ?_
            refine st_bipush dX7_halves_54 (v := 18) (by decide) ?_
            refine st_ic_le dX7_halves_56 62 (by decide) (fun c12 => ?_) (fun c12 => ?_)
            · replace h := (if_pos c12).symm.trans h
              refine st_aload_n dX7_halves_62 rfl rfl ?_
              refine gR7 dX7_halves_63 (by decide) rfl 7 (by decide) fl_RX7_56 rfl 49 rfl ?_
              refine st_iload_n dX7_halves_66 rfl rfl ?_
              refine st_iload_n dX7_halves_67 rfl rfl ?_
              refine st_iload_n dX7_halves_68 rfl rfl ?_
              refine st_iload dX7_halves_69 rfl ?_
              refine st_iload dX7_halves_71 rfl ?_
              obtain ⟨q6, e_q6, h⟩ := bnd h
              refine st_callV [.int x1, .int x2, .int x3, .int x4, .int x5] dX7_halves_73 co_X3_bestHalves im_X3_bestHalves se_X3_bestHalves ml_RX7_261 rfl (by decide) rfl (rfl : classes[3]? = some (RX3, TX3, 5)) rfl (S := []) rfl (Nat.le_of_ble_eq_true rfl) (k_X3_bestHalves (by omega) x1 x2 x3 x4 x5 H _ e_q6 ?_)
              show V (D + 1) RX7 mdX7_halves 76 [.ref 0, .int x1, .int x2, .int x3, .int x4, .int x5] [.int q6.1] q6.2 post
              obtain rfl := Option.some.inj h
              exact st_iret dX7_halves_76 rfl hp
            · replace h := (if_neg c12).symm.trans h
              refine st_ldc dX7_halves_59 cn_RX7_117 ?_
              obtain rfl := Option.some.inj h
              exact st_iret dX7_halves_61 rfl hp
          · replace h := (if_pos c11).symm.trans h
            refine st_ldc dX7_halves_44 cn_RX7_77 ?_
            obtain rfl := Option.some.inj h
            exact st_iret dX7_halves_46 rfl hp
def f_X3_paidTogether_l4 (H : Hp) (x1 : Int32) : Nat → Int32 → Int32 → Option (Int32)
  | 0, _, _ => none
  | n + 1, x2, x3 =>
    if (H 7 3) ≤ x3 then
      some x2
    else
      (ag H 48 6 x3).bind fun v1 =>
      f_X3_paidTogether_l4 H x1 n (x2 + (((x1 >>> (x3 &&& 31)) &&& 1) * v1)) (x3 + 1)
def f_X3_paidTogether (x1 : Int32) (H : Hp) : Option (Int32) :=
  (f_X3_paidTogether_l4 H x1 fuel 0 0).bind fun l3 =>
  some l3
set_option maxHeartbeats 4000000 in
set_option maxRecDepth 100000 in
theorem k_X3_paidTogether_l4 {D : Nat} (hD : 0 ≤ D) (H : Hp) (x1 : Int32) {post : Option Value → Hp → Prop} : ∀ (n : Nat) (x2 : Int32) (x3 : Int32) (q : Int32), f_X3_paidTogether_l4 H x1 n x2 x3 = some q → V D RX3 mdX3_paidTogether 39 [.null, .null, .int q, .null] [] H post → V D RX3 mdX3_paidTogether 4 [.ref 49, .int x1, .int x2, .int x3] [] H post := by
  intro n
  induction n with
  | zero => intro x2 x3 q h; simp [f_X3_paidTogether_l4] at h
  | succ n ih =>
    intro x2 x3 q h k1
    rw [f_X3_paidTogether_l4] at h
    refine st_iload_n dX3_paidTogether_4 rfl rfl ?_
    refine st_aload_n dX3_paidTogether_5 rfl rfl ?_
    refine gR3 dX3_paidTogether_6 (by decide) rfl 0 (by decide) fl_RX3_25 rfl 7 rfl ?_
    refine gI4 dX3_paidTogether_9 (by decide) rfl 3 (by decide) fl_RX3_57 rfl rfl ?_
    refine st_ic_ge dX3_paidTogether_12 39 (by decide) (fun c2 => ?_) (fun c2 => ?_)
    · replace h := (if_pos c2).symm.trans h
      obtain rfl := Option.some.inj h
      exact st_sub [.null, .null, .int x2, .null] ⟨Or.inl rfl, Or.inl rfl, Or.inr rfl, Or.inl rfl, trivial⟩ k1
    · replace h := (if_neg c2).symm.trans h
      refine st_iload_n dX3_paidTogether_15 rfl rfl ?_
      refine st_iload_n dX3_paidTogether_16 rfl rfl ?_
      refine st_iload_n dX3_paidTogether_17 rfl rfl ?_
      refine st_ishr dX3_paidTogether_18 ?_
      refine st_iconst dX3_paidTogether_19 (v := 1) rfl ?_
      refine st_iand dX3_paidTogether_20 ?_
      refine st_aload_n dX3_paidTogether_21 rfl rfl ?_
      refine gR3 dX3_paidTogether_22 (by decide) rfl 1 (by decide) fl_RX3_28 rfl 38 rfl ?_
      refine gR2 dX3_paidTogether_25 (by decide) rfl 9 (by decide) fl_RX3_48 rfl 48 rfl ?_
      refine st_iload_n dX3_paidTogether_28 rfl rfl ?_
      obtain ⟨v1, e_v1, h⟩ := bnd h
      refine st_iald dX3_paidTogether_29 (by decide) rfl v1 e_v1 ?_
      refine st_imul dX3_paidTogether_30 ?_
      refine st_iadd dX3_paidTogether_31 ?_
      refine st_istore_n dX3_paidTogether_32 rfl (by decide) [.ref 49, .int x1, .int (x2 + (((x1 >>> (x3 &&& 31)) &&& 1) * v1)), .int x3] rfl ?_
      refine st_iinc dX3_paidTogether_33 rfl (v := (x3 + 1)) rfl (by decide) [.ref 49, .int x1, .int (x2 + (((x1 >>> (x3 &&& 31)) &&& 1) * v1)), .int (x3 + 1)] rfl ?_
      refine st_goto dX3_paidTogether_36 4 (by decide) ?_
      exact ih (x2 + (((x1 >>> (x3 &&& 31)) &&& 1) * v1)) (x3 + 1) q h k1
set_option maxHeartbeats 4000000 in
set_option maxRecDepth 100000 in
theorem k_X3_paidTogether {D : Nat} (hD : 0 ≤ D) (x1 : Int32) (H : Hp) (q : Int32) (h : f_X3_paidTogether x1 H = some q) {post : Option Value → Hp → Prop} (hp : post (some (.int q)) H) : Sem D mdX3_paidTogether [.ref 49, .int x1] H post := by
  refine sem_of (own := RX3) rfl pn_RX3 (Nat.le_of_ble_eq_true rfl) [.ref 49, .int x1, .null, .null] ⟨Or.inr rfl, Or.inr rfl, rfl, rfl, trivial⟩ ?_
  unfold f_X3_paidTogether at h
  refine st_iconst dX3_paidTogether_0 (v := 0) rfl ?_
  refine st_istore_n dX3_paidTogether_1 rfl (by decide) [.ref 49, .int x1, .int 0, .null] rfl ?_
  refine st_iconst dX3_paidTogether_2 (v := 0) rfl ?_
  refine st_istore_n dX3_paidTogether_3 rfl (by decide) [.ref 49, .int x1, .int 0, .int 0] rfl ?_
  obtain ⟨l3, e_l3, h⟩ := bnd h
  refine k_X3_paidTogether_l4 (by omega) H x1 fuel 0 0 _ e_l3 ?_
  refine st_iload_n dX3_paidTogether_39 rfl rfl ?_
  obtain rfl := Option.some.inj h
  exact st_iret dX3_paidTogether_40 rfl hp
def f_X3_setsPaid_l39 (H : Hp) (x1 : Int32) : Nat → Int32 → Int32 → Int32 → Int32 → Option (Int32 × Int32 × Int32)
  | 0, _, _, _, _ => none
  | n + 1, x3, x4, x5, x6 =>
    if ((1 : Int32) <<< ((H 7 3) &&& 31)) ≤ x6 then
      some (x3, x4, x5)
    else
      (f_X3_paidTogether x6 H).bind fun v3 =>
      f_X3_setsPaid_l39 H x1 n (if v3 = x1 then (x3 + 1) else x3) (if v3 = x1 then (x4 ||| x6) else x4) (if v3 = x1 then (x5 &&& x6) else x5) (x6 + 1)
def f_X3_setsPaid (x1 : Int32) (x2 : Int32) (H : Hp) : Option (Int32 × Hp) :=
  (f_X2_load H).bind fun H1 =>
  (f_X2_settle H1).bind fun H2 =>
  (f_X3_setsPaid_l39 H2 x1 fuel 0 0 (((1 : Int32) <<< ((H 7 3) &&& 31)) - 1) 0).bind fun l10 =>
  if x2 = 0 then
    some (l10.1, H2)
  else
    if x2 = 2 then
      some (l10.2.1, H2)
    else
      some ((if l10.1 = 0 then 0 else l10.2.2), H2)
set_option maxHeartbeats 4000000 in
set_option maxRecDepth 100000 in
theorem k_X3_setsPaid_l39 {D : Nat} (hD : 5 ≤ (D + 1)) (H : Hp) (x1 : Int32) (x2 : Int32) {post : Option Value → Hp → Prop} : ∀ (n : Nat) (x3 : Int32) (x4 : Int32) (x5 : Int32) (x6 : Int32) (q : Int32 × Int32 × Int32), f_X3_setsPaid_l39 H x1 n x3 x4 x5 x6 = some q → V (D + 1) RX3 mdX3_setsPaid 86 [.null, .null, .int x2, .int q.1, .int q.2.1, .int q.2.2, .null] [] H post → V (D + 1) RX3 mdX3_setsPaid 39 [.ref 49, .int x1, .int x2, .int x3, .int x4, .int x5, .int x6] [] H post := by
  intro n
  induction n with
  | zero => intro x3 x4 x5 x6 q h; simp [f_X3_setsPaid_l39] at h
  | succ n ih =>
    intro x3 x4 x5 x6 q h k1
    rw [f_X3_setsPaid_l39] at h
    refine st_iload dX3_setsPaid_39 rfl ?_
    refine st_iconst dX3_setsPaid_41 (v := 1) rfl ?_
    refine st_aload_n dX3_setsPaid_42 rfl rfl ?_
    refine gR3 dX3_setsPaid_43 (by decide) rfl 0 (by decide) fl_RX3_25 rfl 7 rfl ?_
    refine gI4 dX3_setsPaid_46 (by decide) rfl 3 (by decide) fl_RX3_57 rfl rfl ?_
    refine st_ishl dX3_setsPaid_49 ?_
    refine st_ic_ge dX3_setsPaid_50 86 (by decide) (fun c4 => ?_) (fun c4 => ?_)
    · replace h := (if_pos c4).symm.trans h
      obtain rfl := Option.some.inj h
      exact st_sub [.null, .null, .int x2, .int x3, .int x4, .int x5, .null] ⟨Or.inl rfl, Or.inl rfl, Or.inr rfl, Or.inr rfl, Or.inr rfl, Or.inr rfl, Or.inl rfl, trivial⟩ k1
    · replace h := (if_neg c4).symm.trans h
      refine st_aload_n dX3_setsPaid_53 rfl rfl ?_
      refine st_iload dX3_setsPaid_54 rfl ?_
      obtain ⟨v3, e_v3, h⟩ := bnd h
      refine st_callV [.int x6] dX3_setsPaid_56 co_X3_paidTogether im_X3_paidTogether se_X3_paidTogether ml_RX3_84 rfl (by decide) rfl (rfl : classes[3]? = some (RX3, TX3, 5)) rfl (S := []) rfl (Nat.le_of_ble_eq_true rfl) (k_X3_paidTogether (by omega) x6 H _ e_v3 ?_)
      show V (D + 1) RX3 mdX3_setsPaid 59 [.ref 49, .int x1, .int x2, .int x3, .int x4, .int x5, .int x6] [.int v3] H post
      refine st_iload_n dX3_setsPaid_59 rfl rfl ?_
      have kj8 : ∀ z5 : Int32, z5 = (if v3 = x1 then (x3 + 1) else x3) → ∀ z6 : Int32, z6 = (if v3 = x1 then (x4 ||| x6) else x4) → ∀ z7 : Int32, z7 = (if v3 = x1 then (x5 &&& x6) else x5) → V (D + 1) RX3 mdX3_setsPaid 80 [.ref 49, .int x1, .int x2, .int z5, .int z6, .int z7, .int x6] [] H post := by
        intro z5 ez5 z6 ez6 z7 ez7
        subst ez5
        subst ez6
        subst ez7
        refine st_iinc dX3_setsPaid_80 rfl (v := (x6 + 1)) rfl (by decide) [.ref 49, .int x1, .int x2, .int (if v3 = x1 then (x3 + 1) else x3), .int (if v3 = x1 then (x4 ||| x6) else x4), .int (if v3 = x1 then (x5 &&& x6) else x5), .int (x6 + 1)] rfl ?_
        refine st_goto dX3_setsPaid_83 39 (by decide) ?_
        exact ih (if v3 = x1 then (x3 + 1) else x3) (if v3 = x1 then (x4 ||| x6) else x4) (if v3 = x1 then (x5 &&& x6) else x5) (x6 + 1) q h k1
      refine st_ic_ne dX3_setsPaid_60 80 (by decide) (fun c9 => ?_) (fun c9 => ?_)
      · exact (kj8 _ (Eq.symm (if_neg c9)) _ (Eq.symm (if_neg c9)) _ (Eq.symm (if_neg c9)))
      · refine st_iinc dX3_setsPaid_63 rfl (v := (x3 + 1)) rfl (by decide) [.ref 49, .int x1, .int x2, .int (x3 + 1), .int x4, .int x5, .int x6] rfl ?_
        refine st_iload dX3_setsPaid_66 rfl ?_
        refine st_iload dX3_setsPaid_68 rfl ?_
        refine st_ior dX3_setsPaid_70 ?_
        refine st_istore dX3_setsPaid_71 (by decide) [.ref 49, .int x1, .int x2, .int (x3 + 1), .int (x4 ||| x6), .int x5, .int x6] rfl ?_
        refine st_iload dX3_setsPaid_73 rfl ?_
        refine st_iload dX3_setsPaid_75 rfl ?_
        refine st_iand dX3_setsPaid_77 ?_
        refine st_istore dX3_setsPaid_78 (by decide) [.ref 49, .int x1, .int x2, .int (x3 + 1), .int (x4 ||| x6), .int (x5 &&& x6), .int x6] rfl ?_
        exact (kj8 _ (Eq.symm (if_pos c9)) _ (Eq.symm (if_pos c9)) _ (Eq.symm (if_pos c9)))
set_option maxHeartbeats 4000000 in
set_option maxRecDepth 100000 in
theorem k_X3_setsPaid {D : Nat} (hD : 5 ≤ D) (x1 : Int32) (x2 : Int32) (H : Hp) (q : Int32 × Hp) (h : f_X3_setsPaid x1 x2 H = some q) {post : Option Value → Hp → Prop} (hp : post (some (.int q.1)) q.2) : Sem D mdX3_setsPaid [.ref 49, .int x1, .int x2] H post := by
  obtain ⟨D, rfl⟩ : ∃ E, D = E + 1 := ⟨D - 1, by omega⟩
  refine sem_of (own := RX3) rfl pn_RX3 (Nat.le_of_ble_eq_true rfl) [.ref 49, .int x1, .int x2, .null, .null, .null, .null] ⟨Or.inr rfl, Or.inr rfl, Or.inr rfl, rfl, rfl, rfl, rfl, trivial⟩ ?_
  unfold f_X3_setsPaid at h
  refine st_iconst dX3_setsPaid_0 (v := 0) rfl ?_
  refine st_istore_n dX3_setsPaid_1 rfl (by decide) [.ref 49, .int x1, .int x2, .int 0, .null, .null, .null] rfl ?_
  refine st_iconst dX3_setsPaid_2 (v := 0) rfl ?_
  refine st_istore dX3_setsPaid_3 (by decide) [.ref 49, .int x1, .int x2, .int 0, .int 0, .null, .null] rfl ?_
  refine st_iconst dX3_setsPaid_5 (v := 1) rfl ?_
  refine st_aload_n dX3_setsPaid_6 rfl rfl ?_
  refine gR3 dX3_setsPaid_7 (by decide) rfl 0 (by decide) fl_RX3_25 rfl 7 rfl ?_
  refine gI4 dX3_setsPaid_10 (by decide) rfl 3 (by decide) fl_RX3_57 rfl rfl ?_
  refine st_ishl dX3_setsPaid_13 ?_
  refine st_iconst dX3_setsPaid_14 (v := 1) rfl ?_
  refine st_isub dX3_setsPaid_15 ?_
  refine st_istore dX3_setsPaid_16 (by decide) [.ref 49, .int x1, .int x2, .int 0, .int 0, .int (((1 : Int32) <<< ((H 7 3) &&& 31)) - 1), .null] rfl ?_
  refine st_aload_n dX3_setsPaid_18 rfl rfl ?_
  refine gR3 dX3_setsPaid_19 (by decide) rfl 1 (by decide) fl_RX3_28 rfl 38 rfl ?_
  refine st_aload_n dX3_setsPaid_22 rfl rfl ?_
  refine gR3 dX3_setsPaid_23 (by decide) rfl 0 (by decide) fl_RX3_25 rfl 7 rfl ?_
  obtain ⟨H1, e_H1, h⟩ := bnd h
  refine st_callV [.ref 7] dX3_setsPaid_26 co_X2_load im_X2_load se_X2_load ml_RX3_32 rfl (by decide) rfl (rfl : classes[2]? = some (RX2, TX2, 15)) rfl (S := []) rfl (Nat.le_of_ble_eq_true rfl) (k_X2_load (by omega) H _ e_H1 ?_)
  show V (D + 1) RX3 mdX3_setsPaid 29 [.ref 49, .int x1, .int x2, .int 0, .int 0, .int (((1 : Int32) <<< ((H 7 3) &&& 31)) - 1), .null] [] H1 post
  refine st_aload_n dX3_setsPaid_29 rfl rfl ?_
  refine gR3 dX3_setsPaid_30 (by decide) rfl 1 (by decide) fl_RX3_28 rfl 38 rfl ?_
  obtain ⟨H2, e_H2, h⟩ := bnd h
  refine st_callV [] dX3_setsPaid_33 co_X2_settle im_X2_settle se_X2_settle ml_RX3_45 rfl (by decide) rfl (rfl : classes[2]? = some (RX2, TX2, 15)) rfl (S := []) rfl (Nat.le_of_ble_eq_true rfl) (k_X2_settle (by omega) H1 _ e_H2 ?_)
  show V (D + 1) RX3 mdX3_setsPaid 36 [.ref 49, .int x1, .int x2, .int 0, .int 0, .int (((1 : Int32) <<< ((H 7 3) &&& 31)) - 1), .null] [] H2 post
  refine st_iconst dX3_setsPaid_36 (v := 0) rfl ?_
  refine st_istore dX3_setsPaid_37 (by decide) [.ref 49, .int x1, .int x2, .int 0, .int 0, .int (((1 : Int32) <<< ((H 7 3) &&& 31)) - 1), .int 0] rfl ?_
  obtain ⟨l10, e_l10, h⟩ := bnd h
  refine k_X3_setsPaid_l39 (by omega) H2 x1 x2 fuel 0 0 (((1 : Int32) <<< ((H 7 3) &&& 31)) - 1) 0 _ e_l10 ?_
  refine st_iload_n dX3_setsPaid_86 rfl rfl ?_
  refine st_if_ne dX3_setsPaid_87 92 (by decide) (fun c11 => ?_) (fun c11 => ?_)
  · replace h := (if_neg c11).symm.trans h
    refine st_iload_n dX3_setsPaid_92 rfl rfl ?_
    refine st_iconst dX3_setsPaid_93 (v := 2) rfl ?_
    refine st_ic_ne dX3_setsPaid_94 100 (by decide) (fun c12 => ?_) (fun c12 => ?_)
    · replace h := (if_neg c12).symm.trans h
      refine st_iload_n dX3_setsPaid_100 rfl rfl ?_
      have kj14 : ∀ z13 : Int32, z13 = (if l10.1 = 0 then 0 else l10.2.2) → V (D + 1) RX3 mdX3_setsPaid 110 [.null, .null, .null, .null, .null, .null, .null] [.int z13] H2 post := by
        intro z13 ez13
        subst ez13
        obtain rfl := Option.some.inj h
        exact st_iret dX3_setsPaid_110 rfl hp
      refine st_if_ne dX3_setsPaid_101 108 (by decide) (fun c15 => ?_) (fun c15 => ?_)
      · refine st_iload dX3_setsPaid_108 rfl ?_
        exact st_sub [.null, .null, .null, .null, .null, .null, .null] ⟨Or.inl rfl, Or.inl rfl, Or.inl rfl, Or.inl rfl, Or.inl rfl, Or.inl rfl, Or.inl rfl, trivial⟩ (kj14 _ (Eq.symm (if_neg c15)))
      · refine st_iconst dX3_setsPaid_104 (v := 0) rfl ?_
        refine st_goto dX3_setsPaid_105 110 (by decide) ?_
        exact st_sub [.null, .null, .null, .null, .null, .null, .null] ⟨Or.inl rfl, Or.inl rfl, Or.inl rfl, Or.inl rfl, Or.inl rfl, Or.inl rfl, Or.inl rfl, trivial⟩ (kj14 _ (Eq.symm (if_pos c15)))
    · replace h := (if_pos c12).symm.trans h
      refine st_iload dX3_setsPaid_97 rfl ?_
      obtain rfl := Option.some.inj h
      exact st_iret dX3_setsPaid_99 rfl hp
  · replace h := (if_pos c11).symm.trans h
    refine st_iload_n dX3_setsPaid_90 rfl rfl ?_
    obtain rfl := Option.some.inj h
    exact st_iret dX3_setsPaid_91 rfl hp
def f_X7_sets (x1 : Int32) (x2 : Int32) (H : Hp) : Option (Int32 × Hp) :=
  if (H 7 0) = 0 then
    some ((-1000002), H)
  else
    (f_X7_within x1 0 999).bind fun v1 =>
    if v1 = 0 then
      some ((-1000001), H)
    else
      (f_X7_within x2 0 2).bind fun v2 =>
      if v2 = 0 then
        some ((-1000001), H)
      else
        (f_X3_setsPaid x1 x2 H).bind fun q3 =>
        some (q3.1, q3.2)
set_option maxHeartbeats 4000000 in
set_option maxRecDepth 100000 in
theorem k_X7_sets {D : Nat} (hD : 6 ≤ D) (x1 : Int32) (x2 : Int32) (H : Hp) (q : Int32 × Hp) (h : f_X7_sets x1 x2 H = some q) {post : Option Value → Hp → Prop} (hp : post (some (.int q.1)) q.2) : Sem D mdX7_sets [.ref 0, .int x1, .int x2] H post := by
  obtain ⟨D, rfl⟩ : ∃ E, D = E + 1 := ⟨D - 1, by omega⟩
  refine sem_of (own := RX7) rfl pn_RX7 (Nat.le_of_ble_eq_true rfl) [.ref 0, .int x1, .int x2] ⟨Or.inr rfl, Or.inr rfl, Or.inr rfl, trivial⟩ ?_
  unfold f_X7_sets at h
  refine st_aload_n dX7_sets_0 rfl rfl ?_
  refine gR7 dX7_sets_1 (by decide) rfl 2 (by decide) fl_RX7_26 rfl 7 rfl ?_
  refine gI4 dX7_sets_4 (by decide) rfl 0 (by decide) fl_RX7_181 rfl rfl ?_
  refine st_if_ne dX7_sets_7 13 (by decide) (fun c4 => ?_) (fun c4 => ?_)
  · replace h := (if_neg c4).symm.trans h
    refine st_iload_n dX7_sets_13 rfl rfl ?_
    refine st_iconst dX7_sets_14 (v := 0) rfl ?_
    refine st_sipush dX7_sets_15 (v := 999) (by decide) ?_
    obtain ⟨v1, e_v1, h⟩ := bnd h
    refine st_callS [.int x1, .int 0, .int 999] dX7_sets_18 co_X7_within sm_X7_within ml_RX7_73 rfl (S := []) rfl (Nat.le_of_ble_eq_true rfl) (k_X7_within (by omega) x1 0 999 H _ e_v1 ?_)
    show V (D + 1) RX7 mdX7_sets 21 [.ref 0, .int x1, .int x2] [.int v1] H post
    refine st_if_eq dX7_sets_21 33 (by decide) (fun c5 => ?_) (fun c5 => ?_)
    · replace h := (if_pos c5).symm.trans h
      refine st_ldc dX7_sets_33 cn_RX7_77 ?_
      obtain rfl := Option.some.inj h
      exact st_iret dX7_sets_35 rfl hp
    · replace h := (if_neg c5).symm.trans h
      refine st_iload_n dX7_sets_24 rfl rfl ?_
      refine st_iconst dX7_sets_25 (v := 0) rfl ?_
      refine st_iconst dX7_sets_26 (v := 2) rfl ?_
      obtain ⟨v2, e_v2, h⟩ := bnd h
      refine st_callS [.int x2, .int 0, .int 2] dX7_sets_27 co_X7_within sm_X7_within ml_RX7_73 rfl (S := []) rfl (Nat.le_of_ble_eq_true rfl) (k_X7_within (by omega) x2 0 2 H _ e_v2 ?_)
      show V (D + 1) RX7 mdX7_sets 30 [.ref 0, .int x1, .int x2] [.int v2] H post
      refine st_if_ne dX7_sets_30 36 (by decide) (fun c6 => ?_) (fun c6 => ?_)
      · replace h := (if_neg c6).symm.trans h
        refine st_aload_n dX7_sets_36 rfl rfl ?_
        refine gR7 dX7_sets_37 (by decide) rfl 7 (by decide) fl_RX7_56 rfl 49 rfl ?_
        refine st_iload_n dX7_sets_40 rfl rfl ?_
        refine st_iload_n dX7_sets_41 rfl rfl ?_
        obtain ⟨q3, e_q3, h⟩ := bnd h
        refine st_callV [.int x1, .int x2] dX7_sets_42 co_X3_setsPaid im_X3_setsPaid se_X3_setsPaid ml_RX7_265 rfl (by decide) rfl (rfl : classes[3]? = some (RX3, TX3, 5)) rfl (S := []) rfl (Nat.le_of_ble_eq_true rfl) (k_X3_setsPaid (by omega) x1 x2 H _ e_q3 ?_)
        show V (D + 1) RX7 mdX7_sets 45 [.ref 0, .int x1, .int x2] [.int q3.1] q3.2 post
        obtain rfl := Option.some.inj h
        exact st_iret dX7_sets_45 rfl hp
      · replace h := (if_pos c6).symm.trans h
        refine st_ldc dX7_sets_33 cn_RX7_77 ?_
        obtain rfl := Option.some.inj h
        exact st_iret dX7_sets_35 rfl hp
  · replace h := (if_pos c4).symm.trans h
    refine st_ldc dX7_sets_10 cn_RX7_145 ?_
    obtain rfl := Option.some.inj h
    exact st_iret dX7_sets_12 rfl hp
def f_X3_turnsFrom : Nat → Int32 → Int32 → Int32 → Int32 → Int32 → Hp → Option (Int32 × Hp)
  | 0, _, _, _, _, _, _ => none
  | n + 1, x1, x2, x3, x4, x5, H =>
  if x3 ≤ 0 then
    (f_X2_settle H).bind fun H1 =>
    (ag H1 48 6 0).bind fun v2 =>
    (ag H1 48 6 ((H 7 3) - 1)).bind fun v3 =>
    some ((v2 - v3), H1)
  else
    if x3 ≤ 4 then
      (f_X3_turnsFrom n x2 x1 (x3 - 1) x4 ((if x5 = 0 then 1 else 0) : Int32) H).bind fun q4 =>
      (f_X2_add x1 0 x4 q4.2).bind fun H5 =>
      (f_X3_turnsFrom n x2 x1 (x3 - 1) x4 ((if x5 = 0 then 1 else 0) : Int32) H5).bind fun q6 =>
      (f_X2_add x1 0 (-x4) q6.2).bind fun H7 =>
      (f_X2_add x1 ((H 7 3) - 1) x4 H7).bind fun H8 =>
      (f_X3_turnsFrom n x2 x1 (x3 - 1) x4 ((if x5 = 0 then 1 else 0) : Int32) H8).bind fun q9 =>
      (f_X2_add x1 ((H 7 3) - 1) (-x4) q9.2).bind fun H10 =>
      some ((if x5 = 0 then (if (if q9.1 < q6.1 then q9.1 else q6.1) < q4.1 then (if q9.1 < q6.1 then q9.1 else q6.1) else q4.1) else (if q4.1 < (if q6.1 < q9.1 then q9.1 else q6.1) then (if q6.1 < q9.1 then q9.1 else q6.1) else q4.1)), H10)
    else
      (f_X2_settle H).bind fun H11 =>
      (ag H11 48 6 0).bind fun v12 =>
      (ag H11 48 6 ((H 7 3) - 1)).bind fun v13 =>
      some ((v12 - v13), H11)
set_option maxHeartbeats 4000000 in
set_option maxRecDepth 100000 in
theorem k_X3_turnsFrom : ∀ (n D : Nat), 4 + n ≤ D → ∀ x1 : Int32, ∀ x2 : Int32, ∀ x3 : Int32, ∀ x4 : Int32, ∀ x5 : Int32, ∀ (H : Hp) (q : Int32 × Hp), f_X3_turnsFrom n x1 x2 x3 x4 x5 H = some q → ∀ {post : Option Value → Hp → Prop}, post (some (.int q.1)) q.2 → Sem D mdX3_turnsFrom [.ref 49, .int x1, .int x2, .int x3, .int x4, .int x5] H post := by
  intro n
  induction n with
  | zero => intro D hD x1 x2 x3 x4 x5 H q h; simp [f_X3_turnsFrom] at h
  | succ n ih =>
    intro D hD x1 x2 x3 x4 x5 H q h post hp
    obtain ⟨D, rfl⟩ : ∃ E, D = E + 1 := ⟨D - 1, by omega⟩
    refine sem_of (own := RX3) rfl pn_RX3 (Nat.le_of_ble_eq_true rfl) [.ref 49, .int x1, .int x2, .int x3, .int x4, .int x5, .null, .null, .null, .null] ⟨Or.inr rfl, Or.inr rfl, Or.inr rfl, Or.inr rfl, Or.inr rfl, Or.inr rfl, rfl, rfl, rfl, rfl, trivial⟩ ?_
    rw [f_X3_turnsFrom] at h
    refine st_aload_n dX3_turnsFrom_0 rfl rfl ?_
    refine gR3 dX3_turnsFrom_1 (by decide) rfl 0 (by decide) fl_RX3_25 rfl 7 rfl ?_
    refine gI4 dX3_turnsFrom_4 (by decide) rfl 3 (by decide) fl_RX3_57 rfl rfl ?_
    refine st_iconst dX3_turnsFrom_7 (v := 1) rfl ?_
    refine st_isub dX3_turnsFrom_8 ?_
    refine st_istore dX3_turnsFrom_9 (by decide) [.ref 49, .int x1, .int x2, .int x3, .int x4, .int x5, .int ((H 7 3) - 1), .null, .null, .null] rfl ?_
    refine st_iload_n dX3_turnsFrom_11 rfl rfl ?_
    refine st_if_le dX3_turnsFrom_12 20 (by decide) (fun c14 => ?_) (fun c14 => ?_)
    · replace h := (if_pos c14).symm.trans h
      refine st_aload_n dX3_turnsFrom_20 rfl rfl ?_
      refine gR3 dX3_turnsFrom_21 (by decide) rfl 1 (by decide) fl_RX3_28 rfl 38 rfl ?_
      obtain ⟨H1, e_H1, h⟩ := bnd h
      refine st_callV [] dX3_turnsFrom_24 co_X2_settle im_X2_settle se_X2_settle ml_RX3_45 rfl (by decide) rfl (rfl : classes[2]? = some (RX2, TX2, 15)) rfl (S := []) rfl (Nat.le_of_ble_eq_true rfl) (k_X2_settle (by omega) H _ e_H1 ?_)
      show V (D + 1) RX3 mdX3_turnsFrom 27 [.ref 49, .int x1, .int x2, .int x3, .int x4, .int x5, .int ((H 7 3) - 1), .null, .null, .null] [] H1 post
      refine st_aload_n dX3_turnsFrom_27 rfl rfl ?_
      refine gR3 dX3_turnsFrom_28 (by decide) rfl 1 (by decide) fl_RX3_28 rfl 38 rfl ?_
      refine gR2 dX3_turnsFrom_31 (by decide) rfl 9 (by decide) fl_RX3_48 rfl 48 rfl ?_
      refine st_iconst dX3_turnsFrom_34 (v := 0) rfl ?_
      obtain ⟨v2, e_v2, h⟩ := bnd h
      refine st_iald dX3_turnsFrom_35 (by decide) rfl v2 e_v2 ?_
      refine st_aload_n dX3_turnsFrom_36 rfl rfl ?_
      refine gR3 dX3_turnsFrom_37 (by decide) rfl 1 (by decide) fl_RX3_28 rfl 38 rfl ?_
      refine gR2 dX3_turnsFrom_40 (by decide) rfl 9 (by decide) fl_RX3_48 rfl 48 rfl ?_
      refine st_iload dX3_turnsFrom_43 rfl ?_
      obtain ⟨v3, e_v3, h⟩ := bnd h
      refine st_iald dX3_turnsFrom_45 (by decide) rfl v3 e_v3 ?_
      refine st_isub dX3_turnsFrom_46 ?_
      obtain rfl := Option.some.inj h
      exact st_iret dX3_turnsFrom_47 rfl hp
    · replace h := (if_neg c14).symm.trans h
      refine st_iload_n dX3_turnsFrom_15 rfl rfl ?_
      refine st_iconst dX3_turnsFrom_16 (v := 4) rfl ?_
      refine st_ic_le dX3_turnsFrom_17 48 (by decide) (fun c15 => ?_) (fun c15 => ?_)
      · replace h := (if_pos c15).symm.trans h
        refine st_aload_n dX3_turnsFrom_48 rfl rfl ?_
        refine st_iload_n dX3_turnsFrom_49 rfl rfl ?_
        refine st_iload_n dX3_turnsFrom_50 rfl rfl ?_
        refine st_iload_n dX3_turnsFrom_51 rfl rfl ?_
        refine st_iconst dX3_turnsFrom_52 (v := 1) rfl ?_
        refine st_isub dX3_turnsFrom_53 ?_
        refine st_iload dX3_turnsFrom_54 rfl ?_
        refine st_iload dX3_turnsFrom_56 rfl ?_
        have kj17 : ∀ z16 : Int32, z16 = ((if x5 = 0 then 1 else 0) : Int32) → V (D + 1) RX3 mdX3_turnsFrom 66 [.ref 49, .int x1, .int x2, .int x3, .int x4, .int x5, .int ((H 7 3) - 1), .null, .null, .null] [.int z16, .int x4, .int (x3 - 1), .int x1, .int x2, .ref 49] H post := by
          intro z16 ez16
          subst ez16
          obtain ⟨q4, e_q4, h⟩ := bnd h
          refine st_callV [.int x2, .int x1, .int (x3 - 1), .int x4, .int ((if x5 = 0 then 1 else 0) : Int32)] dX3_turnsFrom_66 co_X3_turnsFrom im_X3_turnsFrom se_X3_turnsFrom ml_RX3_87 rfl (by decide) rfl (rfl : classes[3]? = some (RX3, TX3, 5)) rfl (S := []) rfl (Nat.le_of_ble_eq_true rfl) (ih _ (by omega) x2 x1 (x3 - 1) x4 ((if x5 = 0 then 1 else 0) : Int32) H _ e_q4 ?_)
          show V (D + 1) RX3 mdX3_turnsFrom 69 [.ref 49, .int x1, .int x2, .int x3, .int x4, .int x5, .int ((H 7 3) - 1), .null, .null, .null] [.int q4.1] q4.2 post
          refine st_istore dX3_turnsFrom_69 (by decide) [.ref 49, .int x1, .int x2, .int x3, .int x4, .int x5, .int ((H 7 3) - 1), .int q4.1, .null, .null] rfl ?_
          refine st_aload_n dX3_turnsFrom_71 rfl rfl ?_
          refine gR3 dX3_turnsFrom_72 (by decide) rfl 1 (by decide) fl_RX3_28 rfl 38 rfl ?_
          refine st_iload_n dX3_turnsFrom_75 rfl rfl ?_
          refine st_iconst dX3_turnsFrom_76 (v := 0) rfl ?_
          refine st_iload dX3_turnsFrom_77 rfl ?_
          obtain ⟨H5, e_H5, h⟩ := bnd h
          refine st_callV [.int x1, .int 0, .int x4] dX3_turnsFrom_79 co_X2_add im_X2_add se_X2_add ml_RX3_41 rfl (by decide) rfl (rfl : classes[2]? = some (RX2, TX2, 15)) rfl (S := []) rfl (Nat.le_of_ble_eq_true rfl) (k_X2_add (by omega) x1 0 x4 q4.2 _ e_H5 ?_)
          show V (D + 1) RX3 mdX3_turnsFrom 82 [.ref 49, .int x1, .int x2, .int x3, .int x4, .int x5, .int ((H 7 3) - 1), .int q4.1, .null, .null] [] H5 post
          refine st_aload_n dX3_turnsFrom_82 rfl rfl ?_
          refine st_iload_n dX3_turnsFrom_83 rfl rfl ?_
          refine st_iload_n dX3_turnsFrom_84 rfl rfl ?_
          refine st_iload_n dX3_turnsFrom_85 rfl rfl ?_
          refine st_iconst dX3_turnsFrom_86 (v := 1) rfl ?_
          refine st_isub dX3_turnsFrom_87 ?_
          refine st_iload dX3_turnsFrom_88 rfl ?_
          refine st_iload dX3_turnsFrom_90 rfl ?_
          have kj19 : ∀ z18 : Int32, z18 = ((if x5 = 0 then 1 else 0) : Int32) → V (D + 1) RX3 mdX3_turnsFrom 100 [.ref 49, .int x1, .int x2, .int x3, .int x4, .int x5, .int ((H 7 3) - 1), .int q4.1, .null, .null] [.int z18, .int x4, .int (x3 - 1), .int x1, .int x2, .ref 49] H5 post := by
            intro z18 ez18
            subst ez18
            obtain ⟨q6, e_q6, h⟩ := bnd h
            refine st_callV [.int x2, .int x1, .int (x3 - 1), .int x4, .int ((if x5 = 0 then 1 else 0) : Int32)] dX3_turnsFrom_100 co_X3_turnsFrom im_X3_turnsFrom se_X3_turnsFrom ml_RX3_87 rfl (by decide) rfl (rfl : classes[3]? = some (RX3, TX3, 5)) rfl (S := []) rfl (Nat.le_of_ble_eq_true rfl) (ih _ (by omega) x2 x1 (x3 - 1) x4 ((if x5 = 0 then 1 else 0) : Int32) H5 _ e_q6 ?_)
            show V (D + 1) RX3 mdX3_turnsFrom 103 [.ref 49, .int x1, .int x2, .int x3, .int x4, .int x5, .int ((H 7 3) - 1), .int q4.1, .null, .null] [.int q6.1] q6.2 post
            refine st_istore dX3_turnsFrom_103 (by decide) [.ref 49, .int x1, .int x2, .int x3, .int x4, .int x5, .int ((H 7 3) - 1), .int q4.1, .int q6.1, .null] rfl ?_
            refine st_aload_n dX3_turnsFrom_105 rfl rfl ?_
            refine gR3 dX3_turnsFrom_106 (by decide) rfl 1 (by decide) fl_RX3_28 rfl 38 rfl ?_
            refine st_iload_n dX3_turnsFrom_109 rfl rfl ?_
            refine st_iconst dX3_turnsFrom_110 (v := 0) rfl ?_
            refine st_iload dX3_turnsFrom_111 rfl ?_
            refine st_ineg dX3_turnsFrom_113 ?_
            obtain ⟨H7, e_H7, h⟩ := bnd h
            refine st_callV [.int x1, .int 0, .int (-x4)] dX3_turnsFrom_114 co_X2_add im_X2_add se_X2_add ml_RX3_41 rfl (by decide) rfl (rfl : classes[2]? = some (RX2, TX2, 15)) rfl (S := []) rfl (Nat.le_of_ble_eq_true rfl) (k_X2_add (by omega) x1 0 (-x4) q6.2 _ e_H7 ?_)
            show V (D + 1) RX3 mdX3_turnsFrom 117 [.ref 49, .int x1, .int x2, .int x3, .int x4, .int x5, .int ((H 7 3) - 1), .int q4.1, .int q6.1, .null] [] H7 post
            refine st_aload_n dX3_turnsFrom_117 rfl rfl ?_
            refine gR3 dX3_turnsFrom_118 (by decide) rfl 1 (by decide) fl_RX3_28 rfl 38 rfl ?_
            refine st_iload_n dX3_turnsFrom_121 rfl rfl ?_
            refine st_iload dX3_turnsFrom_122 rfl ?_
            refine st_iload dX3_turnsFrom_124 rfl ?_
            obtain ⟨H8, e_H8, h⟩ := bnd h
            refine st_callV [.int x1, .int ((H 7 3) - 1), .int x4] dX3_turnsFrom_126 co_X2_add im_X2_add se_X2_add ml_RX3_41 rfl (by decide) rfl (rfl : classes[2]? = some (RX2, TX2, 15)) rfl (S := []) rfl (Nat.le_of_ble_eq_true rfl) (k_X2_add (by omega) x1 ((H 7 3) - 1) x4 H7 _ e_H8 ?_)
            show V (D + 1) RX3 mdX3_turnsFrom 129 [.ref 49, .int x1, .int x2, .int x3, .int x4, .int x5, .int ((H 7 3) - 1), .int q4.1, .int q6.1, .null] [] H8 post
            refine st_aload_n dX3_turnsFrom_129 rfl rfl ?_
            refine st_iload_n dX3_turnsFrom_130 rfl rfl ?_
            refine st_iload_n dX3_turnsFrom_131 rfl rfl ?_
            refine st_iload_n dX3_turnsFrom_132 rfl rfl ?_
            refine st_iconst dX3_turnsFrom_133 (v := 1) rfl ?_
            refine st_isub dX3_turnsFrom_134 ?_
            refine st_iload dX3_turnsFrom_135 rfl ?_
            refine st_iload dX3_turnsFrom_137 rfl ?_
            have kj21 : ∀ z20 : Int32, z20 = ((if x5 = 0 then 1 else 0) : Int32) → V (D + 1) RX3 mdX3_turnsFrom 147 [.ref 49, .int x1, .null, .null, .int x4, .int x5, .int ((H 7 3) - 1), .int q4.1, .int q6.1, .null] [.int z20, .int x4, .int (x3 - 1), .int x1, .int x2, .ref 49] H8 post := by
              intro z20 ez20
              subst ez20
              obtain ⟨q9, e_q9, h⟩ := bnd h
              refine st_callV [.int x2, .int x1, .int (x3 - 1), .int x4, .int ((if x5 = 0 then 1 else 0) : Int32)] dX3_turnsFrom_147 co_X3_turnsFrom im_X3_turnsFrom se_X3_turnsFrom ml_RX3_87 rfl (by decide) rfl (rfl : classes[3]? = some (RX3, TX3, 5)) rfl (S := []) rfl (Nat.le_of_ble_eq_true rfl) (ih _ (by omega) x2 x1 (x3 - 1) x4 ((if x5 = 0 then 1 else 0) : Int32) H8 _ e_q9 ?_)
              show V (D + 1) RX3 mdX3_turnsFrom 150 [.ref 49, .int x1, .null, .null, .int x4, .int x5, .int ((H 7 3) - 1), .int q4.1, .int q6.1, .null] [.int q9.1] q9.2 post
              refine st_istore dX3_turnsFrom_150 (by decide) [.ref 49, .int x1, .null, .null, .int x4, .int x5, .int ((H 7 3) - 1), .int q4.1, .int q6.1, .int q9.1] rfl ?_
              refine st_aload_n dX3_turnsFrom_152 rfl rfl ?_
              refine gR3 dX3_turnsFrom_153 (by decide) rfl 1 (by decide) fl_RX3_28 rfl 38 rfl ?_
              refine st_iload_n dX3_turnsFrom_156 rfl rfl ?_
              refine st_iload dX3_turnsFrom_157 rfl ?_
              refine st_iload dX3_turnsFrom_159 rfl ?_
              refine st_ineg dX3_turnsFrom_161 ?_
              obtain ⟨H10, e_H10, h⟩ := bnd h
              refine st_callV [.int x1, .int ((H 7 3) - 1), .int (-x4)] dX3_turnsFrom_162 co_X2_add im_X2_add se_X2_add ml_RX3_41 rfl (by decide) rfl (rfl : classes[2]? = some (RX2, TX2, 15)) rfl (S := []) rfl (Nat.le_of_ble_eq_true rfl) (k_X2_add (by omega) x1 ((H 7 3) - 1) (-x4) q9.2 _ e_H10 ?_)
              show V (D + 1) RX3 mdX3_turnsFrom 165 [.ref 49, .int x1, .null, .null, .int x4, .int x5, .int ((H 7 3) - 1), .int q4.1, .int q6.1, .int q9.1] [] H10 post
              refine st_iload dX3_turnsFrom_165 rfl ?_
              have kj23 : ∀ z22 : Int32, z22 = (if x5 = 0 then (if (if q9.1 < q6.1 then q9.1 else q6.1) < q4.1 then (if q9.1 < q6.1 then q9.1 else q6.1) else q4.1) else (if q4.1 < (if q6.1 < q9.1 then q9.1 else q6.1) then (if q6.1 < q9.1 then q9.1 else q6.1) else q4.1)) → V (D + 1) RX3 mdX3_turnsFrom 197 [.null, .null, .null, .null, .null, .null, .null, .null, .null, .null] [.int z22] H10 post := by
                intro z22 ez22
                subst ez22
                obtain rfl := Option.some.inj h
                exact st_iret dX3_turnsFrom_197 rfl hp
              refine st_if_eq dX3_turnsFrom_167 185 (by decide) (fun c24 => ?_) (fun c24 => ?_)
              · refine st_iload dX3_turnsFrom_185 rfl ?_
                refine st_iload dX3_turnsFrom_187 rfl ?_
                refine st_iload dX3_turnsFrom_189 rfl ?_
                refine st_mmin dX3_turnsFrom_191 (by omega) ml_RX3_96 w_minS w_mathI w_minC (Nat.le_of_ble_eq_true rfl) ?_
                refine st_mmin dX3_turnsFrom_194 (by omega) ml_RX3_96 w_minS w_mathI w_minC (Nat.le_of_ble_eq_true rfl) ?_
                exact st_sub [.null, .null, .null, .null, .null, .null, .null, .null, .null, .null] ⟨Or.inl rfl, Or.inl rfl, Or.inl rfl, Or.inl rfl, Or.inl rfl, Or.inl rfl, Or.inl rfl, Or.inl rfl, Or.inl rfl, Or.inl rfl, trivial⟩ (kj23 _ (Eq.symm (if_pos c24)))
              · refine st_iload dX3_turnsFrom_170 rfl ?_
                refine st_iload dX3_turnsFrom_172 rfl ?_
                refine st_iload dX3_turnsFrom_174 rfl ?_
                refine st_mmax dX3_turnsFrom_176 (by omega) ml_RX3_91 w_maxS w_mathI w_maxC (Nat.le_of_ble_eq_true rfl) ?_
                refine st_mmax dX3_turnsFrom_179 (by omega) ml_RX3_91 w_maxS w_mathI w_maxC (Nat.le_of_ble_eq_true rfl) ?_
                refine st_goto dX3_turnsFrom_182 197 (by decide) ?_
                exact st_sub [.null, .null, .null, .null, .null, .null, .null, .null, .null, .null] ⟨Or.inl rfl, Or.inl rfl, Or.inl rfl, Or.inl rfl, Or.inl rfl, Or.inl rfl, Or.inl rfl, Or.inl rfl, Or.inl rfl, Or.inl rfl, trivial⟩ (kj23 _ (Eq.symm (if_neg c24)))
            refine st_if_ne dX3_turnsFrom_139 146 (by decide) (fun c25 => ?_) (fun c25 => ?_)
            · refine st_iconst dX3_turnsFrom_146 (v := 0) rfl ?_
              exact st_sub [.ref 49, .int x1, .null, .null, .int x4, .int x5, .int ((H 7 3) - 1), .int q4.1, .int q6.1, .null] ⟨Or.inr rfl, Or.inr rfl, Or.inl rfl, Or.inl rfl, Or.inr rfl, Or.inr rfl, Or.inr rfl, Or.inr rfl, Or.inr rfl, Or.inl rfl, trivial⟩ (kj21 _ (Eq.symm (if_neg c25)))
            · refine st_iconst dX3_turnsFrom_142 (v := 1) rfl ?_
              refine st_goto dX3_turnsFrom_143 147 (by decide) ?_
              exact st_sub [.ref 49, .int x1, .null, .null, .int x4, .int x5, .int ((H 7 3) - 1), .int q4.1, .int q6.1, .null] ⟨Or.inr rfl, Or.inr rfl, Or.inl rfl, Or.inl rfl, Or.inr rfl, Or.inr rfl, Or.inr rfl, Or.inr rfl, Or.inr rfl, Or.inl rfl, trivial⟩ (kj21 _ (Eq.symm (if_pos c25)))
          refine st_if_ne dX3_turnsFrom_92 99 (by decide) (fun c26 => ?_) (fun c26 => ?_)
          · refine st_iconst dX3_turnsFrom_99 (v := 0) rfl ?_
            exact (kj19 _ (Eq.symm (if_neg c26)))
          · refine st_iconst dX3_turnsFrom_95 (v := 1) rfl ?_
            refine st_goto dX3_turnsFrom_96 100 (by decide) ?_
            exact (kj19 _ (Eq.symm (if_pos c26)))
        refine st_if_ne dX3_turnsFrom_58 65 (by decide) (fun c27 => ?_) (fun c27 => ?_)
        · refine st_iconst dX3_turnsFrom_65 (v := 0) rfl ?_
          exact (kj17 _ (Eq.symm (if_neg c27)))
        · refine st_iconst dX3_turnsFrom_61 (v := 1) rfl ?_
          refine st_goto dX3_turnsFrom_62 66 (by decide) ?_
          exact (kj17 _ (Eq.symm (if_pos c27)))
      · replace h := (if_neg c15).symm.trans h
        refine st_aload_n dX3_turnsFrom_20 rfl rfl ?_
        refine gR3 dX3_turnsFrom_21 (by decide) rfl 1 (by decide) fl_RX3_28 rfl 38 rfl ?_
        obtain ⟨H11, e_H11, h⟩ := bnd h
        refine st_callV [] dX3_turnsFrom_24 co_X2_settle im_X2_settle se_X2_settle ml_RX3_45 rfl (by decide) rfl (rfl : classes[2]? = some (RX2, TX2, 15)) rfl (S := []) rfl (Nat.le_of_ble_eq_true rfl) (k_X2_settle (by omega) H _ e_H11 ?_)
        show V (D + 1) RX3 mdX3_turnsFrom 27 [.ref 49, .int x1, .int x2, .int x3, .int x4, .int x5, .int ((H 7 3) - 1), .null, .null, .null] [] H11 post
        refine st_aload_n dX3_turnsFrom_27 rfl rfl ?_
        refine gR3 dX3_turnsFrom_28 (by decide) rfl 1 (by decide) fl_RX3_28 rfl 38 rfl ?_
        refine gR2 dX3_turnsFrom_31 (by decide) rfl 9 (by decide) fl_RX3_48 rfl 48 rfl ?_
        refine st_iconst dX3_turnsFrom_34 (v := 0) rfl ?_
        obtain ⟨v12, e_v12, h⟩ := bnd h
        refine st_iald dX3_turnsFrom_35 (by decide) rfl v12 e_v12 ?_
        refine st_aload_n dX3_turnsFrom_36 rfl rfl ?_
        refine gR3 dX3_turnsFrom_37 (by decide) rfl 1 (by decide) fl_RX3_28 rfl 38 rfl ?_
        refine gR2 dX3_turnsFrom_40 (by decide) rfl 9 (by decide) fl_RX3_48 rfl 48 rfl ?_
        refine st_iload dX3_turnsFrom_43 rfl ?_
        obtain ⟨v13, e_v13, h⟩ := bnd h
        refine st_iald dX3_turnsFrom_45 (by decide) rfl v13 e_v13 ?_
        refine st_isub dX3_turnsFrom_46 ?_
        obtain rfl := Option.some.inj h
        exact st_iret dX3_turnsFrom_47 rfl hp
def f_X3_outcomeOfTurns (x1 : Int32) (x2 : Int32) (x3 : Int32) (x4 : Int32) (H : Hp) : Option (Int32 × Hp) :=
  (f_X2_load H).bind fun H1 =>
  (ag H1 9 10 x1).bind fun v2 =>
  (ag H1 9 10 x2).bind fun v3 =>
  (f_X3_turnsFrom 6 v2 v3 x3 x4 1 H1).bind fun q4 =>
  some (q4.1, q4.2)
set_option maxHeartbeats 4000000 in
set_option maxRecDepth 100000 in
theorem k_X3_outcomeOfTurns {D : Nat} (hD : 11 ≤ D) (x1 : Int32) (x2 : Int32) (x3 : Int32) (x4 : Int32) (H : Hp) (q : Int32 × Hp) (h : f_X3_outcomeOfTurns x1 x2 x3 x4 H = some q) {post : Option Value → Hp → Prop} (hp : post (some (.int q.1)) q.2) : Sem D mdX3_outcomeOfTurns [.ref 49, .int x1, .int x2, .int x3, .int x4] H post := by
  obtain ⟨D, rfl⟩ : ∃ E, D = E + 1 := ⟨D - 1, by omega⟩
  refine sem_of (own := RX3) rfl pn_RX3 (Nat.le_of_ble_eq_true rfl) [.ref 49, .int x1, .int x2, .int x3, .int x4] ⟨Or.inr rfl, Or.inr rfl, Or.inr rfl, Or.inr rfl, Or.inr rfl, trivial⟩ ?_
  unfold f_X3_outcomeOfTurns at h
  refine st_aload_n dX3_outcomeOfTurns_0 rfl rfl ?_
  refine gR3 dX3_outcomeOfTurns_1 (by decide) rfl 1 (by decide) fl_RX3_28 rfl 38 rfl ?_
  refine st_aload_n dX3_outcomeOfTurns_4 rfl rfl ?_
  refine gR3 dX3_outcomeOfTurns_5 (by decide) rfl 0 (by decide) fl_RX3_25 rfl 7 rfl ?_
  obtain ⟨H1, e_H1, h⟩ := bnd h
  refine st_callV [.ref 7] dX3_outcomeOfTurns_8 co_X2_load im_X2_load se_X2_load ml_RX3_32 rfl (by decide) rfl (rfl : classes[2]? = some (RX2, TX2, 15)) rfl (S := []) rfl (Nat.le_of_ble_eq_true rfl) (k_X2_load (by omega) H _ e_H1 ?_)
  show V (D + 1) RX3 mdX3_outcomeOfTurns 11 [.ref 49, .int x1, .int x2, .int x3, .int x4] [] H1 post
  refine st_aload_n dX3_outcomeOfTurns_11 rfl rfl ?_
  refine st_aload_n dX3_outcomeOfTurns_12 rfl rfl ?_
  refine gR3 dX3_outcomeOfTurns_13 (by decide) rfl 0 (by decide) fl_RX3_25 rfl 7 rfl ?_
  refine gR4 dX3_outcomeOfTurns_16 (by decide) rfl 6 (by decide) fl_RX3_38 rfl 9 rfl ?_
  refine st_iload_n dX3_outcomeOfTurns_19 rfl rfl ?_
  obtain ⟨v2, e_v2, h⟩ := bnd h
  refine st_iald dX3_outcomeOfTurns_20 (by decide) rfl v2 e_v2 ?_
  refine st_aload_n dX3_outcomeOfTurns_21 rfl rfl ?_
  refine gR3 dX3_outcomeOfTurns_22 (by decide) rfl 0 (by decide) fl_RX3_25 rfl 7 rfl ?_
  refine gR4 dX3_outcomeOfTurns_25 (by decide) rfl 6 (by decide) fl_RX3_38 rfl 9 rfl ?_
  refine st_iload_n dX3_outcomeOfTurns_28 rfl rfl ?_
  obtain ⟨v3, e_v3, h⟩ := bnd h
  refine st_iald dX3_outcomeOfTurns_29 (by decide) rfl v3 e_v3 ?_
  refine st_iload_n dX3_outcomeOfTurns_30 rfl rfl ?_
  refine st_iload dX3_outcomeOfTurns_31 rfl ?_
  refine st_iconst dX3_outcomeOfTurns_33 (v := 1) rfl ?_
  obtain ⟨q4, e_q4, h⟩ := bnd h
  refine st_callV [.int v2, .int v3, .int x3, .int x4, .int 1] dX3_outcomeOfTurns_34 co_X3_turnsFrom im_X3_turnsFrom se_X3_turnsFrom ml_RX3_87 rfl (by decide) rfl (rfl : classes[3]? = some (RX3, TX3, 5)) rfl (S := []) rfl (Nat.le_of_ble_eq_true rfl) (k_X3_turnsFrom _ _ (by omega) v2 v3 x3 x4 1 H1 _ e_q4 ?_)
  show V (D + 1) RX3 mdX3_outcomeOfTurns 37 [.ref 49, .int x1, .int x2, .int x3, .int x4] [.int q4.1] q4.2 post
  obtain rfl := Option.some.inj h
  exact st_iret dX3_outcomeOfTurns_37 rfl hp
def f_X7_byTurns (x1 : Int32) (x2 : Int32) (x3 : Int32) (x4 : Int32) (H : Hp) : Option (Int32 × Hp) :=
  if (H 7 0) = 0 then
    some ((-1000002), H)
  else
    (f_X7_areTwoGivers x1 x2).bind fun v1 =>
    if v1 = 0 then
      some ((-1000001), H)
    else
      (f_X7_within x3 0 4).bind fun v2 =>
      if v2 = 0 then
        some ((-1000001), H)
      else
        (f_X7_within x4 1 20).bind fun v3 =>
        if v3 = 0 then
          some ((-1000001), H)
        else
          if (H 7 4) ≤ 16 then
            (f_X3_outcomeOfTurns x1 x2 x3 x4 H).bind fun q4 =>
            some (q4.1, q4.2)
          else
            some ((-1000003), H)
set_option maxHeartbeats 4000000 in
set_option maxRecDepth 100000 in
theorem k_X7_byTurns {D : Nat} (hD : 12 ≤ D) (x1 : Int32) (x2 : Int32) (x3 : Int32) (x4 : Int32) (H : Hp) (q : Int32 × Hp) (h : f_X7_byTurns x1 x2 x3 x4 H = some q) {post : Option Value → Hp → Prop} (hp : post (some (.int q.1)) q.2) : Sem D mdX7_byTurns [.ref 0, .int x1, .int x2, .int x3, .int x4] H post := by
  obtain ⟨D, rfl⟩ : ∃ E, D = E + 1 := ⟨D - 1, by omega⟩
  refine sem_of (own := RX7) rfl pn_RX7 (Nat.le_of_ble_eq_true rfl) [.ref 0, .int x1, .int x2, .int x3, .int x4] ⟨Or.inr rfl, Or.inr rfl, Or.inr rfl, Or.inr rfl, Or.inr rfl, trivial⟩ ?_
  unfold f_X7_byTurns at h
  refine st_aload_n dX7_byTurns_0 rfl rfl ?_
  refine gR7 dX7_byTurns_1 (by decide) rfl 2 (by decide) fl_RX7_26 rfl 7 rfl ?_
  refine gI4 dX7_byTurns_4 (by decide) rfl 0 (by decide) fl_RX7_181 rfl rfl ?_
  refine st_if_ne dX7_byTurns_7 13 (by decide) (fun c5 => ?_) (fun c5 => ?_)
  · replace h := (if_neg c5).symm.trans h
    refine st_iload_n dX7_byTurns_13 rfl rfl ?_
    refine st_iload_n dX7_byTurns_14 rfl rfl ?_
    obtain ⟨v1, e_v1, h⟩ := bnd h
    refine st_callS [.int x1, .int x2] dX7_byTurns_15 co_X7_areTwoGivers sm_X7_areTwoGivers ml_RX7_191 rfl (S := []) rfl (Nat.le_of_ble_eq_true rfl) (k_X7_areTwoGivers (by omega) x1 x2 H _ e_v1 ?_)
    show V (D + 1) RX7 mdX7_byTurns 18 [.ref 0, .int x1, .int x2, .int x3, .int x4] [.int v1] H post
    refine st_if_eq dX7_byTurns_18 41 (by decide) (fun c6 => ?_) (fun c6 => ?_)
    · replace h := (if_pos c6).symm.trans h
      refine st_ldc dX7_byTurns_41 cn_RX7_77 ?_
      obtain rfl := Option.some.inj h
      exact st_iret dX7_byTurns_43 rfl hp
    · replace h := (if_neg c6).symm.trans h
      refine st_iload_n dX7_byTurns_21 rfl rfl ?_
      refine st_iconst dX7_byTurns_22 (v := 0) rfl ?_
      refine st_iconst dX7_byTurns_23 (v := 4) rfl ?_
      obtain ⟨v2, e_v2, h⟩ := bnd h
      refine st_callS [.int x3, .int 0, .int 4] dX7_byTurns_24 co_X7_within sm_X7_within ml_RX7_73 rfl (S := []) rfl (Nat.le_of_ble_eq_true rfl) (k_X7_within (by omega) x3 0 4 H _ e_v2 ?_)
      show V (D + 1) RX7 mdX7_byTurns 27 [.ref 0, .int x1, .int x2, .int x3, .int x4] [.int v2] H post
      refine st_if_eq dX7_byTurns_27 41 (by decide) (fun c7 => ?_) (fun c7 => ?_)
      · replace h := (if_pos c7).symm.trans h
        refine st_ldc dX7_byTurns_41 cn_RX7_77 ?_
        obtain rfl := Option.some.inj h
        exact st_iret dX7_byTurns_43 rfl hp
      · replace h := (if_neg c7).symm.trans h
        refine st_iload dX7_byTurns_30 rfl ?_
        refine st_iconst dX7_byTurns_32 (v := 1) rfl ?_
        refine st_bipush dX7_byTurns_33 (v := 20) (by decide) ?_
        obtain ⟨v3, e_v3, h⟩ := bnd h
        refine st_callS [.int x4, .int 1, .int 20] dX7_byTurns_35 co_X7_within sm_X7_within ml_RX7_73 rfl (S := []) rfl (Nat.le_of_ble_eq_true rfl) (k_X7_within (by omega) x4 1 20 H _ e_v3 ?_)
        show V (D + 1) RX7 mdX7_byTurns 38 [.ref 0, .int x1, .int x2, .int x3, .int x4] [.int v3] H post
        refine st_if_ne dX7_byTurns_38 44 (by decide) (fun c8 => ?_) (fun c8 => ?_)
        · replace h := (if_neg c8).symm.trans h
          refine st_aload_n dX7_byTurns_44 rfl rfl ?_
          refine gR7 dX7_byTurns_45 (by decide) rfl 2 (by decide) fl_RX7_26 rfl 7 rfl ?_
          refine gI4 dX7_byTurns_48 (by decide) rfl 4 (by decide) fl_RX7_155 rfl rfl ?_
          refine st_bipush dX7_byTurns_51 (v := 16) (by decide) ?_
          refine st_ic_le dX7_byTurns_53 59 (by decide) (fun c9 => ?_) (fun c9 => ?_)
          · replace h := (if_pos c9).symm.trans h
            refine st_aload_n dX7_byTurns_59 rfl rfl ?_
            refine gR7 dX7_byTurns_60 (by decide) rfl 7 (by decide) fl_RX7_56 rfl 49 rfl ?_
            refine st_iload_n dX7_byTurns_63 rfl rfl ?_
            refine st_iload_n dX7_byTurns_64 rfl rfl ?_
            refine st_iload_n dX7_byTurns_65 rfl rfl ?_
            refine st_iload dX7_byTurns_66 rfl ?_
            obtain ⟨q4, e_q4, h⟩ := bnd h
            refine st_callV [.int x1, .int x2, .int x3, .int x4] dX7_byTurns_68 co_X3_outcomeOfTurns im_X3_outcomeOfTurns se_X3_outcomeOfTurns ml_RX7_268 rfl (by decide) rfl (rfl : classes[3]? = some (RX3, TX3, 5)) rfl (S := []) rfl (Nat.le_of_ble_eq_true rfl) (k_X3_outcomeOfTurns (by omega) x1 x2 x3 x4 H _ e_q4 ?_)
            show V (D + 1) RX7 mdX7_byTurns 71 [.ref 0, .int x1, .int x2, .int x3, .int x4] [.int q4.1] q4.2 post
            obtain rfl := Option.some.inj h
            exact st_iret dX7_byTurns_71 rfl hp
          · replace h := (if_neg c9).symm.trans h
            refine st_ldc dX7_byTurns_56 cn_RX7_117 ?_
            obtain rfl := Option.some.inj h
            exact st_iret dX7_byTurns_58 rfl hp
        · replace h := (if_pos c8).symm.trans h
          refine st_ldc dX7_byTurns_41 cn_RX7_77 ?_
          obtain rfl := Option.some.inj h
          exact st_iret dX7_byTurns_43 rfl hp
  · replace h := (if_pos c5).symm.trans h
    refine st_ldc dX7_byTurns_10 cn_RX7_145 ?_
    obtain rfl := Option.some.inj h
    exact st_iret dX7_byTurns_12 rfl hp
