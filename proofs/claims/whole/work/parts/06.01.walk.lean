def f_X6_readGifts_l2 : Nat → Int32 → Hp → Option ((Hp) ⊕ (Int32 × Hp))
  | 0, _, _ => none
  | n + 1, x2, H =>
    if 130 ≤ x2 then
      some (.inl H)
    else
      if (H 5 1) ≤ (H 5 2) then
        some (.inl H)
      else
        (f_X6_byteHere H).bind fun v1 =>
        if v1 = 103 then
          if (H 13 4) < 20 then
            (f_X6_readGift H).bind fun q2 =>
            if q2.1 = 0 then
              some (.inr (0, q2.2))
            else
              f_X6_readGifts_l2 n (x2 + 1) q2.2
          else
            (f_X6_fails 3 H).bind fun q3 =>
            (zr q3.1).bind fun z => some (.inr (z, q3.2))
        else
          (f_X6_readGift H).bind fun q4 =>
          if q4.1 = 0 then
            some (.inr (0, q4.2))
          else
            f_X6_readGifts_l2 n (x2 + 1) q4.2
def f_X6_readGifts (H : Hp) : Option (Int32 × Hp) :=
  (f_X6_readGifts_l2 fuel 0 H).bind fun l11 => Sum.elim (fun t12 =>
    some (1, t12)) (fun r => some r) l11
set_option maxHeartbeats 4000000 in
set_option maxRecDepth 100000 in
theorem k_X6_readGifts_l2 {D : Nat} (hD : 3 ≤ (D + 1)) {post : Option Value → Hp → Prop} : ∀ (n : Nat) (x2 : Int32) (H : Hp) (q : (Hp) ⊕ (Int32 × Hp)), f_X6_readGifts_l2 n x2 H = some q → (∀ t, q = .inl t → V (D + 1) RX6 mdX6_readGifts 60 [.null, .null, .null] [] t post) → (∀ r, q = .inr r → post (some (.int r.1)) r.2) → V (D + 1) RX6 mdX6_readGifts 2 [.ref 5, .ref 13, .int x2] [] H post := by
  intro n
  induction n with
  | zero => intro x2 H q h; simp [f_X6_readGifts_l2] at h
  | succ n ih =>
    intro x2 H q h k1 k2
    rw [f_X6_readGifts_l2] at h
    refine st_iload_n dX6_readGifts_2 rfl rfl ?_
    refine st_sipush dX6_readGifts_3 (v := 130) (by decide) ?_
    refine st_ic_ge dX6_readGifts_6 60 (by decide) (fun c5 => ?_) (fun c5 => ?_)
    · replace h := (if_pos c5).symm.trans h
      exact st_sub [.null, .null, .null] ⟨Or.inl rfl, Or.inl rfl, Or.inl rfl, trivial⟩ (k1 _ (Option.some.inj h).symm)
    · replace h := (if_neg c5).symm.trans h
      refine st_aload_n dX6_readGifts_9 rfl rfl ?_
      refine gI6 dX6_readGifts_10 (by decide) rfl 2 (by decide) fl_RX6_19 rfl rfl ?_
      refine st_aload_n dX6_readGifts_13 rfl rfl ?_
      refine gI6 dX6_readGifts_14 (by decide) rfl 1 (by decide) fl_RX6_15 rfl rfl ?_
      refine st_ic_ge dX6_readGifts_17 60 (by decide) (fun c6 => ?_) (fun c6 => ?_)
      · replace h := (if_pos c6).symm.trans h
        exact st_sub [.null, .null, .null] ⟨Or.inl rfl, Or.inl rfl, Or.inl rfl, trivial⟩ (k1 _ (Option.some.inj h).symm)
      · replace h := (if_neg c6).symm.trans h
        refine st_aload_n dX6_readGifts_20 rfl rfl ?_
        obtain ⟨v1, e_v1, h⟩ := bnd h
        refine st_callV [] dX6_readGifts_21 co_X6_byteHere im_X6_byteHere se_X6_byteHere ml_RX6_54 rfl (by decide) rfl (rfl : classes[6]? = some (RX6, TX6, 6)) rfl (S := []) rfl (Nat.le_of_ble_eq_true rfl) (k_X6_byteHere (by omega) H _ e_v1 ?_)
        show V (D + 1) RX6 mdX6_readGifts 24 [.ref 5, .ref 13, .int x2] [.int v1] H post
        refine st_bipush dX6_readGifts_24 (v := 103) (by decide) ?_
        refine st_ic_ne dX6_readGifts_26 44 (by decide) (fun c7 => ?_) (fun c7 => ?_)
        · replace h := (if_neg c7).symm.trans h
          refine st_aload_n dX6_readGifts_44 rfl rfl ?_
          refine st_aload_n dX6_readGifts_45 rfl rfl ?_
          obtain ⟨q4, e_q4, h⟩ := bnd h
          refine st_callV [.ref 13] dX6_readGifts_46 co_X6_readGift im_X6_readGift se_X6_readGift ml_RX6_75 rfl (by decide) rfl (rfl : classes[6]? = some (RX6, TX6, 6)) rfl (S := []) rfl (Nat.le_of_ble_eq_true rfl) (k_X6_readGift (by omega) H _ e_q4 ?_)
          show V (D + 1) RX6 mdX6_readGifts 49 [.ref 5, .ref 13, .int x2] [.int q4.1] q4.2 post
          refine st_if_ne dX6_readGifts_49 54 (by decide) (fun c10 => ?_) (fun c10 => ?_)
          · replace h := (if_neg c10).symm.trans h
            refine st_iinc dX6_readGifts_54 rfl (v := (x2 + 1)) rfl (by decide) [.ref 5, .ref 13, .int (x2 + 1)] rfl ?_
            refine st_goto dX6_readGifts_57 2 (by decide) ?_
            exact ih (x2 + 1) q4.2 q h k1 k2
          · replace h := (if_pos c10).symm.trans h
            refine st_iconst dX6_readGifts_52 (v := 0) rfl ?_
            have hp := k2 _ (Option.some.inj h).symm
            exact st_zret dX6_readGifts_53 rfl (by first | rfl | (split <;> rfl) | (repeat (first | rfl | split))) hp
        · replace h := (if_pos c7).symm.trans h
          refine st_aload_n dX6_readGifts_29 rfl rfl ?_
          refine gI4 dX6_readGifts_30 (by decide) rfl 4 (by decide) fl_RX6_72 rfl rfl ?_
          refine st_bipush dX6_readGifts_33 (v := 20) (by decide) ?_
          refine st_ic_lt dX6_readGifts_35 44 (by decide) (fun c8 => ?_) (fun c8 => ?_)
          · replace h := (if_pos c8).symm.trans h
            refine st_aload_n dX6_readGifts_44 rfl rfl ?_
            refine st_aload_n dX6_readGifts_45 rfl rfl ?_
            obtain ⟨q2, e_q2, h⟩ := bnd h
            refine st_callV [.ref 13] dX6_readGifts_46 co_X6_readGift im_X6_readGift se_X6_readGift ml_RX6_75 rfl (by decide) rfl (rfl : classes[6]? = some (RX6, TX6, 6)) rfl (S := []) rfl (Nat.le_of_ble_eq_true rfl) (k_X6_readGift (by omega) H _ e_q2 ?_)
            show V (D + 1) RX6 mdX6_readGifts 49 [.ref 5, .ref 13, .int x2] [.int q2.1] q2.2 post
            refine st_if_ne dX6_readGifts_49 54 (by decide) (fun c9 => ?_) (fun c9 => ?_)
            · replace h := (if_neg c9).symm.trans h
              refine st_iinc dX6_readGifts_54 rfl (v := (x2 + 1)) rfl (by decide) [.ref 5, .ref 13, .int (x2 + 1)] rfl ?_
              refine st_goto dX6_readGifts_57 2 (by decide) ?_
              exact ih (x2 + 1) q2.2 q h k1 k2
            · replace h := (if_pos c9).symm.trans h
              refine st_iconst dX6_readGifts_52 (v := 0) rfl ?_
              have hp := k2 _ (Option.some.inj h).symm
              exact st_zret dX6_readGifts_53 rfl (by first | rfl | (split <;> rfl) | (repeat (first | rfl | split))) hp
          · replace h := (if_neg c8).symm.trans h
            refine st_aload_n dX6_readGifts_38 rfl rfl ?_
            refine st_iconst dX6_readGifts_39 (v := 3) rfl ?_
            obtain ⟨q3, e_q3, h⟩ := bnd h
            refine st_callV [.int 3] dX6_readGifts_40 co_X6_fails im_X6_fails se_X6_fails ml_RX6_65 rfl (by decide) rfl (rfl : classes[6]? = some (RX6, TX6, 6)) rfl (S := []) rfl (Nat.le_of_ble_eq_true rfl) (k_X6_fails (by omega) 3 H _ e_q3 ?_)
            show V (D + 1) RX6 mdX6_readGifts 43 [.ref 5, .ref 13, .int x2] [.int q3.1] q3.2 post
            obtain ⟨z, hz1, h⟩ := bnd h
            obtain ⟨rfl, hz⟩ := zr_some hz1
            have hp := k2 _ (Option.some.inj h).symm
            exact st_zret dX6_readGifts_43 rfl hz hp
set_option maxHeartbeats 4000000 in
set_option maxRecDepth 100000 in
theorem k_X6_readGifts {D : Nat} (hD : 3 ≤ D) (H : Hp) (q : Int32 × Hp) (h : f_X6_readGifts H = some q) {post : Option Value → Hp → Prop} (hp : post (some (.int q.1)) q.2) : Sem D mdX6_readGifts [.ref 5, .ref 13] H post := by
  obtain ⟨D, rfl⟩ : ∃ E, D = E + 1 := ⟨D - 1, by omega⟩
  refine sem_of (own := RX6) rfl pn_RX6 (Nat.le_of_ble_eq_true rfl) [.ref 5, .ref 13, .null] ⟨Or.inr rfl, Or.inr rfl, rfl, trivial⟩ ?_
  unfold f_X6_readGifts at h
  refine st_iconst dX6_readGifts_0 (v := 0) rfl ?_
  refine st_istore_n dX6_readGifts_1 rfl (by decide) [.ref 5, .ref 13, .int 0] rfl ?_
  obtain ⟨l11, e_l11, h⟩ := bnd h
  refine k_X6_readGifts_l2 (by omega) fuel 0 H _ e_l11 (fun t12 z => ?_) (fun r z => ?_)
  · subst z
    rw [Sum.elim_inl] at h
    refine st_iconst dX6_readGifts_60 (v := 1) rfl ?_
    obtain rfl := Option.some.inj h
    exact st_zret dX6_readGifts_61 rfl (by first | rfl | (split <;> rfl) | (repeat (first | rfl | split))) hp
  · subst z
    rw [Sum.elim_inr] at h
    obtain rfl := Option.some.inj h
    exact hp
def f_X6_readInto (H : Hp) : Option (Int32 × Hp) :=
  (pf H 5 2 0).bind fun H1 =>
  (f_X4_beginAnew 13 H1).bind fun H2 =>
  (f_X6_readLaw H2).bind fun q3 =>
  Option.bind (
    if q3.1 = 0 then
      some (0, q3.2)
    else
      (f_X6_readProjects q3.2).bind fun q4 =>
      if q4.1 = 0 then
        some (0, q4.2)
      else
        (f_X6_readGifts q4.2).bind fun q5 =>
        if q5.1 = 0 then
          some (0, q5.2)
        else
          some (1, q5.2)) fun j6 =>
  (zr j6.1).bind fun z => some (z, j6.2)
set_option maxHeartbeats 4000000 in
set_option maxRecDepth 100000 in
theorem k_X6_readInto {D : Nat} (hD : 4 ≤ D) (H : Hp) (q : Int32 × Hp) (h : f_X6_readInto H = some q) {post : Option Value → Hp → Prop} (hp : post (some (.int q.1)) q.2) : Sem D mdX6_readInto [.ref 5, .ref 13] H post := by
  obtain ⟨D, rfl⟩ : ∃ E, D = E + 1 := ⟨D - 1, by omega⟩
  refine sem_of (own := RX6) rfl pn_RX6 (Nat.le_of_ble_eq_true rfl) [.ref 5, .ref 13] ⟨Or.inr rfl, Or.inr rfl, trivial⟩ ?_
  unfold f_X6_readInto at h
  refine st_aload_n dX6_readInto_0 rfl rfl ?_
  refine st_iconst dX6_readInto_1 (v := 0) rfl ?_
  obtain ⟨H1, e_H1, h⟩ := bnd h
  refine pI6 dX6_readInto_2 (by decide) rfl 2 (by decide) fl_RX6_19 rfl rfl rfl rfl e_H1 ?_
  refine st_aload_n dX6_readInto_5 rfl rfl ?_
  obtain ⟨H2, e_H2, h⟩ := bnd h
  refine st_callV [] dX6_readInto_6 co_X4_beginAnew im_X4_beginAnew se_X4_beginAnew ml_RX6_22 rfl (by decide) rfl (rfl : classes[4]? = some (RX4, TX4, 10)) rfl (S := []) rfl (Nat.le_of_ble_eq_true rfl) (k_X4_beginAnew (by omega) FC13 H1 _ e_H2 ?_)
  show V (D + 1) RX6 mdX6_readInto 9 [.ref 5, .ref 13] [] H2 post
  refine st_aload_n dX6_readInto_9 rfl rfl ?_
  refine st_aload_n dX6_readInto_10 rfl rfl ?_
  obtain ⟨q3, e_q3, h⟩ := bnd h
  refine st_callV [.ref 13] dX6_readInto_11 co_X6_readLaw im_X6_readLaw se_X6_readLaw ml_RX6_27 rfl (by decide) rfl (rfl : classes[6]? = some (RX6, TX6, 6)) rfl (S := []) rfl (Nat.le_of_ble_eq_true rfl) (k_X6_readLaw (by omega) H2 _ e_q3 ?_)
  show V (D + 1) RX6 mdX6_readInto 14 [.ref 5, .ref 13] [.int q3.1] q3.2 post
  obtain ⟨j6, e_j6, h⟩ := bnd h
  have kj7 : V (D + 1) RX6 mdX6_readInto 38 [.null, .null] [.int j6.1] j6.2 post := by
    obtain ⟨z, hz1, h⟩ := bnd h
    obtain ⟨rfl, hz⟩ := zr_some hz1
    obtain rfl := Option.some.inj h
    exact st_zret dX6_readInto_38 rfl hz hp
  refine st_if_eq dX6_readInto_14 37 (by decide) (fun c8 => ?_) (fun c8 => ?_)
  · replace e_j6 := (if_pos c8).symm.trans e_j6
    refine st_iconst dX6_readInto_37 (v := 0) rfl ?_
    obtain rfl := Option.some.inj e_j6
    exact st_sub [.null, .null] ⟨Or.inl rfl, Or.inl rfl, trivial⟩ kj7
  · replace e_j6 := (if_neg c8).symm.trans e_j6
    refine st_aload_n dX6_readInto_17 rfl rfl ?_
    refine st_aload_n dX6_readInto_18 rfl rfl ?_
    obtain ⟨q4, e_q4, e_j6⟩ := bnd e_j6
    refine st_callV [.ref 13] dX6_readInto_19 co_X6_readProjects im_X6_readProjects se_X6_readProjects ml_RX6_31 rfl (by decide) rfl (rfl : classes[6]? = some (RX6, TX6, 6)) rfl (S := []) rfl (Nat.le_of_ble_eq_true rfl) (k_X6_readProjects (by omega) q3.2 _ e_q4 ?_)
    show V (D + 1) RX6 mdX6_readInto 22 [.ref 5, .ref 13] [.int q4.1] q4.2 post
    refine st_if_eq dX6_readInto_22 37 (by decide) (fun c9 => ?_) (fun c9 => ?_)
    · replace e_j6 := (if_pos c9).symm.trans e_j6
      refine st_iconst dX6_readInto_37 (v := 0) rfl ?_
      obtain rfl := Option.some.inj e_j6
      exact st_sub [.null, .null] ⟨Or.inl rfl, Or.inl rfl, trivial⟩ kj7
    · replace e_j6 := (if_neg c9).symm.trans e_j6
      refine st_aload_n dX6_readInto_25 rfl rfl ?_
      refine st_aload_n dX6_readInto_26 rfl rfl ?_
      obtain ⟨q5, e_q5, e_j6⟩ := bnd e_j6
      refine st_callV [.ref 13] dX6_readInto_27 co_X6_readGifts im_X6_readGifts se_X6_readGifts ml_RX6_34 rfl (by decide) rfl (rfl : classes[6]? = some (RX6, TX6, 6)) rfl (S := []) rfl (Nat.le_of_ble_eq_true rfl) (k_X6_readGifts (by omega) q4.2 _ e_q5 ?_)
      show V (D + 1) RX6 mdX6_readInto 30 [.ref 5, .ref 13] [.int q5.1] q5.2 post
      refine st_if_eq dX6_readInto_30 37 (by decide) (fun c10 => ?_) (fun c10 => ?_)
      · replace e_j6 := (if_pos c10).symm.trans e_j6
        refine st_iconst dX6_readInto_37 (v := 0) rfl ?_
        obtain rfl := Option.some.inj e_j6
        exact st_sub [.null, .null] ⟨Or.inl rfl, Or.inl rfl, trivial⟩ kj7
      · replace e_j6 := (if_neg c10).symm.trans e_j6
        refine st_iconst dX6_readInto_33 (v := 1) rfl ?_
        refine st_goto dX6_readInto_34 38 (by decide) ?_
        obtain rfl := Option.some.inj e_j6
        exact st_sub [.null, .null] ⟨Or.inl rfl, Or.inl rfl, trivial⟩ kj7
def f_X4_becomeLike (b : Nat) (o : Nat) (H : Hp) : Option (Hp) :=
  (pz H b 0 (H o 0)).bind fun H1 =>
  (pf H1 b 1 (H1 o 1)).bind fun H2 =>
  (pf H2 b 2 (H2 o 2)).bind fun H3 =>
  (pf H3 b 3 (H3 o 3)).bind fun H4 =>
  (pf H4 b 4 (H4 o 4)).bind fun H5 =>
  (ac H5 (o + 1) 6 0 (b + 1) 6 0 6).bind fun H6 =>
  (ac H6 (o + 2) 10 0 (b + 2) 10 0 10).bind fun H7 =>
  (ac H7 (o + 3) 20 0 (b + 3) 20 0 20).bind fun H8 =>
  (ac H8 (o + 4) 20 0 (b + 4) 20 0 20).bind fun H9 =>
  (ac H9 (o + 5) 20 0 (b + 5) 20 0 20).bind fun H10 =>
  some H10
set_option maxHeartbeats 4000000 in
set_option maxRecDepth 100000 in
theorem k_X4_becomeLike {D : Nat} (hD : 1 ≤ D) {b : Nat} (hb : FC b) {o : Nat} (ho : FC o) (H : Hp) (q : Hp) (h : f_X4_becomeLike b o H = some q) {post : Option Value → Hp → Prop} (hp : post none q) : Sem D mdX4_becomeLike [.ref b, .ref o] H post := by
  obtain ⟨D, rfl⟩ : ∃ E, D = E + 1 := ⟨D - 1, by omega⟩
  refine sem_of (own := RX4) rfl pn_RX4 (Nat.le_of_ble_eq_true rfl) [.ref b, .ref o] ⟨Or.inr rfl, Or.inr rfl, trivial⟩ ?_
  unfold f_X4_becomeLike at h
  refine st_aload_n dX4_becomeLike_0 rfl rfl ?_
  refine st_aload_n dX4_becomeLike_1 rfl rfl ?_
  refine gI4 dX4_becomeLike_2 (FC_0 ho).1 (FC_0 ho).2 0 (by decide) fl_RX4_27 rfl (FN_0 ho) ?_
  obtain ⟨H1, e_H1, h⟩ := bnd h
  refine pZ4 dX4_becomeLike_5 (FC_0 hb).1 (FC_0 hb).2 0 (by decide) fl_RX4_27 rfl rfl (FN_0 hb) rfl e_H1 ?_
  refine st_aload_n dX4_becomeLike_8 rfl rfl ?_
  refine st_aload_n dX4_becomeLike_9 rfl rfl ?_
  refine gI4 dX4_becomeLike_10 (FC_0 ho).1 (FC_0 ho).2 1 (by decide) fl_RX4_31 rfl (FN_1 ho) ?_
  obtain ⟨H2, e_H2, h⟩ := bnd h
  refine pI4 dX4_becomeLike_13 (FC_0 hb).1 (FC_0 hb).2 1 (by decide) fl_RX4_31 rfl rfl (FN_1 hb) rfl e_H2 ?_
  refine st_aload_n dX4_becomeLike_16 rfl rfl ?_
  refine st_aload_n dX4_becomeLike_17 rfl rfl ?_
  refine gI4 dX4_becomeLike_18 (FC_0 ho).1 (FC_0 ho).2 2 (by decide) fl_RX4_35 rfl (FN_2 ho) ?_
  obtain ⟨H3, e_H3, h⟩ := bnd h
  refine pI4 dX4_becomeLike_21 (FC_0 hb).1 (FC_0 hb).2 2 (by decide) fl_RX4_35 rfl rfl (FN_2 hb) rfl e_H3 ?_
  refine st_aload_n dX4_becomeLike_24 rfl rfl ?_
  refine st_aload_n dX4_becomeLike_25 rfl rfl ?_
  refine gI4 dX4_becomeLike_26 (FC_0 ho).1 (FC_0 ho).2 3 (by decide) fl_RX4_38 rfl (FN_3 ho) ?_
  obtain ⟨H4, e_H4, h⟩ := bnd h
  refine pI4 dX4_becomeLike_29 (FC_0 hb).1 (FC_0 hb).2 3 (by decide) fl_RX4_38 rfl rfl (FN_3 hb) rfl e_H4 ?_
  refine st_aload_n dX4_becomeLike_32 rfl rfl ?_
  refine st_aload_n dX4_becomeLike_33 rfl rfl ?_
  refine gI4 dX4_becomeLike_34 (FC_0 ho).1 (FC_0 ho).2 4 (by decide) fl_RX4_41 rfl (FN_4 ho) ?_
  obtain ⟨H5, e_H5, h⟩ := bnd h
  refine pI4 dX4_becomeLike_37 (FC_0 hb).1 (FC_0 hb).2 4 (by decide) fl_RX4_41 rfl rfl (FN_4 hb) rfl e_H5 ?_
  refine st_aload_n dX4_becomeLike_40 rfl rfl ?_
  refine gR4 dX4_becomeLike_41 (FC_0 ho).1 (FC_0 ho).2 5 (by decide) fl_RX4_9 rfl (o + 1) (FR_5 ho) ?_
  refine st_iconst dX4_becomeLike_44 (v := 0) rfl ?_
  refine st_aload_n dX4_becomeLike_45 rfl rfl ?_
  refine gR4 dX4_becomeLike_46 (FC_0 hb).1 (FC_0 hb).2 5 (by decide) fl_RX4_9 rfl (b + 1) (FR_5 hb) ?_
  refine st_iconst dX4_becomeLike_49 (v := 0) rfl ?_
  refine st_bipush dX4_becomeLike_50 (v := 6) (by decide) ?_
  obtain ⟨H6, e_H6, h⟩ := bnd h
  refine st_copy dX4_becomeLike_52 (by omega) (FC_1 ho).1 (FC_1 ho).2 (FC_1 hb).1 (FC_1 hb).2 ml_RX4_44 w_acN w_acS w_acI (Nat.le_of_ble_eq_true rfl) H6 e_H6 ?_
  refine st_aload_n dX4_becomeLike_55 rfl rfl ?_
  refine gR4 dX4_becomeLike_56 (FC_0 ho).1 (FC_0 ho).2 6 (by decide) fl_RX4_15 rfl (o + 2) (FR_6 ho) ?_
  refine st_iconst dX4_becomeLike_59 (v := 0) rfl ?_
  refine st_aload_n dX4_becomeLike_60 rfl rfl ?_
  refine gR4 dX4_becomeLike_61 (FC_0 hb).1 (FC_0 hb).2 6 (by decide) fl_RX4_15 rfl (b + 2) (FR_6 hb) ?_
  refine st_iconst dX4_becomeLike_64 (v := 0) rfl ?_
  refine st_bipush dX4_becomeLike_65 (v := 10) (by decide) ?_
  obtain ⟨H7, e_H7, h⟩ := bnd h
  refine st_copy dX4_becomeLike_67 (by omega) (FC_2 ho).1 (FC_2 ho).2 (FC_2 hb).1 (FC_2 hb).2 ml_RX4_44 w_acN w_acS w_acI (Nat.le_of_ble_eq_true rfl) H7 e_H7 ?_
  refine st_aload_n dX4_becomeLike_70 rfl rfl ?_
  refine gR4 dX4_becomeLike_71 (FC_0 ho).1 (FC_0 ho).2 7 (by decide) fl_RX4_18 rfl (o + 3) (FR_7 ho) ?_
  refine st_iconst dX4_becomeLike_74 (v := 0) rfl ?_
  refine st_aload_n dX4_becomeLike_75 rfl rfl ?_
  refine gR4 dX4_becomeLike_76 (FC_0 hb).1 (FC_0 hb).2 7 (by decide) fl_RX4_18 rfl (b + 3) (FR_7 hb) ?_
  refine st_iconst dX4_becomeLike_79 (v := 0) rfl ?_
  refine st_bipush dX4_becomeLike_80 (v := 20) (by decide) ?_
  obtain ⟨H8, e_H8, h⟩ := bnd h
  refine st_copy dX4_becomeLike_82 (by omega) (FC_3 ho).1 (FC_3 ho).2 (FC_3 hb).1 (FC_3 hb).2 ml_RX4_44 w_acN w_acS w_acI (Nat.le_of_ble_eq_true rfl) H8 e_H8 ?_
  refine st_aload_n dX4_becomeLike_85 rfl rfl ?_
  refine gR4 dX4_becomeLike_86 (FC_0 ho).1 (FC_0 ho).2 8 (by decide) fl_RX4_21 rfl (o + 4) (FR_8 ho) ?_
  refine st_iconst dX4_becomeLike_89 (v := 0) rfl ?_
  refine st_aload_n dX4_becomeLike_90 rfl rfl ?_
  refine gR4 dX4_becomeLike_91 (FC_0 hb).1 (FC_0 hb).2 8 (by decide) fl_RX4_21 rfl (b + 4) (FR_8 hb) ?_
  refine st_iconst dX4_becomeLike_94 (v := 0) rfl ?_
  refine st_bipush dX4_becomeLike_95 (v := 20) (by decide) ?_
  obtain ⟨H9, e_H9, h⟩ := bnd h
  refine st_copy dX4_becomeLike_97 (by omega) (FC_4 ho).1 (FC_4 ho).2 (FC_4 hb).1 (FC_4 hb).2 ml_RX4_44 w_acN w_acS w_acI (Nat.le_of_ble_eq_true rfl) H9 e_H9 ?_
  refine st_aload_n dX4_becomeLike_100 rfl rfl ?_
  refine gR4 dX4_becomeLike_101 (FC_0 ho).1 (FC_0 ho).2 9 (by decide) fl_RX4_24 rfl (o + 5) (FR_9 ho) ?_
  refine st_iconst dX4_becomeLike_104 (v := 0) rfl ?_
  refine st_aload_n dX4_becomeLike_105 rfl rfl ?_
  refine gR4 dX4_becomeLike_106 (FC_0 hb).1 (FC_0 hb).2 9 (by decide) fl_RX4_24 rfl (b + 5) (FR_9 hb) ?_
  refine st_iconst dX4_becomeLike_109 (v := 0) rfl ?_
  refine st_bipush dX4_becomeLike_110 (v := 20) (by decide) ?_
  obtain ⟨H10, e_H10, h⟩ := bnd h
  refine st_copy dX4_becomeLike_112 (by omega) (FC_5 ho).1 (FC_5 ho).2 (FC_5 hb).1 (FC_5 hb).2 ml_RX4_44 w_acN w_acS w_acI (Nat.le_of_ble_eq_true rfl) H10 e_H10 ?_
  obtain rfl := Option.some.inj h
  exact st_vret dX4_becomeLike_115 rfl hp
def f_X0_forgetAll (H : Hp) : Option (Hp) :=
  (pf H 32 6 0).bind fun H1 =>
  some H1
set_option maxHeartbeats 4000000 in
set_option maxRecDepth 100000 in
theorem k_X0_forgetAll {D : Nat} (hD : 0 ≤ D) (H : Hp) (q : Hp) (h : f_X0_forgetAll H = some q) {post : Option Value → Hp → Prop} (hp : post none q) : Sem D mdX0_forgetAll [.ref 32] H post := by
  refine sem_of (own := RX0) rfl pn_RX0 (Nat.le_of_ble_eq_true rfl) [.ref 32] ⟨Or.inr rfl, trivial⟩ ?_
  unfold f_X0_forgetAll at h
  refine st_aload_n dX0_forgetAll_0 rfl rfl ?_
  refine st_iconst dX0_forgetAll_1 (v := 0) rfl ?_
  obtain ⟨H1, e_H1, h⟩ := bnd h
  refine pI0 dX0_forgetAll_2 (by decide) rfl 6 (by decide) fl_RX0_29 rfl rfl rfl rfl e_H1 ?_
  obtain rfl := Option.some.inj h
  exact st_vret dX0_forgetAll_5 rfl hp
def f_X7_fund (H : Hp) : Option (Int32 × Hp) :=
  (f_X6_readInto H).bind fun q1 =>
  (pf q1.2 5 1 0).bind fun H2 =>
  if q1.1 = 0 then
    (pf H2 0 9 (H2 5 4)).bind fun H3 =>
    some (((-1000100) - (H3 5 5)), H3)
  else
    (f_X4_becomeLike 7 13 H2).bind fun H4 =>
    (f_X0_forgetAll H4).bind fun H5 =>
    some ((H5 7 3), H5)
set_option maxHeartbeats 4000000 in
set_option maxRecDepth 100000 in
theorem k_X7_fund {D : Nat} (hD : 5 ≤ D) (H : Hp) (q : Int32 × Hp) (h : f_X7_fund H = some q) {post : Option Value → Hp → Prop} (hp : post (some (.int q.1)) q.2) : Sem D mdX7_fund [.ref 0] H post := by
  obtain ⟨D, rfl⟩ : ∃ E, D = E + 1 := ⟨D - 1, by omega⟩
  refine sem_of (own := RX7) rfl pn_RX7 (Nat.le_of_ble_eq_true rfl) [.ref 0, .null] ⟨Or.inr rfl, rfl, trivial⟩ ?_
  unfold f_X7_fund at h
  refine st_aload_n dX7_fund_0 rfl rfl ?_
  refine gR7 dX7_fund_1 (by decide) rfl 1 (by decide) fl_RX7_19 rfl 5 rfl ?_
  refine st_aload_n dX7_fund_4 rfl rfl ?_
  refine gR7 dX7_fund_5 (by decide) rfl 3 (by decide) fl_RX7_30 rfl 13 rfl ?_
  obtain ⟨q1, e_q1, h⟩ := bnd h
  refine st_callV [.ref 13] dX7_fund_8 co_X6_readInto im_X6_readInto se_X6_readInto ml_RX7_118 rfl (by decide) rfl (rfl : classes[6]? = some (RX6, TX6, 6)) rfl (S := []) rfl (Nat.le_of_ble_eq_true rfl) (k_X6_readInto (by omega) H _ e_q1 ?_)
  show V (D + 1) RX7 mdX7_fund 11 [.ref 0, .null] [.int q1.1] q1.2 post
  refine st_istore_n dX7_fund_11 rfl (by decide) [.ref 0, .int q1.1] rfl ?_
  refine st_aload_n dX7_fund_12 rfl rfl ?_
  refine gR7 dX7_fund_13 (by decide) rfl 1 (by decide) fl_RX7_19 rfl 5 rfl ?_
  refine st_iconst dX7_fund_16 (v := 0) rfl ?_
  obtain ⟨H2, e_H2, h⟩ := bnd h
  refine pI6 dX7_fund_17 (by decide) rfl 1 (by decide) fl_RX7_113 rfl rfl rfl rfl e_H2 ?_
  refine st_iload_n dX7_fund_20 rfl rfl ?_
  refine st_if_ne dX7_fund_21 46 (by decide) (fun c6 => ?_) (fun c6 => ?_)
  · replace h := (if_neg c6).symm.trans h
    refine st_aload_n dX7_fund_46 rfl rfl ?_
    refine gR7 dX7_fund_47 (by decide) rfl 2 (by decide) fl_RX7_26 rfl 7 rfl ?_
    refine st_aload_n dX7_fund_50 rfl rfl ?_
    refine gR7 dX7_fund_51 (by decide) rfl 3 (by decide) fl_RX7_30 rfl 13 rfl ?_
    obtain ⟨H4, e_H4, h⟩ := bnd h
    refine st_callV [.ref 13] dX7_fund_54 co_X4_becomeLike im_X4_becomeLike se_X4_becomeLike ml_RX7_132 rfl (by decide) rfl (rfl : classes[4]? = some (RX4, TX4, 10)) rfl (S := []) rfl (Nat.le_of_ble_eq_true rfl) (k_X4_becomeLike (by omega) FC7 FC13 H2 _ e_H4 ?_)
    show V (D + 1) RX7 mdX7_fund 57 [.ref 0, .int q1.1] [] H4 post
    refine st_aload_n dX7_fund_57 rfl rfl ?_
    refine gR7 dX7_fund_58 (by decide) rfl 5 (by decide) fl_RX7_40 rfl 32 rfl ?_
    obtain ⟨H5, e_H5, h⟩ := bnd h
    refine st_callV [] dX7_fund_61 co_X0_forgetAll im_X0_forgetAll se_X0_forgetAll ml_RX7_136 rfl (by decide) rfl (rfl : classes[0]? = some (RX0, TX0, 7)) rfl (S := []) rfl (Nat.le_of_ble_eq_true rfl) (k_X0_forgetAll (by omega) H4 _ e_H5 ?_)
    show V (D + 1) RX7 mdX7_fund 64 [.ref 0, .int q1.1] [] H5 post
    refine st_aload_n dX7_fund_64 rfl rfl ?_
    refine gR7 dX7_fund_65 (by decide) rfl 2 (by decide) fl_RX7_26 rfl 7 rfl ?_
    refine gI4 dX7_fund_68 (by decide) rfl 3 (by decide) fl_RX7_139 rfl rfl ?_
    obtain rfl := Option.some.inj h
    exact st_iret dX7_fund_71 rfl hp
  · replace h := (if_pos c6).symm.trans h
    refine st_aload_n dX7_fund_24 rfl rfl ?_
    refine st_aload_n dX7_fund_25 rfl rfl ?_
    refine gR7 dX7_fund_26 (by decide) rfl 1 (by decide) fl_RX7_19 rfl 5 rfl ?_
    refine gI6 dX7_fund_29 (by decide) rfl 4 (by decide) fl_RX7_122 rfl rfl ?_
    obtain ⟨H3, e_H3, h⟩ := bnd h
    refine pI7 dX7_fund_32 (by decide) rfl 9 (by decide) fl_RX7_125 rfl rfl rfl rfl e_H3 ?_
    refine st_ldc dX7_fund_35 cn_RX7_128 ?_
    refine st_aload_n dX7_fund_37 rfl rfl ?_
    refine gR7 dX7_fund_38 (by decide) rfl 1 (by decide) fl_RX7_19 rfl 5 rfl ?_
    refine gI6 dX7_fund_41 (by decide) rfl 5 (by decide) fl_RX7_129 rfl rfl ?_
    refine st_isub dX7_fund_44 ?_
    obtain rfl := Option.some.inj h
    exact st_iret dX7_fund_45 rfl hp
def f_X7_fault (H : Hp) : Option (Int32) :=
  some (H 0 9)
set_option maxHeartbeats 4000000 in
set_option maxRecDepth 100000 in
theorem k_X7_fault {D : Nat} (hD : 0 ≤ D) (H : Hp) (q : Int32) (h : f_X7_fault H = some q) {post : Option Value → Hp → Prop} (hp : post (some (.int q)) H) : Sem D mdX7_fault [.ref 0] H post := by
  refine sem_of (own := RX7) rfl pn_RX7 (Nat.le_of_ble_eq_true rfl) [.ref 0] ⟨Or.inr rfl, trivial⟩ ?_
  unfold f_X7_fault at h
  refine st_aload_n dX7_fault_0 rfl rfl ?_
  refine gI7 dX7_fault_1 (by decide) rfl 9 (by decide) fl_RX7_125 rfl rfl ?_
  obtain rfl := Option.some.inj h
  exact st_iret dX7_fault_4 rfl hp
def f_X4_takeGift_l12 (b : Nat) : Nat → Int32 → Hp → Option (Hp)
  | 0, _, _ => none
  | n + 1, x2, H =>
    if (H b 4) ≤ x2 then
      some H
    else
      (ag H (b + 3) 20 (x2 + 1)).bind fun v2 =>
      (as H (b + 3) 20 x2 v2).bind fun H3 =>
      (ag H3 (b + 4) 20 (x2 + 1)).bind fun v4 =>
      (as H3 (b + 4) 20 x2 v4).bind fun H5 =>
      (ag H5 (b + 5) 20 (x2 + 1)).bind fun v6 =>
      (as H5 (b + 5) 20 x2 v6).bind fun H7 =>
      f_X4_takeGift_l12 b n (x2 + 1) H7
def f_X4_takeGift (b : Nat) (x1 : Int32) (H : Hp) : Option (Hp) :=
  (pf H b 4 ((H b 4) - 1)).bind fun H1 =>
  (f_X4_takeGift_l12 b fuel x1 H1).bind fun l9 =>
  some l9
set_option maxHeartbeats 4000000 in
set_option maxRecDepth 100000 in
theorem k_X4_takeGift_l12 {D : Nat} (hD : 0 ≤ D) {b : Nat} (hb : FC b) {post : Option Value → Hp → Prop} : ∀ (n : Nat) (x2 : Int32) (H : Hp) (q : Hp), f_X4_takeGift_l12 b n x2 H = some q → V D RX4 mdX4_takeGift 68 [.null, .null, .null] [] q post → V D RX4 mdX4_takeGift 12 [.ref b, .null, .int x2] [] H post := by
  intro n
  induction n with
  | zero => intro x2 H q h; simp [f_X4_takeGift_l12] at h
  | succ n ih =>
    intro x2 H q h k1
    rw [f_X4_takeGift_l12] at h
    refine st_iload_n dX4_takeGift_12 rfl rfl ?_
    refine st_aload_n dX4_takeGift_13 rfl rfl ?_
    refine gI4 dX4_takeGift_14 (FC_0 hb).1 (FC_0 hb).2 4 (by decide) fl_RX4_41 rfl (FN_4 hb) ?_
    refine st_ic_ge dX4_takeGift_17 68 (by decide) (fun c8 => ?_) (fun c8 => ?_)
    · replace h := (if_pos c8).symm.trans h
      obtain rfl := Option.some.inj h
      exact st_sub [.null, .null, .null] ⟨Or.inl rfl, Or.inl rfl, Or.inl rfl, trivial⟩ k1
    · replace h := (if_neg c8).symm.trans h
      refine st_aload_n dX4_takeGift_20 rfl rfl ?_
      refine gR4 dX4_takeGift_21 (FC_0 hb).1 (FC_0 hb).2 7 (by decide) fl_RX4_18 rfl (b + 3) (FR_7 hb) ?_
      refine st_iload_n dX4_takeGift_24 rfl rfl ?_
      refine st_aload_n dX4_takeGift_25 rfl rfl ?_
      refine gR4 dX4_takeGift_26 (FC_0 hb).1 (FC_0 hb).2 7 (by decide) fl_RX4_18 rfl (b + 3) (FR_7 hb) ?_
      refine st_iload_n dX4_takeGift_29 rfl rfl ?_
      refine st_iconst dX4_takeGift_30 (v := 1) rfl ?_
      refine st_iadd dX4_takeGift_31 ?_
      obtain ⟨v2, e_v2, h⟩ := bnd h
      refine st_iald dX4_takeGift_32 (FC_3 hb).1 (FC_3 hb).2 v2 e_v2 ?_
      obtain ⟨H3, e_H3, h⟩ := bnd h
      refine st_iast dX4_takeGift_33 (FC_3 hb).1 (FC_3 hb).2 H3 e_H3 ?_
      refine st_aload_n dX4_takeGift_34 rfl rfl ?_
      refine gR4 dX4_takeGift_35 (FC_0 hb).1 (FC_0 hb).2 8 (by decide) fl_RX4_21 rfl (b + 4) (FR_8 hb) ?_
      refine st_iload_n dX4_takeGift_38 rfl rfl ?_
      refine st_aload_n dX4_takeGift_39 rfl rfl ?_
      refine gR4 dX4_takeGift_40 (FC_0 hb).1 (FC_0 hb).2 8 (by decide) fl_RX4_21 rfl (b + 4) (FR_8 hb) ?_
      refine st_iload_n dX4_takeGift_43 rfl rfl ?_
      refine st_iconst dX4_takeGift_44 (v := 1) rfl ?_
      refine st_iadd dX4_takeGift_45 ?_
      obtain ⟨v4, e_v4, h⟩ := bnd h
      refine st_iald dX4_takeGift_46 (FC_4 hb).1 (FC_4 hb).2 v4 e_v4 ?_
      obtain ⟨H5, e_H5, h⟩ := bnd h
      refine st_iast dX4_takeGift_47 (FC_4 hb).1 (FC_4 hb).2 H5 e_H5 ?_
      refine st_aload_n dX4_takeGift_48 rfl rfl ?_
      refine gR4 dX4_takeGift_49 (FC_0 hb).1 (FC_0 hb).2 9 (by decide) fl_RX4_24 rfl (b + 5) (FR_9 hb) ?_
      refine st_iload_n dX4_takeGift_52 rfl rfl ?_
      refine st_aload_n dX4_takeGift_53 rfl rfl ?_
      refine gR4 dX4_takeGift_54 (FC_0 hb).1 (FC_0 hb).2 9 (by decide) fl_RX4_24 rfl (b + 5) (FR_9 hb) ?_
      refine st_iload_n dX4_takeGift_57 rfl rfl ?_
      refine st_iconst dX4_takeGift_58 (v := 1) rfl ?_
      refine st_iadd dX4_takeGift_59 ?_
      obtain ⟨v6, e_v6, h⟩ := bnd h
      refine st_iald dX4_takeGift_60 (FC_5 hb).1 (FC_5 hb).2 v6 e_v6 ?_
      obtain ⟨H7, e_H7, h⟩ := bnd h
      refine st_iast dX4_takeGift_61 (FC_5 hb).1 (FC_5 hb).2 H7 e_H7 ?_
      refine st_iinc dX4_takeGift_62 rfl (v := (x2 + 1)) rfl (by decide) [.ref b, .null, .int (x2 + 1)] rfl ?_
      refine st_goto dX4_takeGift_65 12 (by decide) ?_
      exact ih (x2 + 1) H7 q h k1
set_option maxHeartbeats 4000000 in
set_option maxRecDepth 100000 in
theorem k_X4_takeGift {D : Nat} (hD : 0 ≤ D) {b : Nat} (hb : FC b) (x1 : Int32) (H : Hp) (q : Hp) (h : f_X4_takeGift b x1 H = some q) {post : Option Value → Hp → Prop} (hp : post none q) : Sem D mdX4_takeGift [.ref b, .int x1] H post := by
  refine sem_of (own := RX4) rfl pn_RX4 (Nat.le_of_ble_eq_true rfl) [.ref b, .int x1, .null] ⟨Or.inr rfl, Or.inr rfl, rfl, trivial⟩ ?_
  unfold f_X4_takeGift at h
  refine st_aload_n dX4_takeGift_0 rfl rfl ?_
  refine st_dup dX4_takeGift_1 rfl ?_
  refine gI4 dX4_takeGift_2 (FC_0 hb).1 (FC_0 hb).2 4 (by decide) fl_RX4_41 rfl (FN_4 hb) ?_
  refine st_iconst dX4_takeGift_5 (v := 1) rfl ?_
  refine st_isub dX4_takeGift_6 ?_
  obtain ⟨H1, e_H1, h⟩ := bnd h
  refine pI4 dX4_takeGift_7 (FC_0 hb).1 (FC_0 hb).2 4 (by decide) fl_RX4_41 rfl rfl (FN_4 hb) rfl e_H1 ?_
  refine st_iload_n dX4_takeGift_10 rfl rfl ?_
  refine st_istore_n dX4_takeGift_11 rfl (by decide) [.ref b, .int x1, .int x1] rfl ?_
  refine st_sub [.ref b, .null, .int x1] ⟨Or.inr rfl, Or.inl rfl, Or.inr rfl, trivial⟩ ?_
  obtain ⟨l9, e_l9, h⟩ := bnd h
  refine k_X4_takeGift_l12 (by omega) hb fuel x1 H1 _ e_l9 ?_
  obtain rfl := Option.some.inj h
  exact st_vret dX4_takeGift_68 rfl hp
def f_X4_rename_l2 (b : Nat) (x1 : Int32) (x2 : Int32) : Nat → Int32 → Hp → Option (Hp)
  | 0, _, _ => none
  | n + 1, x3, H =>
    if 10 ≤ x3 then
      some H
    else
      Option.bind (
        if ((x1 >>> (x3 &&& 31)) &&& 1) = 1 then
          (as H (b + 2) 10 x3 x2).bind fun H1 =>
          some H1
        else
          some H) fun j2 =>
      f_X4_rename_l2 b x1 x2 n (x3 + 1) j2
def f_X4_rename (b : Nat) (x1 : Int32) (x2 : Int32) (H : Hp) : Option (Hp) :=
  (f_X4_rename_l2 b x1 x2 fuel 0 H).bind fun l6 =>
  some l6
set_option maxHeartbeats 4000000 in
set_option maxRecDepth 100000 in
theorem k_X4_rename_l2 {D : Nat} (hD : 0 ≤ D) {b : Nat} (hb : FC b) (x1 : Int32) (x2 : Int32) {post : Option Value → Hp → Prop} : ∀ (n : Nat) (x3 : Int32) (H : Hp) (q : Hp), f_X4_rename_l2 b x1 x2 n x3 H = some q → V D RX4 mdX4_rename 30 [.null, .null, .null, .null] [] q post → V D RX4 mdX4_rename 2 [.ref b, .int x1, .int x2, .int x3] [] H post := by
  intro n
  induction n with
  | zero => intro x3 H q h; simp [f_X4_rename_l2] at h
  | succ n ih =>
    intro x3 H q h k1
    rw [f_X4_rename_l2] at h
    refine st_iload_n dX4_rename_2 rfl rfl ?_
    refine st_bipush dX4_rename_3 (v := 10) (by decide) ?_
    refine st_ic_ge dX4_rename_5 30 (by decide) (fun c3 => ?_) (fun c3 => ?_)
    · replace h := (if_pos c3).symm.trans h
      obtain rfl := Option.some.inj h
      exact st_sub [.null, .null, .null, .null] ⟨Or.inl rfl, Or.inl rfl, Or.inl rfl, Or.inl rfl, trivial⟩ k1
    · replace h := (if_neg c3).symm.trans h
      refine st_iload_n dX4_rename_8 rfl rfl ?_
      refine st_iload_n dX4_rename_9 rfl rfl ?_
      refine st_ishr dX4_rename_10 ?_
      refine st_iconst dX4_rename_11 (v := 1) rfl ?_
      refine st_iand dX4_rename_12 ?_
      refine st_iconst dX4_rename_13 (v := 1) rfl ?_
      obtain ⟨j2, e_j2, h⟩ := bnd h
      have kj4 : V D RX4 mdX4_rename 24 [.ref b, .int x1, .int x2, .int x3] [] j2 post := by
        refine st_iinc dX4_rename_24 rfl (v := (x3 + 1)) rfl (by decide) [.ref b, .int x1, .int x2, .int (x3 + 1)] rfl ?_
        refine st_goto dX4_rename_27 2 (by decide) ?_
        exact ih (x3 + 1) j2 q h k1
      refine st_ic_ne dX4_rename_14 24 (by decide) (fun c5 => ?_) (fun c5 => ?_)
      · replace e_j2 := (if_neg c5).symm.trans e_j2
        obtain rfl := Option.some.inj e_j2
        exact kj4
      · replace e_j2 := (if_pos c5).symm.trans e_j2
        refine st_aload_n dX4_rename_17 rfl rfl ?_
        refine gR4 dX4_rename_18 (FC_0 hb).1 (FC_0 hb).2 6 (by decide) fl_RX4_15 rfl (b + 2) (FR_6 hb) ?_
        refine st_iload_n dX4_rename_21 rfl rfl ?_
        refine st_iload_n dX4_rename_22 rfl rfl ?_
        obtain ⟨H1, e_H1, e_j2⟩ := bnd e_j2
        refine st_iast dX4_rename_23 (FC_2 hb).1 (FC_2 hb).2 H1 e_H1 ?_
        obtain rfl := Option.some.inj e_j2
        exact kj4
set_option maxHeartbeats 4000000 in
set_option maxRecDepth 100000 in
theorem k_X4_rename {D : Nat} (hD : 0 ≤ D) {b : Nat} (hb : FC b) (x1 : Int32) (x2 : Int32) (H : Hp) (q : Hp) (h : f_X4_rename b x1 x2 H = some q) {post : Option Value → Hp → Prop} (hp : post none q) : Sem D mdX4_rename [.ref b, .int x1, .int x2] H post := by
  refine sem_of (own := RX4) rfl pn_RX4 (Nat.le_of_ble_eq_true rfl) [.ref b, .int x1, .int x2, .null] ⟨Or.inr rfl, Or.inr rfl, Or.inr rfl, rfl, trivial⟩ ?_
  unfold f_X4_rename at h
  refine st_iconst dX4_rename_0 (v := 0) rfl ?_
  refine st_istore_n dX4_rename_1 rfl (by decide) [.ref b, .int x1, .int x2, .int 0] rfl ?_
  obtain ⟨l6, e_l6, h⟩ := bnd h
  refine k_X4_rename_l2 (by omega) hb x1 x2 fuel 0 H _ e_l6 ?_
  obtain rfl := Option.some.inj h
  exact st_vret dX4_rename_30 rfl hp
def f_X0_revertLatest (H : Hp) : Option (Hp) :=
  (pf H 32 5 (if (H 32 5) = 0 then 23 else ((H 32 5) - 1))).bind fun H1 =>
  (pf H1 32 6 ((H1 32 6) - 1)).bind fun H2 =>
  (ag H2 33 24 (H2 32 5)).bind fun v3 =>
  if v3 = 0 then
    (f_X4_takeGift 7 ((H2 7 4) - 1) H2).bind fun H4 =>
    some H4
  else
  if v3 = 1 then
    (ag H2 34 24 (H2 32 5)).bind fun v5 =>
    (ag H2 35 24 (H2 32 5)).bind fun v6 =>
    (ag H2 36 24 (H2 32 5)).bind fun v7 =>
    (ag H2 37 24 (H2 32 5)).bind fun v8 =>
    (f_X4_putGift 7 v5 v6 v7 v8 H2).bind fun H9 =>
    some H9
  else
  if v3 = 2 then
    (ag H2 34 24 (H2 32 5)).bind fun v10 =>
    (pf H2 7 1 v10).bind fun H11 =>
    some H11
  else
  if v3 = 3 then
    (ag H2 34 24 (H2 32 5)).bind fun v12 =>
    (ag H2 35 24 (H2 32 5)).bind fun v13 =>
    (as H2 8 6 v12 v13).bind fun H14 =>
    some H14
  else
    (ag H2 34 24 (H2 32 5)).bind fun v15 =>
    (ag H2 35 24 (H2 32 5)).bind fun v16 =>
    (f_X4_rename 7 v15 v16 H2).bind fun H17 =>
    some H17
set_option maxHeartbeats 4000000 in
set_option maxRecDepth 100000 in
theorem k_X0_revertLatest {D : Nat} (hD : 1 ≤ D) (H : Hp) (q : Hp) (h : f_X0_revertLatest H = some q) {post : Option Value → Hp → Prop} (hp : post none q) : Sem D mdX0_revertLatest [.ref 32, .ref 7] H post := by
  obtain ⟨D, rfl⟩ : ∃ E, D = E + 1 := ⟨D - 1, by omega⟩
  refine sem_of (own := RX0) rfl pn_RX0 (Nat.le_of_ble_eq_true rfl) [.ref 32, .ref 7] ⟨Or.inr rfl, Or.inr rfl, trivial⟩ ?_
  unfold f_X0_revertLatest at h
  refine st_aload_n dX0_revertLatest_0 rfl rfl ?_
  refine st_aload_n dX0_revertLatest_1 rfl rfl ?_
  refine gI0 dX0_revertLatest_2 (by decide) rfl 5 (by decide) fl_RX0_25 rfl rfl ?_
  have kj19 : ∀ z18 : Int32, z18 = (if (H 32 5) = 0 then 23 else ((H 32 5) - 1)) → V (D + 1) RX0 mdX0_revertLatest 19 [.ref 32, .ref 7] [.int z18, .ref 32] H post := by
    intro z18 ez18
    subst ez18
    obtain ⟨H1, e_H1, h⟩ := bnd h
    refine pI0 dX0_revertLatest_19 (by decide) rfl 5 (by decide) fl_RX0_25 rfl rfl rfl rfl e_H1 ?_
    refine st_aload_n dX0_revertLatest_22 rfl rfl ?_
    refine st_dup dX0_revertLatest_23 rfl ?_
    refine gI0 dX0_revertLatest_24 (by decide) rfl 6 (by decide) fl_RX0_29 rfl rfl ?_
    refine st_iconst dX0_revertLatest_27 (v := 1) rfl ?_
    refine st_isub dX0_revertLatest_28 ?_
    obtain ⟨H2, e_H2, h⟩ := bnd h
    refine pI0 dX0_revertLatest_29 (by decide) rfl 6 (by decide) fl_RX0_29 rfl rfl rfl rfl e_H2 ?_
    refine st_aload_n dX0_revertLatest_32 rfl rfl ?_
    refine gR0 dX0_revertLatest_33 (by decide) rfl 0 (by decide) fl_RX0_9 rfl 33 rfl ?_
    refine st_aload_n dX0_revertLatest_36 rfl rfl ?_
    refine gI0 dX0_revertLatest_37 (by decide) rfl 5 (by decide) fl_RX0_25 rfl rfl ?_
    obtain ⟨v3, e_v3, h⟩ := bnd h
    refine st_iald dX0_revertLatest_40 (by decide) rfl v3 e_v3 ?_
    by_cases s20 : v3 = 0
    · replace h := (if_pos s20).symm.trans h
      refine st_tabIn dX0_revertLatest_41 (by rw [s20]; decide) (by rw [s20]; decide) (by rw [s20] <;> rfl) 72 (by decide) ?_
      refine st_aload_n dX0_revertLatest_72 rfl rfl ?_
      refine st_aload_n dX0_revertLatest_73 rfl rfl ?_
      refine gI4 dX0_revertLatest_74 (by decide) rfl 4 (by decide) fl_RX0_38 rfl rfl ?_
      refine st_iconst dX0_revertLatest_77 (v := 1) rfl ?_
      refine st_isub dX0_revertLatest_78 ?_
      obtain ⟨H4, e_H4, h⟩ := bnd h
      refine st_callV [.int ((H2 7 4) - 1)] dX0_revertLatest_79 co_X4_takeGift im_X4_takeGift se_X4_takeGift ml_RX0_43 rfl (by decide) rfl (rfl : classes[4]? = some (RX4, TX4, 10)) rfl (S := []) rfl (Nat.le_of_ble_eq_true rfl) (k_X4_takeGift (by omega) FC7 ((H2 7 4) - 1) H2 _ e_H4 ?_)
      show V (D + 1) RX0 mdX0_revertLatest 82 [.ref 32, .ref 7] [] H4 post
      refine st_goto dX0_revertLatest_82 192 (by decide) ?_
      obtain rfl := Option.some.inj h
      exact st_vret dX0_revertLatest_192 rfl hp
    · replace h := (if_neg s20).symm.trans h
      by_cases s21 : v3 = 1
      · replace h := (if_pos s21).symm.trans h
        refine st_tabIn dX0_revertLatest_41 (by rw [s21]; decide) (by rw [s21]; decide) (by rw [s21] <;> rfl) 85 (by decide) ?_
        refine st_aload_n dX0_revertLatest_85 rfl rfl ?_
        refine st_aload_n dX0_revertLatest_86 rfl rfl ?_
        refine gR0 dX0_revertLatest_87 (by decide) rfl 1 (by decide) fl_RX0_13 rfl 34 rfl ?_
        refine st_aload_n dX0_revertLatest_90 rfl rfl ?_
        refine gI0 dX0_revertLatest_91 (by decide) rfl 5 (by decide) fl_RX0_25 rfl rfl ?_
        obtain ⟨v5, e_v5, h⟩ := bnd h
        refine st_iald dX0_revertLatest_94 (by decide) rfl v5 e_v5 ?_
        refine st_aload_n dX0_revertLatest_95 rfl rfl ?_
        refine gR0 dX0_revertLatest_96 (by decide) rfl 2 (by decide) fl_RX0_16 rfl 35 rfl ?_
        refine st_aload_n dX0_revertLatest_99 rfl rfl ?_
        refine gI0 dX0_revertLatest_100 (by decide) rfl 5 (by decide) fl_RX0_25 rfl rfl ?_
        obtain ⟨v6, e_v6, h⟩ := bnd h
        refine st_iald dX0_revertLatest_103 (by decide) rfl v6 e_v6 ?_
        refine st_aload_n dX0_revertLatest_104 rfl rfl ?_
        refine gR0 dX0_revertLatest_105 (by decide) rfl 3 (by decide) fl_RX0_19 rfl 36 rfl ?_
        refine st_aload_n dX0_revertLatest_108 rfl rfl ?_
        refine gI0 dX0_revertLatest_109 (by decide) rfl 5 (by decide) fl_RX0_25 rfl rfl ?_
        obtain ⟨v7, e_v7, h⟩ := bnd h
        refine st_iald dX0_revertLatest_112 (by decide) rfl v7 e_v7 ?_
        refine st_aload_n dX0_revertLatest_113 rfl rfl ?_
        refine gR0 dX0_revertLatest_114 (by decide) rfl 4 (by decide) fl_RX0_22 rfl 37 rfl ?_
        refine st_aload_n dX0_revertLatest_117 rfl rfl ?_
        refine gI0 dX0_revertLatest_118 (by decide) rfl 5 (by decide) fl_RX0_25 rfl rfl ?_
        obtain ⟨v8, e_v8, h⟩ := bnd h
        refine st_iald dX0_revertLatest_121 (by decide) rfl v8 e_v8 ?_
        obtain ⟨H9, e_H9, h⟩ := bnd h
        refine st_callV [.int v5, .int v6, .int v7, .int v8] dX0_revertLatest_122 co_X4_putGift im_X4_putGift se_X4_putGift ml_RX0_47 rfl (by decide) rfl (rfl : classes[4]? = some (RX4, TX4, 10)) rfl (S := []) rfl (Nat.le_of_ble_eq_true rfl) (k_X4_putGift (by omega) FC7 v5 v6 v7 v8 H2 _ e_H9 ?_)
        show V (D + 1) RX0 mdX0_revertLatest 125 [.ref 32, .ref 7] [] H9 post
        refine st_goto dX0_revertLatest_125 192 (by decide) ?_
        obtain rfl := Option.some.inj h
        exact st_vret dX0_revertLatest_192 rfl hp
      · replace h := (if_neg s21).symm.trans h
        by_cases s22 : v3 = 2
        · replace h := (if_pos s22).symm.trans h
          refine st_tabIn dX0_revertLatest_41 (by rw [s22]; decide) (by rw [s22]; decide) (by rw [s22] <;> rfl) 128 (by decide) ?_
          refine st_aload_n dX0_revertLatest_128 rfl rfl ?_
          refine st_aload_n dX0_revertLatest_129 rfl rfl ?_
          refine gR0 dX0_revertLatest_130 (by decide) rfl 1 (by decide) fl_RX0_13 rfl 34 rfl ?_
          refine st_aload_n dX0_revertLatest_133 rfl rfl ?_
          refine gI0 dX0_revertLatest_134 (by decide) rfl 5 (by decide) fl_RX0_25 rfl rfl ?_
          obtain ⟨v10, e_v10, h⟩ := bnd h
          refine st_iald dX0_revertLatest_137 (by decide) rfl v10 e_v10 ?_
          obtain ⟨H11, e_H11, h⟩ := bnd h
          refine pI4 dX0_revertLatest_138 (by decide) rfl 1 (by decide) fl_RX0_51 rfl rfl rfl rfl e_H11 ?_
          refine st_goto dX0_revertLatest_141 192 (by decide) ?_
          obtain rfl := Option.some.inj h
          exact st_vret dX0_revertLatest_192 rfl hp
        · replace h := (if_neg s22).symm.trans h
          by_cases s23 : v3 = 3
          · replace h := (if_pos s23).symm.trans h
            refine st_tabIn dX0_revertLatest_41 (by rw [s23]; decide) (by rw [s23]; decide) (by rw [s23] <;> rfl) 144 (by decide) ?_
            refine st_aload_n dX0_revertLatest_144 rfl rfl ?_
            refine gR4 dX0_revertLatest_145 (by decide) rfl 5 (by decide) fl_RX0_54 rfl 8 rfl ?_
            refine st_aload_n dX0_revertLatest_148 rfl rfl ?_
            refine gR0 dX0_revertLatest_149 (by decide) rfl 1 (by decide) fl_RX0_13 rfl 34 rfl ?_
            refine st_aload_n dX0_revertLatest_152 rfl rfl ?_
            refine gI0 dX0_revertLatest_153 (by decide) rfl 5 (by decide) fl_RX0_25 rfl rfl ?_
            obtain ⟨v12, e_v12, h⟩ := bnd h
            refine st_iald dX0_revertLatest_156 (by decide) rfl v12 e_v12 ?_
            refine st_aload_n dX0_revertLatest_157 rfl rfl ?_
            refine gR0 dX0_revertLatest_158 (by decide) rfl 2 (by decide) fl_RX0_16 rfl 35 rfl ?_
            refine st_aload_n dX0_revertLatest_161 rfl rfl ?_
            refine gI0 dX0_revertLatest_162 (by decide) rfl 5 (by decide) fl_RX0_25 rfl rfl ?_
            obtain ⟨v13, e_v13, h⟩ := bnd h
            refine st_iald dX0_revertLatest_165 (by decide) rfl v13 e_v13 ?_
            obtain ⟨H14, e_H14, h⟩ := bnd h
            refine st_iast dX0_revertLatest_166 (by decide) rfl H14 e_H14 ?_
            refine st_goto dX0_revertLatest_167 192 (by decide) ?_
            obtain rfl := Option.some.inj h
            exact st_vret dX0_revertLatest_192 rfl hp
          · replace h := (if_neg s23).symm.trans h
            have ts20 := lv_neT s20 (a := 0) (by decide)
            have ts21 := lv_neT s21 (a := 1) (by decide)
            have ts22 := lv_neT s22 (a := 2) (by decide)
            have ts23 := lv_neT s23 (a := 3) (by decide)
            refine st_tabOut dX0_revertLatest_41 (by omega) 170 (by decide) ?_
            refine st_aload_n dX0_revertLatest_170 rfl rfl ?_
            refine st_aload_n dX0_revertLatest_171 rfl rfl ?_
            refine gR0 dX0_revertLatest_172 (by decide) rfl 1 (by decide) fl_RX0_13 rfl 34 rfl ?_
            refine st_aload_n dX0_revertLatest_175 rfl rfl ?_
            refine gI0 dX0_revertLatest_176 (by decide) rfl 5 (by decide) fl_RX0_25 rfl rfl ?_
            obtain ⟨v15, e_v15, h⟩ := bnd h
            refine st_iald dX0_revertLatest_179 (by decide) rfl v15 e_v15 ?_
            refine st_aload_n dX0_revertLatest_180 rfl rfl ?_
            refine gR0 dX0_revertLatest_181 (by decide) rfl 2 (by decide) fl_RX0_16 rfl 35 rfl ?_
            refine st_aload_n dX0_revertLatest_184 rfl rfl ?_
            refine gI0 dX0_revertLatest_185 (by decide) rfl 5 (by decide) fl_RX0_25 rfl rfl ?_
            obtain ⟨v16, e_v16, h⟩ := bnd h
            refine st_iald dX0_revertLatest_188 (by decide) rfl v16 e_v16 ?_
            obtain ⟨H17, e_H17, h⟩ := bnd h
            refine st_callV [.int v15, .int v16] dX0_revertLatest_189 co_X4_rename im_X4_rename se_X4_rename ml_RX0_57 rfl (by decide) rfl (rfl : classes[4]? = some (RX4, TX4, 10)) rfl (S := []) rfl (Nat.le_of_ble_eq_true rfl) (k_X4_rename (by omega) FC7 v15 v16 H2 _ e_H17 ?_)
            show V (D + 1) RX0 mdX0_revertLatest 192 [.ref 32, .ref 7] [] H17 post
            obtain rfl := Option.some.inj h
            exact st_vret dX0_revertLatest_192 rfl hp
  refine st_if_ne dX0_revertLatest_5 13 (by decide) (fun c24 => ?_) (fun c24 => ?_)
  · refine st_aload_n dX0_revertLatest_13 rfl rfl ?_
    refine gI0 dX0_revertLatest_14 (by decide) rfl 5 (by decide) fl_RX0_25 rfl rfl ?_
    refine st_iconst dX0_revertLatest_17 (v := 1) rfl ?_
    refine st_isub dX0_revertLatest_18 ?_
    exact (kj19 _ (Eq.symm (if_neg c24)))
  · refine st_bipush dX0_revertLatest_8 (v := 23) (by decide) ?_
    refine st_goto dX0_revertLatest_10 19 (by decide) ?_
    exact (kj19 _ (Eq.symm (if_pos c24)))
def f_X7_undo (H : Hp) : Option (Int32 × Hp) :=
  if (H 32 6) = 0 then
    some ((-1000002), H)
  else
    (f_X0_revertLatest H).bind fun H1 =>
    some ((H1 32 6), H1)
set_option maxHeartbeats 4000000 in
set_option maxRecDepth 100000 in
theorem k_X7_undo {D : Nat} (hD : 2 ≤ D) (H : Hp) (q : Int32 × Hp) (h : f_X7_undo H = some q) {post : Option Value → Hp → Prop} (hp : post (some (.int q.1)) q.2) : Sem D mdX7_undo [.ref 0] H post := by
  obtain ⟨D, rfl⟩ : ∃ E, D = E + 1 := ⟨D - 1, by omega⟩
  refine sem_of (own := RX7) rfl pn_RX7 (Nat.le_of_ble_eq_true rfl) [.ref 0] ⟨Or.inr rfl, trivial⟩ ?_
  unfold f_X7_undo at h
  refine st_aload_n dX7_undo_0 rfl rfl ?_
  refine gR7 dX7_undo_1 (by decide) rfl 5 (by decide) fl_RX7_40 rfl 32 rfl ?_
  refine gI0 dX7_undo_4 (by decide) rfl 6 (by decide) fl_RX7_142 rfl rfl ?_
  refine st_if_ne dX7_undo_7 13 (by decide) (fun c2 => ?_) (fun c2 => ?_)
  · replace h := (if_neg c2).symm.trans h
    refine st_aload_n dX7_undo_13 rfl rfl ?_
    refine gR7 dX7_undo_14 (by decide) rfl 5 (by decide) fl_RX7_40 rfl 32 rfl ?_
    refine st_aload_n dX7_undo_17 rfl rfl ?_
    refine gR7 dX7_undo_18 (by decide) rfl 2 (by decide) fl_RX7_26 rfl 7 rfl ?_
    obtain ⟨H1, e_H1, h⟩ := bnd h
    refine st_callV [.ref 7] dX7_undo_21 co_X0_revertLatest im_X0_revertLatest se_X0_revertLatest ml_RX7_146 rfl (by decide) rfl (rfl : classes[0]? = some (RX0, TX0, 7)) rfl (S := []) rfl (Nat.le_of_ble_eq_true rfl) (k_X0_revertLatest (by omega) H _ e_H1 ?_)
    show V (D + 1) RX7 mdX7_undo 24 [.ref 0] [] H1 post
    refine st_aload_n dX7_undo_24 rfl rfl ?_
    refine gR7 dX7_undo_25 (by decide) rfl 5 (by decide) fl_RX7_40 rfl 32 rfl ?_
    refine gI0 dX7_undo_28 (by decide) rfl 6 (by decide) fl_RX7_142 rfl rfl ?_
    obtain rfl := Option.some.inj h
    exact st_iret dX7_undo_31 rfl hp
  · replace h := (if_pos c2).symm.trans h
    refine st_ldc dX7_undo_10 cn_RX7_145 ?_
    obtain rfl := Option.some.inj h
    exact st_iret dX7_undo_12 rfl hp
def f_X7_isGiver (x0 : Int32) : Option (Int32) :=
  (f_X7_within x0 0 9).bind fun v1 =>
  zr v1
set_option maxHeartbeats 4000000 in
set_option maxRecDepth 100000 in
theorem k_X7_isGiver {D : Nat} (hD : 1 ≤ D) (x0 : Int32) (H : Hp) (q : Int32) (h : f_X7_isGiver x0 = some q) {post : Option Value → Hp → Prop} (hp : post (some (.int q)) H) : Sem D mdX7_isGiver [.int x0] H post := by
  obtain ⟨D, rfl⟩ : ∃ E, D = E + 1 := ⟨D - 1, by omega⟩
  refine sem_of (own := RX7) rfl pn_RX7 (Nat.le_of_ble_eq_true rfl) [.int x0] ⟨Or.inr rfl, trivial⟩ ?_
  unfold f_X7_isGiver at h
  refine st_iload_n dX7_isGiver_0 rfl rfl ?_
  refine st_iconst dX7_isGiver_1 (v := 0) rfl ?_
  refine st_bipush dX7_isGiver_2 (v := 9) (by decide) ?_
  obtain ⟨v1, e_v1, h⟩ := bnd h
  refine st_callS [.int x0, .int 0, .int 9] dX7_isGiver_4 co_X7_within sm_X7_within ml_RX7_73 rfl (S := []) rfl (Nat.le_of_ble_eq_true rfl) (k_X7_within (by omega) x0 0 9 H _ e_v1 ?_)
  show V (D + 1) RX7 mdX7_isGiver 7 [.int x0] [.int v1] H post
  obtain ⟨rfl, hz⟩ := zr_some h
  exact st_zret dX7_isGiver_7 rfl hz hp
def f_X7_isProject (x1 : Int32) (H : Hp) : Option (Int32) :=
  some ((if x1 < 0 then 0 else (if (H 7 3) ≤ x1 then 0 else 1)) : Int32)
set_option maxHeartbeats 4000000 in
set_option maxRecDepth 100000 in
theorem k_X7_isProject {D : Nat} (hD : 0 ≤ D) (x1 : Int32) (H : Hp) (q : Int32) (h : f_X7_isProject x1 H = some q) {post : Option Value → Hp → Prop} (hp : post (some (.int q)) H) : Sem D mdX7_isProject [.ref 0, .int x1] H post := by
  refine sem_of (own := RX7) rfl pn_RX7 (Nat.le_of_ble_eq_true rfl) [.ref 0, .int x1] ⟨Or.inr rfl, Or.inr rfl, trivial⟩ ?_
  unfold f_X7_isProject at h
  refine st_iload_n dX7_isProject_0 rfl rfl ?_
  have kj2 : ∀ z1 : Int32, z1 = ((if x1 < 0 then 0 else (if (H 7 3) ≤ x1 then 0 else 1)) : Int32) → V D RX7 mdX7_isProject 20 [.null, .null] [.int z1] H post := by
    intro z1 ez1
    subst ez1
    obtain rfl := Option.some.inj h
    exact st_zret dX7_isProject_20 rfl (by first | rfl | (split <;> rfl) | (repeat (first | rfl | split))) hp
  refine st_if_lt dX7_isProject_1 19 (by decide) (fun c3 => ?_) (fun c3 => ?_)
  · refine st_iconst dX7_isProject_19 (v := 0) rfl ?_
    exact st_sub [.null, .null] ⟨Or.inl rfl, Or.inl rfl, trivial⟩ (kj2 _ (Eq.symm (if_pos c3)))
  · refine st_iload_n dX7_isProject_4 rfl rfl ?_
    refine st_aload_n dX7_isProject_5 rfl rfl ?_
    refine gR7 dX7_isProject_6 (by decide) rfl 2 (by decide) fl_RX7_26 rfl 7 rfl ?_
    refine gI4 dX7_isProject_9 (by decide) rfl 3 (by decide) fl_RX7_139 rfl rfl ?_
    refine st_ic_ge dX7_isProject_12 19 (by decide) (fun c4 => ?_) (fun c4 => ?_)
    · refine st_iconst dX7_isProject_19 (v := 0) rfl ?_
      exact st_sub [.null, .null] ⟨Or.inl rfl, Or.inl rfl, trivial⟩ (kj2 _ (Eq.symm ((if_neg c3).trans (if_pos c4))))
    · refine st_iconst dX7_isProject_15 (v := 1) rfl ?_
      refine st_goto dX7_isProject_16 20 (by decide) ?_
      exact st_sub [.null, .null] ⟨Or.inl rfl, Or.inl rfl, trivial⟩ (kj2 _ (Eq.symm ((if_neg c3).trans (if_neg c4))))
def f_X0_keep (x1 : Int32) (x2 : Int32) (x3 : Int32) (x4 : Int32) (x5 : Int32) (H : Hp) : Option (Hp) :=
  (as H 33 24 (H 32 5) x1).bind fun H1 =>
  (as H1 34 24 (H1 32 5) x2).bind fun H2 =>
  (as H2 35 24 (H2 32 5) x3).bind fun H3 =>
  (as H3 36 24 (H3 32 5) x4).bind fun H4 =>
  (as H4 37 24 (H4 32 5) x5).bind fun H5 =>
  (pf H5 32 5 (if (H5 32 5) = 23 then 0 else ((H5 32 5) + 1))).bind fun H6 =>
  (pf H6 32 6 (if 24 < ((H6 32 6) + 1) then 24 else ((H6 32 6) + 1))).bind fun H7 =>
  some H7
set_option maxHeartbeats 4000000 in
set_option maxRecDepth 100000 in
theorem k_X0_keep {D : Nat} (hD : 1 ≤ D) (x1 : Int32) (x2 : Int32) (x3 : Int32) (x4 : Int32) (x5 : Int32) (H : Hp) (q : Hp) (h : f_X0_keep x1 x2 x3 x4 x5 H = some q) {post : Option Value → Hp → Prop} (hp : post none q) : Sem D mdX0_keep [.ref 32, .int x1, .int x2, .int x3, .int x4, .int x5] H post := by
  obtain ⟨D, rfl⟩ : ∃ E, D = E + 1 := ⟨D - 1, by omega⟩
  refine sem_of (own := RX0) rfl pn_RX0 (Nat.le_of_ble_eq_true rfl) [.ref 32, .int x1, .int x2, .int x3, .int x4, .int x5] ⟨Or.inr rfl, Or.inr rfl, Or.inr rfl, Or.inr rfl, Or.inr rfl, Or.inr rfl, trivial⟩ ?_
  unfold f_X0_keep at h
  refine st_aload_n dX0_keep_0 rfl rfl ?_
  refine gR0 dX0_keep_1 (by decide) rfl 0 (by decide) fl_RX0_9 rfl 33 rfl ?_
  refine st_aload_n dX0_keep_4 rfl rfl ?_
  refine gI0 dX0_keep_5 (by decide) rfl 5 (by decide) fl_RX0_25 rfl rfl ?_
  refine st_iload_n dX0_keep_8 rfl rfl ?_
  obtain ⟨H1, e_H1, h⟩ := bnd h
  refine st_iast dX0_keep_9 (by decide) rfl H1 e_H1 ?_
  refine st_aload_n dX0_keep_10 rfl rfl ?_
  refine gR0 dX0_keep_11 (by decide) rfl 1 (by decide) fl_RX0_13 rfl 34 rfl ?_
  refine st_aload_n dX0_keep_14 rfl rfl ?_
  refine gI0 dX0_keep_15 (by decide) rfl 5 (by decide) fl_RX0_25 rfl rfl ?_
  refine st_iload_n dX0_keep_18 rfl rfl ?_
  obtain ⟨H2, e_H2, h⟩ := bnd h
  refine st_iast dX0_keep_19 (by decide) rfl H2 e_H2 ?_
  refine st_aload_n dX0_keep_20 rfl rfl ?_
  refine gR0 dX0_keep_21 (by decide) rfl 2 (by decide) fl_RX0_16 rfl 35 rfl ?_
  refine st_aload_n dX0_keep_24 rfl rfl ?_
  refine gI0 dX0_keep_25 (by decide) rfl 5 (by decide) fl_RX0_25 rfl rfl ?_
  refine st_iload_n dX0_keep_28 rfl rfl ?_
  obtain ⟨H3, e_H3, h⟩ := bnd h
  refine st_iast dX0_keep_29 (by decide) rfl H3 e_H3 ?_
  refine st_aload_n dX0_keep_30 rfl rfl ?_
  refine gR0 dX0_keep_31 (by decide) rfl 3 (by decide) fl_RX0_19 rfl 36 rfl ?_
  refine st_aload_n dX0_keep_34 rfl rfl ?_
  refine gI0 dX0_keep_35 (by decide) rfl 5 (by decide) fl_RX0_25 rfl rfl ?_
  refine st_iload dX0_keep_38 rfl ?_
  obtain ⟨H4, e_H4, h⟩ := bnd h
  refine st_iast dX0_keep_40 (by decide) rfl H4 e_H4 ?_
  refine st_aload_n dX0_keep_41 rfl rfl ?_
  refine gR0 dX0_keep_42 (by decide) rfl 4 (by decide) fl_RX0_22 rfl 37 rfl ?_
  refine st_aload_n dX0_keep_45 rfl rfl ?_
  refine gI0 dX0_keep_46 (by decide) rfl 5 (by decide) fl_RX0_25 rfl rfl ?_
  refine st_iload dX0_keep_49 rfl ?_
  obtain ⟨H5, e_H5, h⟩ := bnd h
  refine st_iast dX0_keep_51 (by decide) rfl H5 e_H5 ?_
  refine st_aload_n dX0_keep_52 rfl rfl ?_
  refine st_aload_n dX0_keep_53 rfl rfl ?_
  refine gI0 dX0_keep_54 (by decide) rfl 5 (by decide) fl_RX0_25 rfl rfl ?_
  refine st_bipush dX0_keep_57 (v := 23) (by decide) ?_
  have kj9 : ∀ z8 : Int32, z8 = (if (H5 32 5) = 23 then 0 else ((H5 32 5) + 1)) → V (D + 1) RX0 mdX0_keep 72 [.ref 32, .null, .null, .null, .null, .null] [.int z8, .ref 32] H5 post := by
    intro z8 ez8
    subst ez8
    obtain ⟨H6, e_H6, h⟩ := bnd h
    refine pI0 dX0_keep_72 (by decide) rfl 5 (by decide) fl_RX0_25 rfl rfl rfl rfl e_H6 ?_
    refine st_aload_n dX0_keep_75 rfl rfl ?_
    refine st_aload_n dX0_keep_76 rfl rfl ?_
    refine gI0 dX0_keep_77 (by decide) rfl 6 (by decide) fl_RX0_29 rfl rfl ?_
    refine st_iconst dX0_keep_80 (v := 1) rfl ?_
    refine st_iadd dX0_keep_81 ?_
    refine st_bipush dX0_keep_82 (v := 24) (by decide) ?_
    refine st_mmin dX0_keep_84 (by omega) ml_RX0_32 w_minS w_mathI w_minC (Nat.le_of_ble_eq_true rfl) ?_
    obtain ⟨H7, e_H7, h⟩ := bnd h
    refine pI0 dX0_keep_87 (by decide) rfl 6 (by decide) fl_RX0_29 rfl rfl rfl rfl e_H7 ?_
    obtain rfl := Option.some.inj h
    exact st_vret dX0_keep_90 rfl hp
  refine st_ic_ne dX0_keep_59 66 (by decide) (fun c10 => ?_) (fun c10 => ?_)
  · refine st_aload_n dX0_keep_66 rfl rfl ?_
    refine gI0 dX0_keep_67 (by decide) rfl 5 (by decide) fl_RX0_25 rfl rfl ?_
    refine st_iconst dX0_keep_70 (v := 1) rfl ?_
    refine st_iadd dX0_keep_71 ?_
    exact st_sub [.ref 32, .null, .null, .null, .null, .null] ⟨Or.inr rfl, Or.inl rfl, Or.inl rfl, Or.inl rfl, Or.inl rfl, Or.inl rfl, trivial⟩ (kj9 _ (Eq.symm (if_neg c10)))
  · refine st_iconst dX0_keep_62 (v := 0) rfl ?_
    refine st_goto dX0_keep_63 72 (by decide) ?_
    exact st_sub [.ref 32, .null, .null, .null, .null, .null] ⟨Or.inr rfl, Or.inl rfl, Or.inl rfl, Or.inl rfl, Or.inl rfl, Or.inl rfl, trivial⟩ (kj9 _ (Eq.symm (if_pos c10)))
def f_X7_give (x1 : Int32) (x2 : Int32) (x3 : Int32) (H : Hp) : Option (Int32 × Hp) :=
  (f_X7_isGiver x1).bind fun v1 =>
  if v1 = 0 then
    some ((-1000001), H)
  else
    (f_X7_isProject x2 H).bind fun v2 =>
    if v2 = 0 then
      some ((-1000001), H)
    else
      (f_X7_within x3 1 99).bind fun v3 =>
      if v3 = 0 then
        some ((-1000001), H)
      else
        if (H 7 4) < 20 then
          (f_X4_putGift 7 (H 7 4) x1 x2 x3 H).bind fun H4 =>
          (f_X0_keep 0 0 0 0 0 H4).bind fun H5 =>
          some ((H5 7 4), H5)
        else
          some ((-1000003), H)
set_option maxHeartbeats 4000000 in
set_option maxRecDepth 100000 in
theorem k_X7_give {D : Nat} (hD : 2 ≤ D) (x1 : Int32) (x2 : Int32) (x3 : Int32) (H : Hp) (q : Int32 × Hp) (h : f_X7_give x1 x2 x3 H = some q) {post : Option Value → Hp → Prop} (hp : post (some (.int q.1)) q.2) : Sem D mdX7_give [.ref 0, .int x1, .int x2, .int x3] H post := by
  obtain ⟨D, rfl⟩ : ∃ E, D = E + 1 := ⟨D - 1, by omega⟩
  refine sem_of (own := RX7) rfl pn_RX7 (Nat.le_of_ble_eq_true rfl) [.ref 0, .int x1, .int x2, .int x3] ⟨Or.inr rfl, Or.inr rfl, Or.inr rfl, Or.inr rfl, trivial⟩ ?_
  unfold f_X7_give at h
  refine st_iload_n dX7_give_0 rfl rfl ?_
  obtain ⟨v1, e_v1, h⟩ := bnd h
  refine st_callS [.int x1] dX7_give_1 co_X7_isGiver sm_X7_isGiver ml_RX7_149 rfl (S := []) rfl (Nat.le_of_ble_eq_true rfl) (k_X7_isGiver (by omega) x1 H _ e_v1 ?_)
  show V (D + 1) RX7 mdX7_give 4 [.ref 0, .int x1, .int x2, .int x3] [.int v1] H post
  refine st_if_eq dX7_give_4 25 (by decide) (fun c6 => ?_) (fun c6 => ?_)
  · replace h := (if_pos c6).symm.trans h
    refine st_ldc dX7_give_25 cn_RX7_77 ?_
    obtain rfl := Option.some.inj h
    exact st_iret dX7_give_27 rfl hp
  · replace h := (if_neg c6).symm.trans h
    refine st_aload_n dX7_give_7 rfl rfl ?_
    refine st_iload_n dX7_give_8 rfl rfl ?_
    obtain ⟨v2, e_v2, h⟩ := bnd h
    refine st_callV [.int x2] dX7_give_9 co_X7_isProject im_X7_isProject se_X7_isProject ml_RX7_152 rfl (by decide) rfl (rfl : classes[7]? = some (RX7, TX7, 11)) rfl (S := []) rfl (Nat.le_of_ble_eq_true rfl) (k_X7_isProject (by omega) x2 H _ e_v2 ?_)
    show V (D + 1) RX7 mdX7_give 12 [.ref 0, .int x1, .int x2, .int x3] [.int v2] H post
    refine st_if_eq dX7_give_12 25 (by decide) (fun c7 => ?_) (fun c7 => ?_)
    · replace h := (if_pos c7).symm.trans h
      refine st_ldc dX7_give_25 cn_RX7_77 ?_
      obtain rfl := Option.some.inj h
      exact st_iret dX7_give_27 rfl hp
    · replace h := (if_neg c7).symm.trans h
      refine st_iload_n dX7_give_15 rfl rfl ?_
      refine st_iconst dX7_give_16 (v := 1) rfl ?_
      refine st_bipush dX7_give_17 (v := 99) (by decide) ?_
      obtain ⟨v3, e_v3, h⟩ := bnd h
      refine st_callS [.int x3, .int 1, .int 99] dX7_give_19 co_X7_within sm_X7_within ml_RX7_73 rfl (S := []) rfl (Nat.le_of_ble_eq_true rfl) (k_X7_within (by omega) x3 1 99 H _ e_v3 ?_)
      show V (D + 1) RX7 mdX7_give 22 [.ref 0, .int x1, .int x2, .int x3] [.int v3] H post
      refine st_if_ne dX7_give_22 28 (by decide) (fun c8 => ?_) (fun c8 => ?_)
      · replace h := (if_neg c8).symm.trans h
        refine st_aload_n dX7_give_28 rfl rfl ?_
        refine gR7 dX7_give_29 (by decide) rfl 2 (by decide) fl_RX7_26 rfl 7 rfl ?_
        refine gI4 dX7_give_32 (by decide) rfl 4 (by decide) fl_RX7_155 rfl rfl ?_
        refine st_bipush dX7_give_35 (v := 20) (by decide) ?_
        refine st_ic_lt dX7_give_37 43 (by decide) (fun c9 => ?_) (fun c9 => ?_)
        · replace h := (if_pos c9).symm.trans h
          refine st_aload_n dX7_give_43 rfl rfl ?_
          refine gR7 dX7_give_44 (by decide) rfl 2 (by decide) fl_RX7_26 rfl 7 rfl ?_
          refine st_aload_n dX7_give_47 rfl rfl ?_
          refine gR7 dX7_give_48 (by decide) rfl 2 (by decide) fl_RX7_26 rfl 7 rfl ?_
          refine gI4 dX7_give_51 (by decide) rfl 4 (by decide) fl_RX7_155 rfl rfl ?_
          refine st_iload_n dX7_give_54 rfl rfl ?_
          refine st_iload_n dX7_give_55 rfl rfl ?_
          refine st_iload_n dX7_give_56 rfl rfl ?_
          obtain ⟨H4, e_H4, h⟩ := bnd h
          refine st_callV [.int (H 7 4), .int x1, .int x2, .int x3] dX7_give_57 co_X4_putGift im_X4_putGift se_X4_putGift ml_RX7_158 rfl (by decide) rfl (rfl : classes[4]? = some (RX4, TX4, 10)) rfl (S := []) rfl (Nat.le_of_ble_eq_true rfl) (k_X4_putGift (by omega) FC7 (H 7 4) x1 x2 x3 H _ e_H4 ?_)
          show V (D + 1) RX7 mdX7_give 60 [.ref 0, .int x1, .int x2, .int x3] [] H4 post
          refine st_aload_n dX7_give_60 rfl rfl ?_
          refine gR7 dX7_give_61 (by decide) rfl 5 (by decide) fl_RX7_40 rfl 32 rfl ?_
          refine st_iconst dX7_give_64 (v := 0) rfl ?_
          refine st_iconst dX7_give_65 (v := 0) rfl ?_
          refine st_iconst dX7_give_66 (v := 0) rfl ?_
          refine st_iconst dX7_give_67 (v := 0) rfl ?_
          refine st_iconst dX7_give_68 (v := 0) rfl ?_
          obtain ⟨H5, e_H5, h⟩ := bnd h
          refine st_callV [.int 0, .int 0, .int 0, .int 0, .int 0] dX7_give_69 co_X0_keep im_X0_keep se_X0_keep ml_RX7_162 rfl (by decide) rfl (rfl : classes[0]? = some (RX0, TX0, 7)) rfl (S := []) rfl (Nat.le_of_ble_eq_true rfl) (k_X0_keep (by omega) 0 0 0 0 0 H4 _ e_H5 ?_)
          show V (D + 1) RX7 mdX7_give 72 [.ref 0, .int x1, .int x2, .int x3] [] H5 post
          refine st_aload_n dX7_give_72 rfl rfl ?_
          refine gR7 dX7_give_73 (by decide) rfl 2 (by decide) fl_RX7_26 rfl 7 rfl ?_
          refine gI4 dX7_give_76 (by decide) rfl 4 (by decide) fl_RX7_155 rfl rfl ?_
          obtain rfl := Option.some.inj h
          exact st_iret dX7_give_79 rfl hp
        · replace h := (if_neg c9).symm.trans h
          refine st_ldc dX7_give_40 cn_RX7_117 ?_
          obtain rfl := Option.some.inj h
          exact st_iret dX7_give_42 rfl hp
      · replace h := (if_pos c8).symm.trans h
        refine st_ldc dX7_give_25 cn_RX7_77 ?_
        obtain rfl := Option.some.inj h
        exact st_iret dX7_give_27 rfl hp
def f_X7_isGift (x1 : Int32) (H : Hp) : Option (Int32) :=
  some ((if x1 < 0 then 0 else (if (H 7 4) ≤ x1 then 0 else 1)) : Int32)
set_option maxHeartbeats 4000000 in
set_option maxRecDepth 100000 in
theorem k_X7_isGift {D : Nat} (hD : 0 ≤ D) (x1 : Int32) (H : Hp) (q : Int32) (h : f_X7_isGift x1 H = some q) {post : Option Value → Hp → Prop} (hp : post (some (.int q)) H) : Sem D mdX7_isGift [.ref 0, .int x1] H post := by
  refine sem_of (own := RX7) rfl pn_RX7 (Nat.le_of_ble_eq_true rfl) [.ref 0, .int x1] ⟨Or.inr rfl, Or.inr rfl, trivial⟩ ?_
  unfold f_X7_isGift at h
  refine st_iload_n dX7_isGift_0 rfl rfl ?_
  have kj2 : ∀ z1 : Int32, z1 = ((if x1 < 0 then 0 else (if (H 7 4) ≤ x1 then 0 else 1)) : Int32) → V D RX7 mdX7_isGift 20 [.null, .null] [.int z1] H post := by
    intro z1 ez1
    subst ez1
    obtain rfl := Option.some.inj h
    exact st_zret dX7_isGift_20 rfl (by first | rfl | (split <;> rfl) | (repeat (first | rfl | split))) hp
  refine st_if_lt dX7_isGift_1 19 (by decide) (fun c3 => ?_) (fun c3 => ?_)
  · refine st_iconst dX7_isGift_19 (v := 0) rfl ?_
    exact st_sub [.null, .null] ⟨Or.inl rfl, Or.inl rfl, trivial⟩ (kj2 _ (Eq.symm (if_pos c3)))
  · refine st_iload_n dX7_isGift_4 rfl rfl ?_
    refine st_aload_n dX7_isGift_5 rfl rfl ?_
    refine gR7 dX7_isGift_6 (by decide) rfl 2 (by decide) fl_RX7_26 rfl 7 rfl ?_
    refine gI4 dX7_isGift_9 (by decide) rfl 4 (by decide) fl_RX7_155 rfl rfl ?_
    refine st_ic_ge dX7_isGift_12 19 (by decide) (fun c4 => ?_) (fun c4 => ?_)
    · refine st_iconst dX7_isGift_19 (v := 0) rfl ?_
      exact st_sub [.null, .null] ⟨Or.inl rfl, Or.inl rfl, trivial⟩ (kj2 _ (Eq.symm ((if_neg c3).trans (if_pos c4))))
    · refine st_iconst dX7_isGift_15 (v := 1) rfl ?_
      refine st_goto dX7_isGift_16 20 (by decide) ?_
      exact st_sub [.null, .null] ⟨Or.inl rfl, Or.inl rfl, trivial⟩ (kj2 _ (Eq.symm ((if_neg c3).trans (if_neg c4))))
def f_X7_back (x1 : Int32) (H : Hp) : Option (Int32 × Hp) :=
  (f_X7_isGift x1 H).bind fun v1 =>
  if v1 = 0 then
    some ((-1000001), H)
  else
    (ag H 12 20 x1).bind fun v2 =>
    (ag H 10 20 x1).bind fun v3 =>
    (ag H 11 20 x1).bind fun v4 =>
    (f_X0_keep 1 x1 v3 v4 v2 H).bind fun H5 =>
    (f_X4_takeGift 7 x1 H5).bind fun H6 =>
    some (v2, H6)
set_option maxHeartbeats 4000000 in
set_option maxRecDepth 100000 in
theorem k_X7_back {D : Nat} (hD : 2 ≤ D) (x1 : Int32) (H : Hp) (q : Int32 × Hp) (h : f_X7_back x1 H = some q) {post : Option Value → Hp → Prop} (hp : post (some (.int q.1)) q.2) : Sem D mdX7_back [.ref 0, .int x1] H post := by
  obtain ⟨D, rfl⟩ : ∃ E, D = E + 1 := ⟨D - 1, by omega⟩
  refine sem_of (own := RX7) rfl pn_RX7 (Nat.le_of_ble_eq_true rfl) [.ref 0, .int x1, .null] ⟨Or.inr rfl, Or.inr rfl, rfl, trivial⟩ ?_
  unfold f_X7_back at h
  refine st_aload_n dX7_back_0 rfl rfl ?_
  refine st_iload_n dX7_back_1 rfl rfl ?_
  obtain ⟨v1, e_v1, h⟩ := bnd h
  refine st_callV [.int x1] dX7_back_2 co_X7_isGift im_X7_isGift se_X7_isGift ml_RX7_165 rfl (by decide) rfl (rfl : classes[7]? = some (RX7, TX7, 11)) rfl (S := []) rfl (Nat.le_of_ble_eq_true rfl) (k_X7_isGift (by omega) x1 H _ e_v1 ?_)
  show V (D + 1) RX7 mdX7_back 5 [.ref 0, .int x1, .null] [.int v1] H post
  refine st_if_ne dX7_back_5 11 (by decide) (fun c7 => ?_) (fun c7 => ?_)
  · replace h := (if_neg c7).symm.trans h
    refine st_aload_n dX7_back_11 rfl rfl ?_
    refine gR7 dX7_back_12 (by decide) rfl 2 (by decide) fl_RX7_26 rfl 7 rfl ?_
    refine gR4 dX7_back_15 (by decide) rfl 9 (by decide) fl_RX7_168 rfl 12 rfl ?_
    refine st_iload_n dX7_back_18 rfl rfl ?_
    obtain ⟨v2, e_v2, h⟩ := bnd h
    refine st_iald dX7_back_19 (by decide) rfl v2 e_v2 ?_
    refine st_istore_n dX7_back_20 rfl (by decide) [.ref 0, .int x1, .int v2] rfl ?_
    refine st_aload_n dX7_back_21 rfl rfl ?_
    refine gR7 dX7_back_22 (by decide) rfl 5 (by decide) fl_RX7_40 rfl 32 rfl ?_
    refine st_iconst dX7_back_25 (v := 1) rfl ?_
    refine st_iload_n dX7_back_26 rfl rfl ?_
    refine st_aload_n dX7_back_27 rfl rfl ?_
    refine gR7 dX7_back_28 (by decide) rfl 2 (by decide) fl_RX7_26 rfl 7 rfl ?_
    refine gR4 dX7_back_31 (by decide) rfl 7 (by decide) fl_RX7_171 rfl 10 rfl ?_
    refine st_iload_n dX7_back_34 rfl rfl ?_
    obtain ⟨v3, e_v3, h⟩ := bnd h
    refine st_iald dX7_back_35 (by decide) rfl v3 e_v3 ?_
    refine st_aload_n dX7_back_36 rfl rfl ?_
    refine gR7 dX7_back_37 (by decide) rfl 2 (by decide) fl_RX7_26 rfl 7 rfl ?_
    refine gR4 dX7_back_40 (by decide) rfl 8 (by decide) fl_RX7_174 rfl 11 rfl ?_
    refine st_iload_n dX7_back_43 rfl rfl ?_
    obtain ⟨v4, e_v4, h⟩ := bnd h
    refine st_iald dX7_back_44 (by decide) rfl v4 e_v4 ?_
    refine st_iload_n dX7_back_45 rfl rfl ?_
    obtain ⟨H5, e_H5, h⟩ := bnd h
    refine st_callV [.int 1, .int x1, .int v3, .int v4, .int v2] dX7_back_46 co_X0_keep im_X0_keep se_X0_keep ml_RX7_162 rfl (by decide) rfl (rfl : classes[0]? = some (RX0, TX0, 7)) rfl (S := []) rfl (Nat.le_of_ble_eq_true rfl) (k_X0_keep (by omega) 1 x1 v3 v4 v2 H _ e_H5 ?_)
    show V (D + 1) RX7 mdX7_back 49 [.ref 0, .int x1, .int v2] [] H5 post
    refine st_aload_n dX7_back_49 rfl rfl ?_
    refine gR7 dX7_back_50 (by decide) rfl 2 (by decide) fl_RX7_26 rfl 7 rfl ?_
    refine st_iload_n dX7_back_53 rfl rfl ?_
    obtain ⟨H6, e_H6, h⟩ := bnd h
    refine st_callV [.int x1] dX7_back_54 co_X4_takeGift im_X4_takeGift se_X4_takeGift ml_RX7_177 rfl (by decide) rfl (rfl : classes[4]? = some (RX4, TX4, 10)) rfl (S := []) rfl (Nat.le_of_ble_eq_true rfl) (k_X4_takeGift (by omega) FC7 x1 H5 _ e_H6 ?_)
    show V (D + 1) RX7 mdX7_back 57 [.ref 0, .int x1, .int v2] [] H6 post
    refine st_iload_n dX7_back_57 rfl rfl ?_
    obtain rfl := Option.some.inj h
    exact st_iret dX7_back_58 rfl hp
  · replace h := (if_pos c7).symm.trans h
    refine st_ldc dX7_back_8 cn_RX7_77 ?_
    obtain rfl := Option.some.inj h
    exact st_iret dX7_back_10 rfl hp
def f_X7_pot (x1 : Int32) (H : Hp) : Option (Int32 × Hp) :=
  if (H 7 0) = 0 then
    some ((-1000002), H)
  else
    (f_X7_within x1 0 999).bind fun v1 =>
    if v1 = 0 then
      some ((-1000001), H)
    else
      (f_X0_keep 2 (H 7 1) 0 0 0 H).bind fun H2 =>
      (pf H2 7 1 x1).bind fun H3 =>
      some ((H 7 1), H3)
set_option maxHeartbeats 4000000 in
set_option maxRecDepth 100000 in
theorem k_X7_pot {D : Nat} (hD : 2 ≤ D) (x1 : Int32) (H : Hp) (q : Int32 × Hp) (h : f_X7_pot x1 H = some q) {post : Option Value → Hp → Prop} (hp : post (some (.int q.1)) q.2) : Sem D mdX7_pot [.ref 0, .int x1] H post := by
  obtain ⟨D, rfl⟩ : ∃ E, D = E + 1 := ⟨D - 1, by omega⟩
  refine sem_of (own := RX7) rfl pn_RX7 (Nat.le_of_ble_eq_true rfl) [.ref 0, .int x1, .null] ⟨Or.inr rfl, Or.inr rfl, rfl, trivial⟩ ?_
  unfold f_X7_pot at h
  refine st_aload_n dX7_pot_0 rfl rfl ?_
  refine gR7 dX7_pot_1 (by decide) rfl 2 (by decide) fl_RX7_26 rfl 7 rfl ?_
  refine gI4 dX7_pot_4 (by decide) rfl 0 (by decide) fl_RX7_181 rfl rfl ?_
  refine st_if_ne dX7_pot_7 13 (by decide) (fun c4 => ?_) (fun c4 => ?_)
  · replace h := (if_neg c4).symm.trans h
    refine st_iload_n dX7_pot_13 rfl rfl ?_
    refine st_iconst dX7_pot_14 (v := 0) rfl ?_
    refine st_sipush dX7_pot_15 (v := 999) (by decide) ?_
    obtain ⟨v1, e_v1, h⟩ := bnd h
    refine st_callS [.int x1, .int 0, .int 999] dX7_pot_18 co_X7_within sm_X7_within ml_RX7_73 rfl (S := []) rfl (Nat.le_of_ble_eq_true rfl) (k_X7_within (by omega) x1 0 999 H _ e_v1 ?_)
    show V (D + 1) RX7 mdX7_pot 21 [.ref 0, .int x1, .null] [.int v1] H post
    refine st_if_ne dX7_pot_21 27 (by decide) (fun c5 => ?_) (fun c5 => ?_)
    · replace h := (if_neg c5).symm.trans h
      refine st_aload_n dX7_pot_27 rfl rfl ?_
      refine gR7 dX7_pot_28 (by decide) rfl 2 (by decide) fl_RX7_26 rfl 7 rfl ?_
      refine gI4 dX7_pot_31 (by decide) rfl 1 (by decide) fl_RX7_185 rfl rfl ?_
      refine st_istore_n dX7_pot_34 rfl (by decide) [.ref 0, .int x1, .int (H 7 1)] rfl ?_
      refine st_aload_n dX7_pot_35 rfl rfl ?_
      refine gR7 dX7_pot_36 (by decide) rfl 5 (by decide) fl_RX7_40 rfl 32 rfl ?_
      refine st_iconst dX7_pot_39 (v := 2) rfl ?_
      refine st_iload_n dX7_pot_40 rfl rfl ?_
      refine st_iconst dX7_pot_41 (v := 0) rfl ?_
      refine st_iconst dX7_pot_42 (v := 0) rfl ?_
      refine st_iconst dX7_pot_43 (v := 0) rfl ?_
      obtain ⟨H2, e_H2, h⟩ := bnd h
      refine st_callV [.int 2, .int (H 7 1), .int 0, .int 0, .int 0] dX7_pot_44 co_X0_keep im_X0_keep se_X0_keep ml_RX7_162 rfl (by decide) rfl (rfl : classes[0]? = some (RX0, TX0, 7)) rfl (S := []) rfl (Nat.le_of_ble_eq_true rfl) (k_X0_keep (by omega) 2 (H 7 1) 0 0 0 H _ e_H2 ?_)
      show V (D + 1) RX7 mdX7_pot 47 [.ref 0, .int x1, .int (H 7 1)] [] H2 post
      refine st_aload_n dX7_pot_47 rfl rfl ?_
      refine gR7 dX7_pot_48 (by decide) rfl 2 (by decide) fl_RX7_26 rfl 7 rfl ?_
      refine st_iload_n dX7_pot_51 rfl rfl ?_
      obtain ⟨H3, e_H3, h⟩ := bnd h
      refine pI4 dX7_pot_52 (by decide) rfl 1 (by decide) fl_RX7_185 rfl rfl rfl rfl e_H3 ?_
      refine st_iload_n dX7_pot_55 rfl rfl ?_
      obtain rfl := Option.some.inj h
      exact st_iret dX7_pot_56 rfl hp
    · replace h := (if_pos c5).symm.trans h
      refine st_ldc dX7_pot_24 cn_RX7_77 ?_
      obtain rfl := Option.some.inj h
      exact st_iret dX7_pot_26 rfl hp
  · replace h := (if_pos c4).symm.trans h
    refine st_ldc dX7_pot_10 cn_RX7_145 ?_
    obtain rfl := Option.some.inj h
    exact st_iret dX7_pot_12 rfl hp
def f_X7_become (x1 : Int32) (x2 : Int32) (H : Hp) : Option (Int32 × Hp) :=
  (f_X7_isProject x1 H).bind fun v1 =>
  if v1 = 0 then
    some ((-1000001), H)
  else
    (f_X7_within x2 1 5).bind fun v2 =>
    if v2 = 0 then
      some ((-1000001), H)
    else
      (ag H 8 6 x1).bind fun v3 =>
      if v3 = x2 then
        some ((-1000002), H)
      else
        (f_X0_keep 3 x1 v3 0 0 H).bind fun H4 =>
        (as H4 8 6 x1 x2).bind fun H5 =>
        some (v3, H5)
set_option maxHeartbeats 4000000 in
set_option maxRecDepth 100000 in
theorem k_X7_become {D : Nat} (hD : 2 ≤ D) (x1 : Int32) (x2 : Int32) (H : Hp) (q : Int32 × Hp) (h : f_X7_become x1 x2 H = some q) {post : Option Value → Hp → Prop} (hp : post (some (.int q.1)) q.2) : Sem D mdX7_become [.ref 0, .int x1, .int x2] H post := by
  obtain ⟨D, rfl⟩ : ∃ E, D = E + 1 := ⟨D - 1, by omega⟩
  refine sem_of (own := RX7) rfl pn_RX7 (Nat.le_of_ble_eq_true rfl) [.ref 0, .int x1, .int x2, .null] ⟨Or.inr rfl, Or.inr rfl, Or.inr rfl, rfl, trivial⟩ ?_
  unfold f_X7_become at h
  refine st_aload_n dX7_become_0 rfl rfl ?_
  refine st_iload_n dX7_become_1 rfl rfl ?_
  obtain ⟨v1, e_v1, h⟩ := bnd h
  refine st_callV [.int x1] dX7_become_2 co_X7_isProject im_X7_isProject se_X7_isProject ml_RX7_152 rfl (by decide) rfl (rfl : classes[7]? = some (RX7, TX7, 11)) rfl (S := []) rfl (Nat.le_of_ble_eq_true rfl) (k_X7_isProject (by omega) x1 H _ e_v1 ?_)
  show V (D + 1) RX7 mdX7_become 5 [.ref 0, .int x1, .int x2, .null] [.int v1] H post
  refine st_if_eq dX7_become_5 17 (by decide) (fun c6 => ?_) (fun c6 => ?_)
  · replace h := (if_pos c6).symm.trans h
    refine st_ldc dX7_become_17 cn_RX7_77 ?_
    obtain rfl := Option.some.inj h
    exact st_iret dX7_become_19 rfl hp
  · replace h := (if_neg c6).symm.trans h
    refine st_iload_n dX7_become_8 rfl rfl ?_
    refine st_iconst dX7_become_9 (v := 1) rfl ?_
    refine st_iconst dX7_become_10 (v := 5) rfl ?_
    obtain ⟨v2, e_v2, h⟩ := bnd h
    refine st_callS [.int x2, .int 1, .int 5] dX7_become_11 co_X7_within sm_X7_within ml_RX7_73 rfl (S := []) rfl (Nat.le_of_ble_eq_true rfl) (k_X7_within (by omega) x2 1 5 H _ e_v2 ?_)
    show V (D + 1) RX7 mdX7_become 14 [.ref 0, .int x1, .int x2, .null] [.int v2] H post
    refine st_if_ne dX7_become_14 20 (by decide) (fun c7 => ?_) (fun c7 => ?_)
    · replace h := (if_neg c7).symm.trans h
      refine st_aload_n dX7_become_20 rfl rfl ?_
      refine gR7 dX7_become_21 (by decide) rfl 2 (by decide) fl_RX7_26 rfl 7 rfl ?_
      refine gR4 dX7_become_24 (by decide) rfl 5 (by decide) fl_RX7_188 rfl 8 rfl ?_
      refine st_iload_n dX7_become_27 rfl rfl ?_
      obtain ⟨v3, e_v3, h⟩ := bnd h
      refine st_iald dX7_become_28 (by decide) rfl v3 e_v3 ?_
      refine st_istore_n dX7_become_29 rfl (by decide) [.ref 0, .int x1, .int x2, .int v3] rfl ?_
      refine st_iload_n dX7_become_30 rfl rfl ?_
      refine st_iload_n dX7_become_31 rfl rfl ?_
      refine st_ic_ne dX7_become_32 38 (by decide) (fun c8 => ?_) (fun c8 => ?_)
      · replace h := (if_neg c8).symm.trans h
        refine st_aload_n dX7_become_38 rfl rfl ?_
        refine gR7 dX7_become_39 (by decide) rfl 5 (by decide) fl_RX7_40 rfl 32 rfl ?_
        refine st_iconst dX7_become_42 (v := 3) rfl ?_
        refine st_iload_n dX7_become_43 rfl rfl ?_
        refine st_iload_n dX7_become_44 rfl rfl ?_
        refine st_iconst dX7_become_45 (v := 0) rfl ?_
        refine st_iconst dX7_become_46 (v := 0) rfl ?_
        obtain ⟨H4, e_H4, h⟩ := bnd h
        refine st_callV [.int 3, .int x1, .int v3, .int 0, .int 0] dX7_become_47 co_X0_keep im_X0_keep se_X0_keep ml_RX7_162 rfl (by decide) rfl (rfl : classes[0]? = some (RX0, TX0, 7)) rfl (S := []) rfl (Nat.le_of_ble_eq_true rfl) (k_X0_keep (by omega) 3 x1 v3 0 0 H _ e_H4 ?_)
        show V (D + 1) RX7 mdX7_become 50 [.ref 0, .int x1, .int x2, .int v3] [] H4 post
        refine st_aload_n dX7_become_50 rfl rfl ?_
        refine gR7 dX7_become_51 (by decide) rfl 2 (by decide) fl_RX7_26 rfl 7 rfl ?_
        refine gR4 dX7_become_54 (by decide) rfl 5 (by decide) fl_RX7_188 rfl 8 rfl ?_
        refine st_iload_n dX7_become_57 rfl rfl ?_
        refine st_iload_n dX7_become_58 rfl rfl ?_
        obtain ⟨H5, e_H5, h⟩ := bnd h
        refine st_iast dX7_become_59 (by decide) rfl H5 e_H5 ?_
        refine st_iload_n dX7_become_60 rfl rfl ?_
        obtain rfl := Option.some.inj h
        exact st_iret dX7_become_61 rfl hp
      · replace h := (if_pos c8).symm.trans h
        refine st_ldc dX7_become_35 cn_RX7_145 ?_
        obtain rfl := Option.some.inj h
        exact st_iret dX7_become_37 rfl hp
    · replace h := (if_pos c7).symm.trans h
      refine st_ldc dX7_become_17 cn_RX7_77 ?_
      obtain rfl := Option.some.inj h
      exact st_iret dX7_become_19 rfl hp
def f_X7_areTwoGivers (x0 : Int32) (x1 : Int32) : Option (Int32) :=
  (f_X7_isGiver x0).bind fun v1 =>
  Option.bind (
    if v1 = 0 then
      some 0
    else
      (f_X7_isGiver x1).bind fun v2 =>
      if v2 = 0 then
        some 0
      else
        if x0 = x1 then
          some 0
        else
          some 1) fun j3 =>
  zr j3
set_option maxHeartbeats 4000000 in
set_option maxRecDepth 100000 in
theorem k_X7_areTwoGivers {D : Nat} (hD : 2 ≤ D) (x0 : Int32) (x1 : Int32) (H : Hp) (q : Int32) (h : f_X7_areTwoGivers x0 x1 = some q) {post : Option Value → Hp → Prop} (hp : post (some (.int q)) H) : Sem D mdX7_areTwoGivers [.int x0, .int x1] H post := by
  obtain ⟨D, rfl⟩ : ∃ E, D = E + 1 := ⟨D - 1, by omega⟩
  refine sem_of (own := RX7) rfl pn_RX7 (Nat.le_of_ble_eq_true rfl) [.int x0, .int x1] ⟨Or.inr rfl, Or.inr rfl, trivial⟩ ?_
  unfold f_X7_areTwoGivers at h
  refine st_iload_n dX7_areTwoGivers_0 rfl rfl ?_
  obtain ⟨v1, e_v1, h⟩ := bnd h
  refine st_callS [.int x0] dX7_areTwoGivers_1 co_X7_isGiver sm_X7_isGiver ml_RX7_149 rfl (S := []) rfl (Nat.le_of_ble_eq_true rfl) (k_X7_isGiver (by omega) x0 H _ e_v1 ?_)
  show V (D + 1) RX7 mdX7_areTwoGivers 4 [.int x0, .int x1] [.int v1] H post
  obtain ⟨j3, e_j3, h⟩ := bnd h
  have kj4 : V (D + 1) RX7 mdX7_areTwoGivers 24 [.null, .null] [.int j3] H post := by
    obtain ⟨rfl, hz⟩ := zr_some h
    exact st_zret dX7_areTwoGivers_24 rfl hz hp
  refine st_if_eq dX7_areTwoGivers_4 23 (by decide) (fun c5 => ?_) (fun c5 => ?_)
  · replace e_j3 := (if_pos c5).symm.trans e_j3
    refine st_iconst dX7_areTwoGivers_23 (v := 0) rfl ?_
    obtain rfl := Option.some.inj e_j3
    exact st_sub [.null, .null] ⟨Or.inl rfl, Or.inl rfl, trivial⟩ kj4
  · replace e_j3 := (if_neg c5).symm.trans e_j3
    refine st_iload_n dX7_areTwoGivers_7 rfl rfl ?_
    obtain ⟨v2, e_v2, e_j3⟩ := bnd e_j3
    refine st_callS [.int x1] dX7_areTwoGivers_8 co_X7_isGiver sm_X7_isGiver ml_RX7_149 rfl (S := []) rfl (Nat.le_of_ble_eq_true rfl) (k_X7_isGiver (by omega) x1 H _ e_v2 ?_)
    show V (D + 1) RX7 mdX7_areTwoGivers 11 [.int x0, .int x1] [.int v2] H post
    refine st_if_eq dX7_areTwoGivers_11 23 (by decide) (fun c6 => ?_) (fun c6 => ?_)
    · replace e_j3 := (if_pos c6).symm.trans e_j3
      refine st_iconst dX7_areTwoGivers_23 (v := 0) rfl ?_
      obtain rfl := Option.some.inj e_j3
      exact st_sub [.null, .null] ⟨Or.inl rfl, Or.inl rfl, trivial⟩ kj4
    · replace e_j3 := (if_neg c6).symm.trans e_j3
      refine st_iload_n dX7_areTwoGivers_14 rfl rfl ?_
      refine st_iload_n dX7_areTwoGivers_15 rfl rfl ?_
      refine st_ic_eq dX7_areTwoGivers_16 23 (by decide) (fun c7 => ?_) (fun c7 => ?_)
      · replace e_j3 := (if_pos c7).symm.trans e_j3
        refine st_iconst dX7_areTwoGivers_23 (v := 0) rfl ?_
        obtain rfl := Option.some.inj e_j3
        exact st_sub [.null, .null] ⟨Or.inl rfl, Or.inl rfl, trivial⟩ kj4
      · replace e_j3 := (if_neg c7).symm.trans e_j3
        refine st_iconst dX7_areTwoGivers_19 (v := 1) rfl ?_
        refine st_goto dX7_areTwoGivers_20 24 (by decide) ?_
        obtain rfl := Option.some.inj e_j3
        exact st_sub [.null, .null] ⟨Or.inl rfl, Or.inl rfl, trivial⟩ kj4
def f_X4_giversNamed_l4 (b : Nat) (H : Hp) (x1 : Int32) : Nat → Int32 → Int32 → Option (Int32)
  | 0, _, _ => none
  | n + 1, x2, x3 =>
    if 10 ≤ x3 then
      some x2
    else
      (ag H (b + 2) 10 x3).bind fun v1 =>
      f_X4_giversNamed_l4 b H x1 n (if v1 = x1 then (x2 ||| ((1 : Int32) <<< (x3 &&& 31))) else x2) (x3 + 1)
def f_X4_giversNamed (b : Nat) (x1 : Int32) (H : Hp) : Option (Int32) :=
  (f_X4_giversNamed_l4 b H x1 fuel 0 0).bind fun l6 =>
  some l6
set_option maxHeartbeats 4000000 in
set_option maxRecDepth 100000 in
theorem k_X4_giversNamed_l4 {D : Nat} (hD : 0 ≤ D) {b : Nat} (hb : FC b) (H : Hp) (x1 : Int32) {post : Option Value → Hp → Prop} : ∀ (n : Nat) (x2 : Int32) (x3 : Int32) (q : Int32), f_X4_giversNamed_l4 b H x1 n x2 x3 = some q → V D RX4 mdX4_giversNamed 32 [.null, .null, .int q, .null] [] H post → V D RX4 mdX4_giversNamed 4 [.ref b, .int x1, .int x2, .int x3] [] H post := by
  intro n
  induction n with
  | zero => intro x2 x3 q h; simp [f_X4_giversNamed_l4] at h
  | succ n ih =>
    intro x2 x3 q h k1
    rw [f_X4_giversNamed_l4] at h
    refine st_iload_n dX4_giversNamed_4 rfl rfl ?_
    refine st_bipush dX4_giversNamed_5 (v := 10) (by decide) ?_
    refine st_ic_ge dX4_giversNamed_7 32 (by decide) (fun c2 => ?_) (fun c2 => ?_)
    · replace h := (if_pos c2).symm.trans h
      obtain rfl := Option.some.inj h
      exact st_sub [.null, .null, .int x2, .null] ⟨Or.inl rfl, Or.inl rfl, Or.inr rfl, Or.inl rfl, trivial⟩ k1
    · replace h := (if_neg c2).symm.trans h
      refine st_aload_n dX4_giversNamed_10 rfl rfl ?_
      refine gR4 dX4_giversNamed_11 (FC_0 hb).1 (FC_0 hb).2 6 (by decide) fl_RX4_15 rfl (b + 2) (FR_6 hb) ?_
      refine st_iload_n dX4_giversNamed_14 rfl rfl ?_
      obtain ⟨v1, e_v1, h⟩ := bnd h
      refine st_iald dX4_giversNamed_15 (FC_2 hb).1 (FC_2 hb).2 v1 e_v1 ?_
      refine st_iload_n dX4_giversNamed_16 rfl rfl ?_
      have kj4 : ∀ z3 : Int32, z3 = (if v1 = x1 then (x2 ||| ((1 : Int32) <<< (x3 &&& 31))) else x2) → V D RX4 mdX4_giversNamed 26 [.ref b, .int x1, .int z3, .int x3] [] H post := by
        intro z3 ez3
        subst ez3
        refine st_iinc dX4_giversNamed_26 rfl (v := (x3 + 1)) rfl (by decide) [.ref b, .int x1, .int (if v1 = x1 then (x2 ||| ((1 : Int32) <<< (x3 &&& 31))) else x2), .int (x3 + 1)] rfl ?_
        refine st_goto dX4_giversNamed_29 4 (by decide) ?_
        exact ih (if v1 = x1 then (x2 ||| ((1 : Int32) <<< (x3 &&& 31))) else x2) (x3 + 1) q h k1
      refine st_ic_ne dX4_giversNamed_17 26 (by decide) (fun c5 => ?_) (fun c5 => ?_)
      · exact (kj4 _ (Eq.symm (if_neg c5)))
      · refine st_iload_n dX4_giversNamed_20 rfl rfl ?_
        refine st_iconst dX4_giversNamed_21 (v := 1) rfl ?_
        refine st_iload_n dX4_giversNamed_22 rfl rfl ?_
        refine st_ishl dX4_giversNamed_23 ?_
        refine st_ior dX4_giversNamed_24 ?_
        refine st_istore_n dX4_giversNamed_25 rfl (by decide) [.ref b, .int x1, .int (x2 ||| ((1 : Int32) <<< (x3 &&& 31))), .int x3] rfl ?_
        exact (kj4 _ (Eq.symm (if_pos c5)))
set_option maxHeartbeats 4000000 in
set_option maxRecDepth 100000 in
theorem k_X4_giversNamed {D : Nat} (hD : 0 ≤ D) {b : Nat} (hb : FC b) (x1 : Int32) (H : Hp) (q : Int32) (h : f_X4_giversNamed b x1 H = some q) {post : Option Value → Hp → Prop} (hp : post (some (.int q)) H) : Sem D mdX4_giversNamed [.ref b, .int x1] H post := by
  refine sem_of (own := RX4) rfl pn_RX4 (Nat.le_of_ble_eq_true rfl) [.ref b, .int x1, .null, .null] ⟨Or.inr rfl, Or.inr rfl, rfl, rfl, trivial⟩ ?_
  unfold f_X4_giversNamed at h
  refine st_iconst dX4_giversNamed_0 (v := 0) rfl ?_
  refine st_istore_n dX4_giversNamed_1 rfl (by decide) [.ref b, .int x1, .int 0, .null] rfl ?_
  refine st_iconst dX4_giversNamed_2 (v := 0) rfl ?_
  refine st_istore_n dX4_giversNamed_3 rfl (by decide) [.ref b, .int x1, .int 0, .int 0] rfl ?_
  obtain ⟨l6, e_l6, h⟩ := bnd h
  refine k_X4_giversNamed_l4 (by omega) hb H x1 fuel 0 0 _ e_l6 ?_
  refine st_iload_n dX4_giversNamed_32 rfl rfl ?_
  obtain rfl := Option.some.inj h
  exact st_iret dX4_giversNamed_33 rfl hp
def f_X7_one (x1 : Int32) (x2 : Int32) (H : Hp) : Option (Int32 × Hp) :=
  if (H 7 0) = 0 then
    some ((-1000002), H)
  else
    (f_X7_areTwoGivers x1 x2).bind fun v1 =>
    if v1 = 0 then
      some ((-1000001), H)
    else
      (ag H 9 10 x1).bind fun v2 =>
      (ag H 9 10 x2).bind fun v3 =>
      if v2 = v3 then
        some ((-1000002), H)
      else
        (f_X4_giversNamed 7 v2 H).bind fun v4 =>
        (f_X0_keep 4 v4 v2 0 0 H).bind fun H5 =>
        (f_X4_rename 7 v4 v3 H5).bind fun H6 =>
        some (v3, H6)
set_option maxHeartbeats 4000000 in
set_option maxRecDepth 100000 in
theorem k_X7_one {D : Nat} (hD : 3 ≤ D) (x1 : Int32) (x2 : Int32) (H : Hp) (q : Int32 × Hp) (h : f_X7_one x1 x2 H = some q) {post : Option Value → Hp → Prop} (hp : post (some (.int q.1)) q.2) : Sem D mdX7_one [.ref 0, .int x1, .int x2] H post := by
  obtain ⟨D, rfl⟩ : ∃ E, D = E + 1 := ⟨D - 1, by omega⟩
  refine sem_of (own := RX7) rfl pn_RX7 (Nat.le_of_ble_eq_true rfl) [.ref 0, .int x1, .int x2, .null, .null, .null] ⟨Or.inr rfl, Or.inr rfl, Or.inr rfl, rfl, rfl, rfl, trivial⟩ ?_
  unfold f_X7_one at h
  refine st_aload_n dX7_one_0 rfl rfl ?_
  refine gR7 dX7_one_1 (by decide) rfl 2 (by decide) fl_RX7_26 rfl 7 rfl ?_
  refine gI4 dX7_one_4 (by decide) rfl 0 (by decide) fl_RX7_181 rfl rfl ?_
  refine st_if_ne dX7_one_7 13 (by decide) (fun c7 => ?_) (fun c7 => ?_)
  · replace h := (if_neg c7).symm.trans h
    refine st_iload_n dX7_one_13 rfl rfl ?_
    refine st_iload_n dX7_one_14 rfl rfl ?_
    obtain ⟨v1, e_v1, h⟩ := bnd h
    refine st_callS [.int x1, .int x2] dX7_one_15 co_X7_areTwoGivers sm_X7_areTwoGivers ml_RX7_191 rfl (S := []) rfl (Nat.le_of_ble_eq_true rfl) (k_X7_areTwoGivers (by omega) x1 x2 H _ e_v1 ?_)
    show V (D + 1) RX7 mdX7_one 18 [.ref 0, .int x1, .int x2, .null, .null, .null] [.int v1] H post
    refine st_if_ne dX7_one_18 24 (by decide) (fun c8 => ?_) (fun c8 => ?_)
    · replace h := (if_neg c8).symm.trans h
      refine st_aload_n dX7_one_24 rfl rfl ?_
      refine gR7 dX7_one_25 (by decide) rfl 2 (by decide) fl_RX7_26 rfl 7 rfl ?_
      refine gR4 dX7_one_28 (by decide) rfl 6 (by decide) fl_RX7_195 rfl 9 rfl ?_
      refine st_iload_n dX7_one_31 rfl rfl ?_
      obtain ⟨v2, e_v2, h⟩ := bnd h
      refine st_iald dX7_one_32 (by decide) rfl v2 e_v2 ?_
      refine st_istore_n dX7_one_33 rfl (by decide) [.ref 0, .int x1, .int x2, .int v2, .null, .null] rfl ?_
      refine st_aload_n dX7_one_34 rfl rfl ?_
      refine gR7 dX7_one_35 (by decide) rfl 2 (by decide) fl_RX7_26 rfl 7 rfl ?_
      refine gR4 dX7_one_38 (by decide) rfl 6 (by decide) fl_RX7_195 rfl 9 rfl ?_
      refine st_iload_n dX7_one_41 rfl rfl ?_
      obtain ⟨v3, e_v3, h⟩ := bnd h
      refine st_iald dX7_one_42 (by decide) rfl v3 e_v3 ?_
      refine st_istore dX7_one_43 (by decide) [.ref 0, .int x1, .int x2, .int v2, .int v3, .null] rfl ?_
      refine st_iload_n dX7_one_45 rfl rfl ?_
      refine st_iload dX7_one_46 rfl ?_
      refine st_ic_ne dX7_one_48 54 (by decide) (fun c9 => ?_) (fun c9 => ?_)
      · replace h := (if_neg c9).symm.trans h
        refine st_aload_n dX7_one_54 rfl rfl ?_
        refine gR7 dX7_one_55 (by decide) rfl 2 (by decide) fl_RX7_26 rfl 7 rfl ?_
        refine st_iload_n dX7_one_58 rfl rfl ?_
        obtain ⟨v4, e_v4, h⟩ := bnd h
        refine st_callV [.int v2] dX7_one_59 co_X4_giversNamed im_X4_giversNamed se_X4_giversNamed ml_RX7_198 rfl (by decide) rfl (rfl : classes[4]? = some (RX4, TX4, 10)) rfl (S := []) rfl (Nat.le_of_ble_eq_true rfl) (k_X4_giversNamed (by omega) FC7 v2 H _ e_v4 ?_)
        show V (D + 1) RX7 mdX7_one 62 [.ref 0, .int x1, .int x2, .int v2, .int v3, .null] [.int v4] H post
        refine st_istore dX7_one_62 (by decide) [.ref 0, .int x1, .int x2, .int v2, .int v3, .int v4] rfl ?_
        refine st_aload_n dX7_one_64 rfl rfl ?_
        refine gR7 dX7_one_65 (by decide) rfl 5 (by decide) fl_RX7_40 rfl 32 rfl ?_
        refine st_iconst dX7_one_68 (v := 4) rfl ?_
        refine st_iload dX7_one_69 rfl ?_
        refine st_iload_n dX7_one_71 rfl rfl ?_
        refine st_iconst dX7_one_72 (v := 0) rfl ?_
        refine st_iconst dX7_one_73 (v := 0) rfl ?_
        obtain ⟨H5, e_H5, h⟩ := bnd h
        refine st_callV [.int 4, .int v4, .int v2, .int 0, .int 0] dX7_one_74 co_X0_keep im_X0_keep se_X0_keep ml_RX7_162 rfl (by decide) rfl (rfl : classes[0]? = some (RX0, TX0, 7)) rfl (S := []) rfl (Nat.le_of_ble_eq_true rfl) (k_X0_keep (by omega) 4 v4 v2 0 0 H _ e_H5 ?_)
        show V (D + 1) RX7 mdX7_one 77 [.ref 0, .int x1, .int x2, .int v2, .int v3, .int v4] [] H5 post
        refine st_aload_n dX7_one_77 rfl rfl ?_
        refine gR7 dX7_one_78 (by decide) rfl 2 (by decide) fl_RX7_26 rfl 7 rfl ?_
        refine st_iload dX7_one_81 rfl ?_
        refine st_iload dX7_one_83 rfl ?_
        obtain ⟨H6, e_H6, h⟩ := bnd h
        refine st_callV [.int v4, .int v3] dX7_one_85 co_X4_rename im_X4_rename se_X4_rename ml_RX7_201 rfl (by decide) rfl (rfl : classes[4]? = some (RX4, TX4, 10)) rfl (S := []) rfl (Nat.le_of_ble_eq_true rfl) (k_X4_rename (by omega) FC7 v4 v3 H5 _ e_H6 ?_)
        show V (D + 1) RX7 mdX7_one 88 [.ref 0, .int x1, .int x2, .int v2, .int v3, .int v4] [] H6 post
        refine st_iload dX7_one_88 rfl ?_
        obtain rfl := Option.some.inj h
        exact st_iret dX7_one_90 rfl hp
      · replace h := (if_pos c9).symm.trans h
        refine st_ldc dX7_one_51 cn_RX7_145 ?_
        obtain rfl := Option.some.inj h
        exact st_iret dX7_one_53 rfl hp
    · replace h := (if_pos c8).symm.trans h
      refine st_ldc dX7_one_21 cn_RX7_77 ?_
      obtain rfl := Option.some.inj h
      exact st_iret dX7_one_23 rfl hp
  · replace h := (if_pos c7).symm.trans h
    refine st_ldc dX7_one_10 cn_RX7_145 ?_
    obtain rfl := Option.some.inj h
    exact st_iret dX7_one_12 rfl hp
def f_X7_gift (x1 : Int32) (x2 : Int32) (H : Hp) : Option (Int32) :=
  (f_X7_isGift x1 H).bind fun v1 =>
  if v1 = 0 then
    some (-1000001)
  else
    if x2 = 0 then
      (ag H 10 20 x1).bind fun v2 =>
      some v2
    else
    if x2 = 1 then
      (ag H 11 20 x1).bind fun v3 =>
      some v3
    else
    if x2 = 2 then
      (ag H 12 20 x1).bind fun v4 =>
      some v4
    else
      some (-1000001)
set_option maxHeartbeats 4000000 in
set_option maxRecDepth 100000 in
theorem k_X7_gift {D : Nat} (hD : 1 ≤ D) (x1 : Int32) (x2 : Int32) (H : Hp) (q : Int32) (h : f_X7_gift x1 x2 H = some q) {post : Option Value → Hp → Prop} (hp : post (some (.int q)) H) : Sem D mdX7_gift [.ref 0, .int x1, .int x2] H post := by
  obtain ⟨D, rfl⟩ : ∃ E, D = E + 1 := ⟨D - 1, by omega⟩
  refine sem_of (own := RX7) rfl pn_RX7 (Nat.le_of_ble_eq_true rfl) [.ref 0, .int x1, .int x2] ⟨Or.inr rfl, Or.inr rfl, Or.inr rfl, trivial⟩ ?_
  unfold f_X7_gift at h
  refine st_aload_n dX7_gift_0 rfl rfl ?_
  refine st_iload_n dX7_gift_1 rfl rfl ?_
  obtain ⟨v1, e_v1, h⟩ := bnd h
  refine st_callV [.int x1] dX7_gift_2 co_X7_isGift im_X7_isGift se_X7_isGift ml_RX7_165 rfl (by decide) rfl (rfl : classes[7]? = some (RX7, TX7, 11)) rfl (S := []) rfl (Nat.le_of_ble_eq_true rfl) (k_X7_isGift (by omega) x1 H _ e_v1 ?_)
  show V (D + 1) RX7 mdX7_gift 5 [.ref 0, .int x1, .int x2] [.int v1] H post
  refine st_if_ne dX7_gift_5 11 (by decide) (fun c5 => ?_) (fun c5 => ?_)
  · replace h := (if_neg c5).symm.trans h
    refine st_iload_n dX7_gift_11 rfl rfl ?_
    by_cases s6 : x2 = 0
    · replace h := (if_pos s6).symm.trans h
      refine st_tabIn dX7_gift_12 (by rw [s6]; decide) (by rw [s6]; decide) (by rw [s6] <;> rfl) 40 (by decide) ?_
      refine st_aload_n dX7_gift_40 rfl rfl ?_
      refine gR7 dX7_gift_41 (by decide) rfl 2 (by decide) fl_RX7_26 rfl 7 rfl ?_
      refine gR4 dX7_gift_44 (by decide) rfl 7 (by decide) fl_RX7_171 rfl 10 rfl ?_
      refine st_iload_n dX7_gift_47 rfl rfl ?_
      obtain ⟨v2, e_v2, h⟩ := bnd h
      refine st_iald dX7_gift_48 (by decide) rfl v2 e_v2 ?_
      obtain rfl := Option.some.inj h
      exact st_iret dX7_gift_49 rfl hp
    · replace h := (if_neg s6).symm.trans h
      by_cases s7 : x2 = 1
      · replace h := (if_pos s7).symm.trans h
        refine st_tabIn dX7_gift_12 (by rw [s7]; decide) (by rw [s7]; decide) (by rw [s7] <;> rfl) 50 (by decide) ?_
        refine st_aload_n dX7_gift_50 rfl rfl ?_
        refine gR7 dX7_gift_51 (by decide) rfl 2 (by decide) fl_RX7_26 rfl 7 rfl ?_
        refine gR4 dX7_gift_54 (by decide) rfl 8 (by decide) fl_RX7_174 rfl 11 rfl ?_
        refine st_iload_n dX7_gift_57 rfl rfl ?_
        obtain ⟨v3, e_v3, h⟩ := bnd h
        refine st_iald dX7_gift_58 (by decide) rfl v3 e_v3 ?_
        obtain rfl := Option.some.inj h
        exact st_iret dX7_gift_59 rfl hp
      · replace h := (if_neg s7).symm.trans h
        by_cases s8 : x2 = 2
        · replace h := (if_pos s8).symm.trans h
          refine st_tabIn dX7_gift_12 (by rw [s8]; decide) (by rw [s8]; decide) (by rw [s8] <;> rfl) 60 (by decide) ?_
          refine st_aload_n dX7_gift_60 rfl rfl ?_
          refine gR7 dX7_gift_61 (by decide) rfl 2 (by decide) fl_RX7_26 rfl 7 rfl ?_
          refine gR4 dX7_gift_64 (by decide) rfl 9 (by decide) fl_RX7_168 rfl 12 rfl ?_
          refine st_iload_n dX7_gift_67 rfl rfl ?_
          obtain ⟨v4, e_v4, h⟩ := bnd h
          refine st_iald dX7_gift_68 (by decide) rfl v4 e_v4 ?_
          obtain rfl := Option.some.inj h
          exact st_iret dX7_gift_69 rfl hp
        · replace h := (if_neg s8).symm.trans h
          have ts6 := lv_neT s6 (a := 0) (by decide)
          have ts7 := lv_neT s7 (a := 1) (by decide)
          have ts8 := lv_neT s8 (a := 2) (by decide)
          refine st_tabOut dX7_gift_12 (by omega) 70 (by decide) ?_
          refine st_ldc dX7_gift_70 cn_RX7_77 ?_
          obtain rfl := Option.some.inj h
          exact st_iret dX7_gift_72 rfl hp
  · replace h := (if_pos c5).symm.trans h
    refine st_ldc dX7_gift_8 cn_RX7_77 ?_
    obtain rfl := Option.some.inj h
    exact st_iret dX7_gift_10 rfl hp
def f_X7_nameOf (x1 : Int32) (H : Hp) : Option (Int32) :=
  if (H 7 0) = 0 then
    some (-1000002)
  else
    (f_X7_isGiver x1).bind fun v1 =>
    Option.bind (
      if v1 = 0 then
        some (-1000001)
      else
        (ag H 9 10 x1).bind fun v2 =>
        some v2) fun j3 =>
    some j3
set_option maxHeartbeats 4000000 in
set_option maxRecDepth 100000 in
theorem k_X7_nameOf {D : Nat} (hD : 2 ≤ D) (x1 : Int32) (H : Hp) (q : Int32) (h : f_X7_nameOf x1 H = some q) {post : Option Value → Hp → Prop} (hp : post (some (.int q)) H) : Sem D mdX7_nameOf [.ref 0, .int x1] H post := by
  obtain ⟨D, rfl⟩ : ∃ E, D = E + 1 := ⟨D - 1, by omega⟩
  refine sem_of (own := RX7) rfl pn_RX7 (Nat.le_of_ble_eq_true rfl) [.ref 0, .int x1] ⟨Or.inr rfl, Or.inr rfl, trivial⟩ ?_
  unfold f_X7_nameOf at h
  refine st_aload_n dX7_nameOf_0 rfl rfl ?_
  refine gR7 dX7_nameOf_1 (by decide) rfl 2 (by decide) fl_RX7_26 rfl 7 rfl ?_
  refine gI4 dX7_nameOf_4 (by decide) rfl 0 (by decide) fl_RX7_181 rfl rfl ?_
  refine st_if_ne dX7_nameOf_7 13 (by decide) (fun c4 => ?_) (fun c4 => ?_)
  · replace h := (if_neg c4).symm.trans h
    refine st_iload_n dX7_nameOf_13 rfl rfl ?_
    obtain ⟨v1, e_v1, h⟩ := bnd h
    refine st_callS [.int x1] dX7_nameOf_14 co_X7_isGiver sm_X7_isGiver ml_RX7_149 rfl (S := []) rfl (Nat.le_of_ble_eq_true rfl) (k_X7_isGiver (by omega) x1 H _ e_v1 ?_)
    show V (D + 1) RX7 mdX7_nameOf 17 [.ref 0, .int x1] [.int v1] H post
    obtain ⟨j3, e_j3, h⟩ := bnd h
    have kj5 : V (D + 1) RX7 mdX7_nameOf 34 [.null, .null] [.int j3] H post := by
      obtain rfl := Option.some.inj h
      exact st_iret dX7_nameOf_34 rfl hp
    refine st_if_eq dX7_nameOf_17 32 (by decide) (fun c6 => ?_) (fun c6 => ?_)
    · replace e_j3 := (if_pos c6).symm.trans e_j3
      refine st_ldc dX7_nameOf_32 cn_RX7_77 ?_
      obtain rfl := Option.some.inj e_j3
      exact st_sub [.null, .null] ⟨Or.inl rfl, Or.inl rfl, trivial⟩ kj5
    · replace e_j3 := (if_neg c6).symm.trans e_j3
      refine st_aload_n dX7_nameOf_20 rfl rfl ?_
      refine gR7 dX7_nameOf_21 (by decide) rfl 2 (by decide) fl_RX7_26 rfl 7 rfl ?_
      refine gR4 dX7_nameOf_24 (by decide) rfl 6 (by decide) fl_RX7_195 rfl 9 rfl ?_
      refine st_iload_n dX7_nameOf_27 rfl rfl ?_
      obtain ⟨v2, e_v2, e_j3⟩ := bnd e_j3
      refine st_iald dX7_nameOf_28 (by decide) rfl v2 e_v2 ?_
      refine st_goto dX7_nameOf_29 34 (by decide) ?_
      obtain rfl := Option.some.inj e_j3
      exact st_sub [.null, .null] ⟨Or.inl rfl, Or.inl rfl, trivial⟩ kj5
  · replace h := (if_pos c4).symm.trans h
    refine st_ldc dX7_nameOf_10 cn_RX7_145 ?_
    obtain rfl := Option.some.inj h
    exact st_iret dX7_nameOf_12 rfl hp
def f_X2_rootOf_l6 (x0 : Int32) : Nat → Int32 → Int32 → Option (Int32)
  | 0, _, _ => none
  | n + 1, x1, x2 =>
    if x2 ≤ 0 then
      some x1
    else
      f_X2_rootOf_l6 x0 n (if (10000 * x0) < ((x1 + x2) * (x1 + x2)) then x1 else (x1 + x2)) (x2 >>> (1 &&& 31))
def f_X2_rootOf (x0 : Int32) : Option (Int32) :=
  (f_X2_rootOf_l6 x0 fuel 0 4096).bind fun l5 =>
  some l5
set_option maxHeartbeats 4000000 in
set_option maxRecDepth 100000 in
theorem k_X2_rootOf_l6 {D : Nat} (hD : 0 ≤ D) (H : Hp) (x0 : Int32) {post : Option Value → Hp → Prop} : ∀ (n : Nat) (x1 : Int32) (x2 : Int32) (q : Int32), f_X2_rootOf_l6 x0 n x1 x2 = some q → V D RX2 mdX2_rootOf 34 [.null, .int q, .null, .null] [] H post → V D RX2 mdX2_rootOf 6 [.int x0, .int x1, .int x2, .null] [] H post := by
  intro n
  induction n with
  | zero => intro x1 x2 q h; simp [f_X2_rootOf_l6] at h
  | succ n ih =>
    intro x1 x2 q h k1
    rw [f_X2_rootOf_l6] at h
    refine st_iload_n dX2_rootOf_6 rfl rfl ?_
    refine st_if_le dX2_rootOf_7 34 (by decide) (fun c1 => ?_) (fun c1 => ?_)
    · replace h := (if_pos c1).symm.trans h
      obtain rfl := Option.some.inj h
      exact st_sub [.null, .int x1, .null, .null] ⟨Or.inl rfl, Or.inr rfl, Or.inl rfl, Or.inl rfl, trivial⟩ k1
    · replace h := (if_neg c1).symm.trans h
      refine st_iload_n dX2_rootOf_10 rfl rfl ?_
      refine st_iload_n dX2_rootOf_11 rfl rfl ?_
      refine st_iadd dX2_rootOf_12 ?_
      refine st_istore_n dX2_rootOf_13 rfl (by decide) [.int x0, .int x1, .int x2, .int (x1 + x2)] rfl ?_
      refine st_iload_n dX2_rootOf_14 rfl rfl ?_
      refine st_iload_n dX2_rootOf_15 rfl rfl ?_
      refine st_imul dX2_rootOf_16 ?_
      refine st_sipush dX2_rootOf_17 (v := 10000) (by decide) ?_
      refine st_iload_n dX2_rootOf_20 rfl rfl ?_
      refine st_imul dX2_rootOf_21 ?_
      have kj3 : ∀ z2 : Int32, z2 = (if (10000 * x0) < ((x1 + x2) * (x1 + x2)) then x1 else (x1 + x2)) → V D RX2 mdX2_rootOf 27 [.int x0, .int z2, .int x2, .null] [] H post := by
        intro z2 ez2
        subst ez2
        refine st_iload_n dX2_rootOf_27 rfl rfl ?_
        refine st_iconst dX2_rootOf_28 (v := 1) rfl ?_
        refine st_ishr dX2_rootOf_29 ?_
        refine st_istore_n dX2_rootOf_30 rfl (by decide) [.int x0, .int (if (10000 * x0) < ((x1 + x2) * (x1 + x2)) then x1 else (x1 + x2)), .int (x2 >>> (1 &&& 31)), .null] rfl ?_
        refine st_goto dX2_rootOf_31 6 (by decide) ?_
        exact ih (if (10000 * x0) < ((x1 + x2) * (x1 + x2)) then x1 else (x1 + x2)) (x2 >>> (1 &&& 31)) q h k1
      refine st_ic_gt dX2_rootOf_22 27 (by decide) (fun c4 => ?_) (fun c4 => ?_)
      · exact st_sub [.int x0, .int x1, .int x2, .null] ⟨Or.inr rfl, Or.inr rfl, Or.inr rfl, Or.inl rfl, trivial⟩ (kj3 _ (Eq.symm (if_pos c4)))
      · refine st_iload_n dX2_rootOf_25 rfl rfl ?_
        refine st_istore_n dX2_rootOf_26 rfl (by decide) [.int x0, .int (x1 + x2), .int x2, .int (x1 + x2)] rfl ?_
        exact st_sub [.int x0, .int (x1 + x2), .int x2, .null] ⟨Or.inr rfl, Or.inr rfl, Or.inr rfl, Or.inl rfl, trivial⟩ (kj3 _ (Eq.symm (if_neg c4)))
set_option maxHeartbeats 4000000 in
set_option maxRecDepth 100000 in
theorem k_X2_rootOf {D : Nat} (hD : 0 ≤ D) (x0 : Int32) (H : Hp) (q : Int32) (h : f_X2_rootOf x0 = some q) {post : Option Value → Hp → Prop} (hp : post (some (.int q)) H) : Sem D mdX2_rootOf [.int x0] H post := by
  refine sem_of (own := RX2) rfl pn_RX2 (Nat.le_of_ble_eq_true rfl) [.int x0, .null, .null, .null] ⟨Or.inr rfl, rfl, rfl, rfl, trivial⟩ ?_
  unfold f_X2_rootOf at h
  refine st_iconst dX2_rootOf_0 (v := 0) rfl ?_
  refine st_istore_n dX2_rootOf_1 rfl (by decide) [.int x0, .int 0, .null, .null] rfl ?_
  refine st_sipush dX2_rootOf_2 (v := 4096) (by decide) ?_
  refine st_istore_n dX2_rootOf_5 rfl (by decide) [.int x0, .int 0, .int 4096, .null] rfl ?_
  obtain ⟨l5, e_l5, h⟩ := bnd h
  refine k_X2_rootOf_l6 (by omega) H x0 fuel 0 4096 _ e_l5 ?_
  refine st_iload_n dX2_rootOf_34 rfl rfl ?_
  obtain rfl := Option.some.inj h
  exact st_iret dX2_rootOf_35 rfl hp
def f_X7_root (x1 : Int32) : Option (Int32) :=
  (f_X7_within x1 0 1980).bind fun v1 =>
  Option.bind (
    if v1 = 0 then
      some (-1000001)
    else
      (f_X2_rootOf x1).bind fun v2 =>
      some v2) fun j3 =>
  some j3
set_option maxHeartbeats 4000000 in
set_option maxRecDepth 100000 in
theorem k_X7_root {D : Nat} (hD : 1 ≤ D) (x1 : Int32) (H : Hp) (q : Int32) (h : f_X7_root x1 = some q) {post : Option Value → Hp → Prop} (hp : post (some (.int q)) H) : Sem D mdX7_root [.ref 0, .int x1] H post := by
  obtain ⟨D, rfl⟩ : ∃ E, D = E + 1 := ⟨D - 1, by omega⟩
  refine sem_of (own := RX7) rfl pn_RX7 (Nat.le_of_ble_eq_true rfl) [.ref 0, .int x1] ⟨Or.inr rfl, Or.inr rfl, trivial⟩ ?_
  unfold f_X7_root at h
  refine st_iload_n dX7_root_0 rfl rfl ?_
  refine st_iconst dX7_root_1 (v := 0) rfl ?_
  refine st_sipush dX7_root_2 (v := 1980) (by decide) ?_
  obtain ⟨v1, e_v1, h⟩ := bnd h
  refine st_callS [.int x1, .int 0, .int 1980] dX7_root_5 co_X7_within sm_X7_within ml_RX7_73 rfl (S := []) rfl (Nat.le_of_ble_eq_true rfl) (k_X7_within (by omega) x1 0 1980 H _ e_v1 ?_)
  show V (D + 1) RX7 mdX7_root 8 [.ref 0, .int x1] [.int v1] H post
  obtain ⟨j3, e_j3, h⟩ := bnd h
  have kj4 : V (D + 1) RX7 mdX7_root 20 [.null, .null] [.int j3] H post := by
    obtain rfl := Option.some.inj h
    exact st_iret dX7_root_20 rfl hp
  refine st_if_eq dX7_root_8 18 (by decide) (fun c5 => ?_) (fun c5 => ?_)
  · replace e_j3 := (if_pos c5).symm.trans e_j3
    refine st_ldc dX7_root_18 cn_RX7_77 ?_
    obtain rfl := Option.some.inj e_j3
    exact st_sub [.null, .null] ⟨Or.inl rfl, Or.inl rfl, trivial⟩ kj4
  · replace e_j3 := (if_neg c5).symm.trans e_j3
    refine st_iload_n dX7_root_11 rfl rfl ?_
    obtain ⟨v2, e_v2, e_j3⟩ := bnd e_j3
    refine st_callS [.int x1] dX7_root_12 co_X2_rootOf sm_X2_rootOf ml_RX7_205 rfl (S := []) rfl (Nat.le_of_ble_eq_true rfl) (k_X2_rootOf (by omega) x1 H _ e_v2 ?_)
    show V (D + 1) RX7 mdX7_root 15 [.ref 0, .int x1] [.int v2] H post
    refine st_goto dX7_root_15 20 (by decide) ?_
    obtain rfl := Option.some.inj e_j3
    exact st_sub [.null, .null] ⟨Or.inl rfl, Or.inl rfl, trivial⟩ kj4
def f_X2_lay_l26 : Nat → Int32 → Hp → Option (Hp)
  | 0, _, _ => none
  | n + 1, x2, H =>
    if 60 ≤ x2 then
      some H
    else
      (as H 39 60 x2 0).bind fun H4 =>
      (as H4 40 60 x2 0).bind fun H5 =>
      f_X2_lay_l26 n (x2 + 1) H5
def f_X2_lay_l54 : Nat → Int32 → Hp → Option (Hp)
  | 0, _, _ => none
  | n + 1, x2, H =>
    if (H 7 4) ≤ x2 then
      some H
    else
      (ag H 10 20 x2).bind fun v8 =>
      (ag H 9 10 v8).bind fun v9 =>
      (ag H 11 20 x2).bind fun v10 =>
      (ag H 39 60 ((v9 * 6) + v10)).bind fun v11 =>
      (ag H 12 20 x2).bind fun v12 =>
      (as H 39 60 ((v9 * 6) + v10) (v11 + v12)).bind fun H13 =>
      f_X2_lay_l54 n (x2 + 1) H13
def f_X2_lay_l105 : Nat → Int32 → Hp → Option (Hp)
  | 0, _, _ => none
  | n + 1, x2, H =>
    if 60 ≤ x2 then
      some H
    else
      (ag H 39 60 x2).bind fun v16 =>
      Option.bind (
        if v16 ≤ 0 then
          some H
        else
          (ag H 39 60 x2).bind fun v17 =>
          (f_X2_rootOf v17).bind fun v18 =>
          (as H 40 60 x2 v18).bind fun H19 =>
          some H19) fun j20 =>
      f_X2_lay_l105 n (x2 + 1) j20
def f_X2_lay (H : Hp) : Option (Hp) :=
  (pf H 38 10 (H 7 3)).bind fun H1 =>
  (pf H1 38 11 (H1 7 1)).bind fun H2 =>
  (pf H2 38 12 (H2 7 2)).bind fun H3 =>
  (f_X2_lay_l26 fuel 0 H3).bind fun l7 =>
  (f_X2_lay_l54 fuel 0 l7).bind fun l15 =>
  (f_X2_lay_l105 fuel 0 l15).bind fun l24 =>
  some l24
set_option maxHeartbeats 4000000 in
set_option maxRecDepth 100000 in
theorem k_X2_lay_l26 {D : Nat} (hD : 1 ≤ (D + 1)) {post : Option Value → Hp → Prop} : ∀ (n : Nat) (x2 : Int32) (H : Hp) (q : Hp), f_X2_lay_l26 n x2 H = some q → V (D + 1) RX2 mdX2_lay 52 [.ref 38, .ref 7, .null] [] q post → V (D + 1) RX2 mdX2_lay 26 [.ref 38, .ref 7, .int x2] [] H post := by
  intro n
  induction n with
  | zero => intro x2 H q h; simp [f_X2_lay_l26] at h
  | succ n ih =>
    intro x2 H q h k1
    rw [f_X2_lay_l26] at h
    refine st_iload_n dX2_lay_26 rfl rfl ?_
    refine st_bipush dX2_lay_27 (v := 60) (by decide) ?_
    refine st_ic_ge dX2_lay_29 52 (by decide) (fun c6 => ?_) (fun c6 => ?_)
    · replace h := (if_pos c6).symm.trans h
      obtain rfl := Option.some.inj h
      exact st_sub [.ref 38, .ref 7, .null] ⟨Or.inr rfl, Or.inr rfl, Or.inl rfl, trivial⟩ k1
    · replace h := (if_neg c6).symm.trans h
      refine st_aload_n dX2_lay_32 rfl rfl ?_
      refine gR2 dX2_lay_33 (by decide) rfl 0 (by decide) fl_RX2_9 rfl 39 rfl ?_
      refine st_iload_n dX2_lay_36 rfl rfl ?_
      refine st_iconst dX2_lay_37 (v := 0) rfl ?_
      obtain ⟨H4, e_H4, h⟩ := bnd h
      refine st_iast dX2_lay_38 (by decide) rfl H4 e_H4 ?_
      refine st_aload_n dX2_lay_39 rfl rfl ?_
      refine gR2 dX2_lay_40 (by decide) rfl 1 (by decide) fl_RX2_15 rfl 40 rfl ?_
      refine st_iload_n dX2_lay_43 rfl rfl ?_
      refine st_iconst dX2_lay_44 (v := 0) rfl ?_
      obtain ⟨H5, e_H5, h⟩ := bnd h
      refine st_iast dX2_lay_45 (by decide) rfl H5 e_H5 ?_
      refine st_iinc dX2_lay_46 rfl (v := (x2 + 1)) rfl (by decide) [.ref 38, .ref 7, .int (x2 + 1)] rfl ?_
      refine st_goto dX2_lay_49 26 (by decide) ?_
      exact ih (x2 + 1) H5 q h k1
set_option maxHeartbeats 4000000 in
set_option maxRecDepth 100000 in
theorem k_X2_lay_l54 {D : Nat} (hD : 1 ≤ (D + 1)) {post : Option Value → Hp → Prop} : ∀ (n : Nat) (x2 : Int32) (H : Hp) (q : Hp), f_X2_lay_l54 n x2 H = some q → V (D + 1) RX2 mdX2_lay 103 [.ref 38, .null, .null] [] q post → V (D + 1) RX2 mdX2_lay 54 [.ref 38, .ref 7, .int x2] [] H post := by
  intro n
  induction n with
  | zero => intro x2 H q h; simp [f_X2_lay_l54] at h
  | succ n ih =>
    intro x2 H q h k1
    rw [f_X2_lay_l54] at h
    refine st_iload_n dX2_lay_54 rfl rfl ?_
    refine st_aload_n dX2_lay_55 rfl rfl ?_
    refine gI4 dX2_lay_56 (by decide) rfl 4 (by decide) fl_RX2_58 rfl rfl ?_
    refine st_ic_ge dX2_lay_59 103 (by decide) (fun c14 => ?_) (fun c14 => ?_)
    · replace h := (if_pos c14).symm.trans h
      obtain rfl := Option.some.inj h
      exact st_sub [.ref 38, .null, .null] ⟨Or.inr rfl, Or.inl rfl, Or.inl rfl, trivial⟩ k1
    · replace h := (if_neg c14).symm.trans h
      refine st_aload_n dX2_lay_62 rfl rfl ?_
      refine gR2 dX2_lay_63 (by decide) rfl 0 (by decide) fl_RX2_9 rfl 39 rfl ?_
      refine st_aload_n dX2_lay_66 rfl rfl ?_
      refine gR4 dX2_lay_67 (by decide) rfl 6 (by decide) fl_RX2_61 rfl 9 rfl ?_
      refine st_aload_n dX2_lay_70 rfl rfl ?_
      refine gR4 dX2_lay_71 (by decide) rfl 7 (by decide) fl_RX2_64 rfl 10 rfl ?_
      refine st_iload_n dX2_lay_74 rfl rfl ?_
      obtain ⟨v8, e_v8, h⟩ := bnd h
      refine st_iald dX2_lay_75 (by decide) rfl v8 e_v8 ?_
      obtain ⟨v9, e_v9, h⟩ := bnd h
      refine st_iald dX2_lay_76 (by decide) rfl v9 e_v9 ?_
      refine st_bipush dX2_lay_77 (v := 6) (by decide) ?_
      refine st_imul dX2_lay_79 ?_
      refine st_aload_n dX2_lay_80 rfl rfl ?_
      refine gR4 dX2_lay_81 (by decide) rfl 8 (by decide) fl_RX2_67 rfl 11 rfl ?_
      refine st_iload_n dX2_lay_84 rfl rfl ?_
      obtain ⟨v10, e_v10, h⟩ := bnd h
      refine st_iald dX2_lay_85 (by decide) rfl v10 e_v10 ?_
      refine st_iadd dX2_lay_86 ?_
      refine st_dup2 dX2_lay_87 rfl rfl ?_
      obtain ⟨v11, e_v11, h⟩ := bnd h
      refine st_iald dX2_lay_88 (by decide) rfl v11 e_v11 ?_
      refine st_aload_n dX2_lay_89 rfl rfl ?_
      refine gR4 dX2_lay_90 (by decide) rfl 9 (by decide) fl_RX2_70 rfl 12 rfl ?_
      refine st_iload_n dX2_lay_93 rfl rfl ?_
      obtain ⟨v12, e_v12, h⟩ := bnd h
      refine st_iald dX2_lay_94 (by decide) rfl v12 e_v12 ?_
      refine st_iadd dX2_lay_95 ?_
      obtain ⟨H13, e_H13, h⟩ := bnd h
      refine st_iast dX2_lay_96 (by decide) rfl H13 e_H13 ?_
      refine st_iinc dX2_lay_97 rfl (v := (x2 + 1)) rfl (by decide) [.ref 38, .ref 7, .int (x2 + 1)] rfl ?_
      refine st_goto dX2_lay_100 54 (by decide) ?_
      exact ih (x2 + 1) H13 q h k1
set_option maxHeartbeats 4000000 in
set_option maxRecDepth 100000 in
theorem k_X2_lay_l105 {D : Nat} (hD : 1 ≤ (D + 1)) {post : Option Value → Hp → Prop} : ∀ (n : Nat) (x2 : Int32) (H : Hp) (q : Hp), f_X2_lay_l105 n x2 H = some q → V (D + 1) RX2 mdX2_lay 141 [.null, .null, .null] [] q post → V (D + 1) RX2 mdX2_lay 105 [.ref 38, .null, .int x2] [] H post := by
  intro n
  induction n with
  | zero => intro x2 H q h; simp [f_X2_lay_l105] at h
  | succ n ih =>
    intro x2 H q h k1
    rw [f_X2_lay_l105] at h
    refine st_iload_n dX2_lay_105 rfl rfl ?_
    refine st_bipush dX2_lay_106 (v := 60) (by decide) ?_
    refine st_ic_ge dX2_lay_108 141 (by decide) (fun c21 => ?_) (fun c21 => ?_)
    · replace h := (if_pos c21).symm.trans h
      obtain rfl := Option.some.inj h
      exact st_sub [.null, .null, .null] ⟨Or.inl rfl, Or.inl rfl, Or.inl rfl, trivial⟩ k1
    · replace h := (if_neg c21).symm.trans h
      refine st_aload_n dX2_lay_111 rfl rfl ?_
      refine gR2 dX2_lay_112 (by decide) rfl 0 (by decide) fl_RX2_9 rfl 39 rfl ?_
      refine st_iload_n dX2_lay_115 rfl rfl ?_
      obtain ⟨v16, e_v16, h⟩ := bnd h
      refine st_iald dX2_lay_116 (by decide) rfl v16 e_v16 ?_
      obtain ⟨j20, e_j20, h⟩ := bnd h
      have kj22 : V (D + 1) RX2 mdX2_lay 135 [.ref 38, .null, .int x2] [] j20 post := by
        refine st_iinc dX2_lay_135 rfl (v := (x2 + 1)) rfl (by decide) [.ref 38, .null, .int (x2 + 1)] rfl ?_
        refine st_goto dX2_lay_138 105 (by decide) ?_
        exact ih (x2 + 1) j20 q h k1
      refine st_if_le dX2_lay_117 135 (by decide) (fun c23 => ?_) (fun c23 => ?_)
      · replace e_j20 := (if_pos c23).symm.trans e_j20
        obtain rfl := Option.some.inj e_j20
        exact kj22
      · replace e_j20 := (if_neg c23).symm.trans e_j20
        refine st_aload_n dX2_lay_120 rfl rfl ?_
        refine gR2 dX2_lay_121 (by decide) rfl 1 (by decide) fl_RX2_15 rfl 40 rfl ?_
        refine st_iload_n dX2_lay_124 rfl rfl ?_
        refine st_aload_n dX2_lay_125 rfl rfl ?_
        refine gR2 dX2_lay_126 (by decide) rfl 0 (by decide) fl_RX2_9 rfl 39 rfl ?_
        refine st_iload_n dX2_lay_129 rfl rfl ?_
        obtain ⟨v17, e_v17, e_j20⟩ := bnd e_j20
        refine st_iald dX2_lay_130 (by decide) rfl v17 e_v17 ?_
        obtain ⟨v18, e_v18, e_j20⟩ := bnd e_j20
        refine st_callS [.int v17] dX2_lay_131 co_X2_rootOf sm_X2_rootOf ml_RX2_71 rfl (S := [.int x2, .ref 40]) rfl (Nat.le_of_ble_eq_true rfl) (k_X2_rootOf (by omega) v17 H _ e_v18 ?_)
        show V (D + 1) RX2 mdX2_lay 134 [.ref 38, .null, .int x2] [.int v18, .int x2, .ref 40] H post
        obtain ⟨H19, e_H19, e_j20⟩ := bnd e_j20
        refine st_iast dX2_lay_134 (by decide) rfl H19 e_H19 ?_
        obtain rfl := Option.some.inj e_j20
        exact kj22
set_option maxHeartbeats 4000000 in
set_option maxRecDepth 100000 in
theorem k_X2_lay {D : Nat} (hD : 1 ≤ D) (H : Hp) (q : Hp) (h : f_X2_lay H = some q) {post : Option Value → Hp → Prop} (hp : post none q) : Sem D mdX2_lay [.ref 38, .ref 7] H post := by
  obtain ⟨D, rfl⟩ : ∃ E, D = E + 1 := ⟨D - 1, by omega⟩
  refine sem_of (own := RX2) rfl pn_RX2 (Nat.le_of_ble_eq_true rfl) [.ref 38, .ref 7, .null] ⟨Or.inr rfl, Or.inr rfl, rfl, trivial⟩ ?_
  unfold f_X2_lay at h
  refine st_aload_n dX2_lay_0 rfl rfl ?_
  refine st_aload_n dX2_lay_1 rfl rfl ?_
  refine gI4 dX2_lay_2 (by decide) rfl 3 (by decide) fl_RX2_43 rfl rfl ?_
  obtain ⟨H1, e_H1, h⟩ := bnd h
  refine pI2 dX2_lay_5 (by decide) rfl 10 (by decide) fl_RX2_49 rfl rfl rfl rfl e_H1 ?_
  refine st_aload_n dX2_lay_8 rfl rfl ?_
  refine st_aload_n dX2_lay_9 rfl rfl ?_
  refine gI4 dX2_lay_10 (by decide) rfl 1 (by decide) fl_RX2_50 rfl rfl ?_
  obtain ⟨H2, e_H2, h⟩ := bnd h
  refine pI2 dX2_lay_13 (by decide) rfl 11 (by decide) fl_RX2_53 rfl rfl rfl rfl e_H2 ?_
  refine st_aload_n dX2_lay_16 rfl rfl ?_
  refine st_aload_n dX2_lay_17 rfl rfl ?_
  refine gI4 dX2_lay_18 (by decide) rfl 2 (by decide) fl_RX2_54 rfl rfl ?_
  obtain ⟨H3, e_H3, h⟩ := bnd h
  refine pI2 dX2_lay_21 (by decide) rfl 12 (by decide) fl_RX2_57 rfl rfl rfl rfl e_H3 ?_
  refine st_iconst dX2_lay_24 (v := 0) rfl ?_
  refine st_istore_n dX2_lay_25 rfl (by decide) [.ref 38, .ref 7, .int 0] rfl ?_
  obtain ⟨l7, e_l7, h⟩ := bnd h
  refine k_X2_lay_l26 (by omega) fuel 0 H3 _ e_l7 ?_
  refine st_iconst dX2_lay_52 (v := 0) rfl ?_
  refine st_istore_n dX2_lay_53 rfl (by decide) [.ref 38, .ref 7, .int 0] rfl ?_
  obtain ⟨l15, e_l15, h⟩ := bnd h
  refine k_X2_lay_l54 (by omega) fuel 0 l7 _ e_l15 ?_
  refine st_iconst dX2_lay_103 (v := 0) rfl ?_
  refine st_istore_n dX2_lay_104 rfl (by decide) [.ref 38, .null, .int 0] rfl ?_
  obtain ⟨l24, e_l24, h⟩ := bnd h
  refine k_X2_lay_l105 (by omega) fuel 0 l15 _ e_l24 ?_
  obtain rfl := Option.some.inj h
  exact st_vret dX2_lay_141 rfl hp
