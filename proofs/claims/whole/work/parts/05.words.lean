theorem mem_g {w : Cond} (h : w ∈ lw_tbl) (hg : goodWord w = true) : w ∈ gtbl := List.mem_filter.mpr ⟨h, hg⟩
theorem in_t1 {w : Cond} (h : w ∈ tables_1_1) : w ∈ lw_tbl := List.mem_append_right _ (show w ∈ tables_1 from List.mem_append_left _ h)
theorem in_t2 {w : Cond} (h : w ∈ tables_1_2) : w ∈ lw_tbl := List.mem_append_right _ (show w ∈ tables_1 from List.mem_append_right _ (List.mem_append_left _ h))
theorem in_t3 {w : Cond} (h : w ∈ tables_1_3) : w ∈ lw_tbl := List.mem_append_right _ (show w ∈ tables_1 from List.mem_append_right _ (List.mem_append_right _ (List.mem_append_left _ h)))
theorem in_t4 {w : Cond} (h : w ∈ tables_1_4) : w ∈ lw_tbl := List.mem_append_right _ (show w ∈ tables_1 from List.mem_append_right _ (List.mem_append_right _ (List.mem_append_right _ (List.mem_append_left _ h))))
theorem in_t5 {w : Cond} (h : w ∈ tables_1_5) : w ∈ lw_tbl := List.mem_append_right _ (show w ∈ tables_1 from List.mem_append_right _ (List.mem_append_right _ (List.mem_append_right _ (List.mem_append_right _ (List.mem_append_left _ h)))))
theorem in_t6 {w : Cond} (h : w ∈ tables_1_6) : w ∈ lw_tbl := List.mem_append_right _ (show w ∈ tables_1 from List.mem_append_right _ (List.mem_append_right _ (List.mem_append_right _ (List.mem_append_right _ (List.mem_append_right _ (h))))))
theorem in_p1 {q : MethodName × Nat} (h : q ∈ lw_privs_1) : Cond.selects q.1.cls q.1 q.1 ∈ gtbl := mem_g (List.mem_append_left _ (List.mem_map.mpr ⟨q, (show q ∈ lw_privs_1 ++ (lw_privs_2 ++ (lw_privs_3 ++ (lw_privs_4 ++ lw_privs_5))) from List.mem_append_left _ h), rfl⟩)) rfl
theorem in_p2 {q : MethodName × Nat} (h : q ∈ lw_privs_2) : Cond.selects q.1.cls q.1 q.1 ∈ gtbl := mem_g (List.mem_append_left _ (List.mem_map.mpr ⟨q, (show q ∈ lw_privs_1 ++ (lw_privs_2 ++ (lw_privs_3 ++ (lw_privs_4 ++ lw_privs_5))) from List.mem_append_right _ (List.mem_append_left _ h)), rfl⟩)) rfl
theorem in_p3 {q : MethodName × Nat} (h : q ∈ lw_privs_3) : Cond.selects q.1.cls q.1 q.1 ∈ gtbl := mem_g (List.mem_append_left _ (List.mem_map.mpr ⟨q, (show q ∈ lw_privs_1 ++ (lw_privs_2 ++ (lw_privs_3 ++ (lw_privs_4 ++ lw_privs_5))) from List.mem_append_right _ (List.mem_append_right _ (List.mem_append_left _ h))), rfl⟩)) rfl
theorem in_p4 {q : MethodName × Nat} (h : q ∈ lw_privs_4) : Cond.selects q.1.cls q.1 q.1 ∈ gtbl := mem_g (List.mem_append_left _ (List.mem_map.mpr ⟨q, (show q ∈ lw_privs_1 ++ (lw_privs_2 ++ (lw_privs_3 ++ (lw_privs_4 ++ lw_privs_5))) from List.mem_append_right _ (List.mem_append_right _ (List.mem_append_right _ (List.mem_append_left _ h)))), rfl⟩)) rfl
theorem in_p5 {q : MethodName × Nat} (h : q ∈ lw_privs_5) : Cond.selects q.1.cls q.1 q.1 ∈ gtbl := mem_g (List.mem_append_left _ (List.mem_map.mpr ⟨q, (show q ∈ lw_privs_1 ++ (lw_privs_2 ++ (lw_privs_3 ++ (lw_privs_4 ++ lw_privs_5))) from List.mem_append_right _ (List.mem_append_right _ (List.mem_append_right _ (List.mem_append_right _ (h))))), rfl⟩)) rfl
theorem ly0_0 : u_lay RX0 TX0 0 ∈ gtbl := mem_g (in_t1 (List.mem_of_getElem? (i := 150) (by decide +kernel))) (by decide +kernel)
theorem ly0_1 : u_lay RX0 TX0 1 ∈ gtbl := mem_g (in_t1 (List.mem_of_getElem? (i := 152) (by decide +kernel))) (by decide +kernel)
theorem ly0_2 : u_lay RX0 TX0 2 ∈ gtbl := mem_g (in_t1 (List.mem_of_getElem? (i := 154) (by decide +kernel))) (by decide +kernel)
theorem ly0_3 : u_lay RX0 TX0 3 ∈ gtbl := mem_g (in_t1 (List.mem_of_getElem? (i := 156) (by decide +kernel))) (by decide +kernel)
theorem ly0_4 : u_lay RX0 TX0 4 ∈ gtbl := mem_g (in_t1 (List.mem_of_getElem? (i := 158) (by decide +kernel))) (by decide +kernel)
theorem ly0_5 : u_lay RX0 TX0 5 ∈ gtbl := mem_g (in_t1 (List.mem_of_getElem? (i := 160) (by decide +kernel))) (by decide +kernel)
theorem ly0_6 : u_lay RX0 TX0 6 ∈ gtbl := mem_g (in_t1 (List.mem_of_getElem? (i := 162) (by decide +kernel))) (by decide +kernel)
theorem inG0 : ∀ w ∈ u_ws RX0 TX0 7, w ∈ gtbl := by
  intro w hw
  obtain ⟨k, hk, rfl⟩ := List.mem_map.mp hw
  have hk := List.mem_range.mp hk
  match k, hk with
  | 0, _ => exact ly0_0
  | 1, _ => exact ly0_1
  | 2, _ => exact ly0_2
  | 3, _ => exact ly0_3
  | 4, _ => exact ly0_4
  | 5, _ => exact ly0_5
  | 6, _ => exact ly0_6
  | k + 7, hk => exact absurd hk (by omega)
theorem ly1_0 : u_lay RX1 TX1 0 ∈ gtbl := mem_g (in_t2 (List.mem_of_getElem? (i := 24) (by decide +kernel))) (by decide +kernel)
theorem ly1_1 : u_lay RX1 TX1 1 ∈ gtbl := mem_g (in_t2 (List.mem_of_getElem? (i := 26) (by decide +kernel))) (by decide +kernel)
theorem ly1_2 : u_lay RX1 TX1 2 ∈ gtbl := mem_g (in_t2 (List.mem_of_getElem? (i := 28) (by decide +kernel))) (by decide +kernel)
theorem ly1_3 : u_lay RX1 TX1 3 ∈ gtbl := mem_g (in_t2 (List.mem_of_getElem? (i := 30) (by decide +kernel))) (by decide +kernel)
theorem inG1 : ∀ w ∈ u_ws RX1 TX1 4, w ∈ gtbl := by
  intro w hw
  obtain ⟨k, hk, rfl⟩ := List.mem_map.mp hw
  have hk := List.mem_range.mp hk
  match k, hk with
  | 0, _ => exact ly1_0
  | 1, _ => exact ly1_1
  | 2, _ => exact ly1_2
  | 3, _ => exact ly1_3
  | k + 4, hk => exact absurd hk (by omega)
theorem ly2_0 : u_lay RX2 TX2 0 ∈ gtbl := mem_g (in_t1 (List.mem_of_getElem? (i := 196) (by decide +kernel))) (by decide +kernel)
theorem ly2_1 : u_lay RX2 TX2 1 ∈ gtbl := mem_g (in_t1 (List.mem_of_getElem? (i := 198) (by decide +kernel))) (by decide +kernel)
theorem ly2_2 : u_lay RX2 TX2 2 ∈ gtbl := mem_g (in_t1 (List.mem_of_getElem? (i := 200) (by decide +kernel))) (by decide +kernel)
theorem ly2_3 : u_lay RX2 TX2 3 ∈ gtbl := mem_g (in_t1 (List.mem_of_getElem? (i := 202) (by decide +kernel))) (by decide +kernel)
theorem ly2_4 : u_lay RX2 TX2 4 ∈ gtbl := mem_g (in_t1 (List.mem_of_getElem? (i := 204) (by decide +kernel))) (by decide +kernel)
theorem ly2_5 : u_lay RX2 TX2 5 ∈ gtbl := mem_g (in_t1 (List.mem_of_getElem? (i := 206) (by decide +kernel))) (by decide +kernel)
theorem ly2_6 : u_lay RX2 TX2 6 ∈ gtbl := mem_g (in_t1 (List.mem_of_getElem? (i := 208) (by decide +kernel))) (by decide +kernel)
theorem ly2_7 : u_lay RX2 TX2 7 ∈ gtbl := mem_g (in_t1 (List.mem_of_getElem? (i := 210) (by decide +kernel))) (by decide +kernel)
theorem ly2_8 : u_lay RX2 TX2 8 ∈ gtbl := mem_g (in_t1 (List.mem_of_getElem? (i := 212) (by decide +kernel))) (by decide +kernel)
theorem ly2_9 : u_lay RX2 TX2 9 ∈ gtbl := mem_g (in_t1 (List.mem_of_getElem? (i := 214) (by decide +kernel))) (by decide +kernel)
theorem ly2_10 : u_lay RX2 TX2 10 ∈ gtbl := mem_g (in_t1 (List.mem_of_getElem? (i := 216) (by decide +kernel))) (by decide +kernel)
theorem ly2_11 : u_lay RX2 TX2 11 ∈ gtbl := mem_g (in_t1 (List.mem_of_getElem? (i := 218) (by decide +kernel))) (by decide +kernel)
theorem ly2_12 : u_lay RX2 TX2 12 ∈ gtbl := mem_g (in_t1 (List.mem_of_getElem? (i := 220) (by decide +kernel))) (by decide +kernel)
theorem ly2_13 : u_lay RX2 TX2 13 ∈ gtbl := mem_g (in_t1 (List.mem_of_getElem? (i := 222) (by decide +kernel))) (by decide +kernel)
theorem ly2_14 : u_lay RX2 TX2 14 ∈ gtbl := mem_g (in_t1 (List.mem_of_getElem? (i := 224) (by decide +kernel))) (by decide +kernel)
theorem inG2 : ∀ w ∈ u_ws RX2 TX2 15, w ∈ gtbl := by
  intro w hw
  obtain ⟨k, hk, rfl⟩ := List.mem_map.mp hw
  have hk := List.mem_range.mp hk
  match k, hk with
  | 0, _ => exact ly2_0
  | 1, _ => exact ly2_1
  | 2, _ => exact ly2_2
  | 3, _ => exact ly2_3
  | 4, _ => exact ly2_4
  | 5, _ => exact ly2_5
  | 6, _ => exact ly2_6
  | 7, _ => exact ly2_7
  | 8, _ => exact ly2_8
  | 9, _ => exact ly2_9
  | 10, _ => exact ly2_10
  | 11, _ => exact ly2_11
  | 12, _ => exact ly2_12
  | 13, _ => exact ly2_13
  | 14, _ => exact ly2_14
  | k + 15, hk => exact absurd hk (by omega)
theorem ly3_0 : u_lay RX3 TX3 0 ∈ gtbl := mem_g (in_t2 (List.mem_of_getElem? (i := 1) (by decide +kernel))) (by decide +kernel)
theorem ly3_1 : u_lay RX3 TX3 1 ∈ gtbl := mem_g (in_t2 (List.mem_of_getElem? (i := 3) (by decide +kernel))) (by decide +kernel)
theorem ly3_2 : u_lay RX3 TX3 2 ∈ gtbl := mem_g (in_t2 (List.mem_of_getElem? (i := 5) (by decide +kernel))) (by decide +kernel)
theorem ly3_3 : u_lay RX3 TX3 3 ∈ gtbl := mem_g (in_t2 (List.mem_of_getElem? (i := 7) (by decide +kernel))) (by decide +kernel)
theorem ly3_4 : u_lay RX3 TX3 4 ∈ gtbl := mem_g (in_t2 (List.mem_of_getElem? (i := 9) (by decide +kernel))) (by decide +kernel)
theorem inG3 : ∀ w ∈ u_ws RX3 TX3 5, w ∈ gtbl := by
  intro w hw
  obtain ⟨k, hk, rfl⟩ := List.mem_map.mp hw
  have hk := List.mem_range.mp hk
  match k, hk with
  | 0, _ => exact ly3_0
  | 1, _ => exact ly3_1
  | 2, _ => exact ly3_2
  | 3, _ => exact ly3_3
  | 4, _ => exact ly3_4
  | k + 5, hk => exact absurd hk (by omega)
theorem ly4_0 : u_lay RX4 TX4 0 ∈ gtbl := mem_g (in_t1 (List.mem_of_getElem? (i := 114) (by decide +kernel))) (by decide +kernel)
theorem ly4_1 : u_lay RX4 TX4 1 ∈ gtbl := mem_g (in_t1 (List.mem_of_getElem? (i := 116) (by decide +kernel))) (by decide +kernel)
theorem ly4_2 : u_lay RX4 TX4 2 ∈ gtbl := mem_g (in_t1 (List.mem_of_getElem? (i := 118) (by decide +kernel))) (by decide +kernel)
theorem ly4_3 : u_lay RX4 TX4 3 ∈ gtbl := mem_g (in_t1 (List.mem_of_getElem? (i := 120) (by decide +kernel))) (by decide +kernel)
theorem ly4_4 : u_lay RX4 TX4 4 ∈ gtbl := mem_g (in_t1 (List.mem_of_getElem? (i := 122) (by decide +kernel))) (by decide +kernel)
theorem ly4_5 : u_lay RX4 TX4 5 ∈ gtbl := mem_g (in_t1 (List.mem_of_getElem? (i := 124) (by decide +kernel))) (by decide +kernel)
theorem ly4_6 : u_lay RX4 TX4 6 ∈ gtbl := mem_g (in_t1 (List.mem_of_getElem? (i := 126) (by decide +kernel))) (by decide +kernel)
theorem ly4_7 : u_lay RX4 TX4 7 ∈ gtbl := mem_g (in_t1 (List.mem_of_getElem? (i := 128) (by decide +kernel))) (by decide +kernel)
theorem ly4_8 : u_lay RX4 TX4 8 ∈ gtbl := mem_g (in_t1 (List.mem_of_getElem? (i := 130) (by decide +kernel))) (by decide +kernel)
theorem ly4_9 : u_lay RX4 TX4 9 ∈ gtbl := mem_g (in_t1 (List.mem_of_getElem? (i := 132) (by decide +kernel))) (by decide +kernel)
theorem inG4 : ∀ w ∈ u_ws RX4 TX4 10, w ∈ gtbl := by
  intro w hw
  obtain ⟨k, hk, rfl⟩ := List.mem_map.mp hw
  have hk := List.mem_range.mp hk
  match k, hk with
  | 0, _ => exact ly4_0
  | 1, _ => exact ly4_1
  | 2, _ => exact ly4_2
  | 3, _ => exact ly4_3
  | 4, _ => exact ly4_4
  | 5, _ => exact ly4_5
  | 6, _ => exact ly4_6
  | 7, _ => exact ly4_7
  | 8, _ => exact ly4_8
  | 9, _ => exact ly4_9
  | k + 10, hk => exact absurd hk (by omega)
theorem ly5_0 : u_lay RX5 TX5 0 ∈ gtbl := mem_g (in_t1 (List.mem_of_getElem? (i := 30) (by decide +kernel))) (by decide +kernel)
theorem ly5_1 : u_lay RX5 TX5 1 ∈ gtbl := mem_g (in_t1 (List.mem_of_getElem? (i := 32) (by decide +kernel))) (by decide +kernel)
theorem ly5_2 : u_lay RX5 TX5 2 ∈ gtbl := mem_g (in_t1 (List.mem_of_getElem? (i := 34) (by decide +kernel))) (by decide +kernel)
theorem inG5 : ∀ w ∈ u_ws RX5 TX5 3, w ∈ gtbl := by
  intro w hw
  obtain ⟨k, hk, rfl⟩ := List.mem_map.mp hw
  have hk := List.mem_range.mp hk
  match k, hk with
  | 0, _ => exact ly5_0
  | 1, _ => exact ly5_1
  | 2, _ => exact ly5_2
  | k + 3, hk => exact absurd hk (by omega)
theorem ly6_0 : u_lay RX6 TX6 0 ∈ gtbl := mem_g (in_t1 (List.mem_of_getElem? (i := 53) (by decide +kernel))) (by decide +kernel)
theorem ly6_1 : u_lay RX6 TX6 1 ∈ gtbl := mem_g (in_t1 (List.mem_of_getElem? (i := 55) (by decide +kernel))) (by decide +kernel)
theorem ly6_2 : u_lay RX6 TX6 2 ∈ gtbl := mem_g (in_t1 (List.mem_of_getElem? (i := 57) (by decide +kernel))) (by decide +kernel)
theorem ly6_3 : u_lay RX6 TX6 3 ∈ gtbl := mem_g (in_t1 (List.mem_of_getElem? (i := 59) (by decide +kernel))) (by decide +kernel)
theorem ly6_4 : u_lay RX6 TX6 4 ∈ gtbl := mem_g (in_t1 (List.mem_of_getElem? (i := 61) (by decide +kernel))) (by decide +kernel)
theorem ly6_5 : u_lay RX6 TX6 5 ∈ gtbl := mem_g (in_t1 (List.mem_of_getElem? (i := 63) (by decide +kernel))) (by decide +kernel)
theorem inG6 : ∀ w ∈ u_ws RX6 TX6 6, w ∈ gtbl := by
  intro w hw
  obtain ⟨k, hk, rfl⟩ := List.mem_map.mp hw
  have hk := List.mem_range.mp hk
  match k, hk with
  | 0, _ => exact ly6_0
  | 1, _ => exact ly6_1
  | 2, _ => exact ly6_2
  | 3, _ => exact ly6_3
  | 4, _ => exact ly6_4
  | 5, _ => exact ly6_5
  | k + 6, hk => exact absurd hk (by omega)
theorem ly7_0 : u_lay RX7 TX7 0 ∈ gtbl := mem_g (in_t2 (List.mem_of_getElem? (i := 44) (by decide +kernel))) (by decide +kernel)
theorem ly7_1 : u_lay RX7 TX7 1 ∈ gtbl := mem_g (in_t2 (List.mem_of_getElem? (i := 46) (by decide +kernel))) (by decide +kernel)
theorem ly7_2 : u_lay RX7 TX7 2 ∈ gtbl := mem_g (in_t2 (List.mem_of_getElem? (i := 48) (by decide +kernel))) (by decide +kernel)
theorem ly7_3 : u_lay RX7 TX7 3 ∈ gtbl := mem_g (in_t2 (List.mem_of_getElem? (i := 50) (by decide +kernel))) (by decide +kernel)
theorem ly7_4 : u_lay RX7 TX7 4 ∈ gtbl := mem_g (in_t2 (List.mem_of_getElem? (i := 52) (by decide +kernel))) (by decide +kernel)
theorem ly7_5 : u_lay RX7 TX7 5 ∈ gtbl := mem_g (in_t2 (List.mem_of_getElem? (i := 54) (by decide +kernel))) (by decide +kernel)
theorem ly7_6 : u_lay RX7 TX7 6 ∈ gtbl := mem_g (in_t2 (List.mem_of_getElem? (i := 56) (by decide +kernel))) (by decide +kernel)
theorem ly7_7 : u_lay RX7 TX7 7 ∈ gtbl := mem_g (in_t2 (List.mem_of_getElem? (i := 58) (by decide +kernel))) (by decide +kernel)
theorem ly7_8 : u_lay RX7 TX7 8 ∈ gtbl := mem_g (in_t2 (List.mem_of_getElem? (i := 60) (by decide +kernel))) (by decide +kernel)
theorem ly7_9 : u_lay RX7 TX7 9 ∈ gtbl := mem_g (in_t2 (List.mem_of_getElem? (i := 62) (by decide +kernel))) (by decide +kernel)
theorem ly7_10 : u_lay RX7 TX7 10 ∈ gtbl := mem_g (in_t2 (List.mem_of_getElem? (i := 64) (by decide +kernel))) (by decide +kernel)
theorem inG7 : ∀ w ∈ u_ws RX7 TX7 11, w ∈ gtbl := by
  intro w hw
  obtain ⟨k, hk, rfl⟩ := List.mem_map.mp hw
  have hk := List.mem_range.mp hk
  match k, hk with
  | 0, _ => exact ly7_0
  | 1, _ => exact ly7_1
  | 2, _ => exact ly7_2
  | 3, _ => exact ly7_3
  | 4, _ => exact ly7_4
  | 5, _ => exact ly7_5
  | 6, _ => exact ly7_6
  | 7, _ => exact ly7_7
  | 8, _ => exact ly7_8
  | 9, _ => exact ly7_9
  | 10, _ => exact ly7_10
  | k + 11, hk => exact absurd hk (by omega)
theorem ly8_0 : u_lay RX8 TX8 0 ∈ gtbl := mem_g (in_t4 (List.mem_of_getElem? (i := 167) (by decide +kernel))) (by decide +kernel)
theorem ly8_1 : u_lay RX8 TX8 1 ∈ gtbl := mem_g (in_t4 (List.mem_of_getElem? (i := 169) (by decide +kernel))) (by decide +kernel)
theorem ly8_2 : u_lay RX8 TX8 2 ∈ gtbl := mem_g (in_t4 (List.mem_of_getElem? (i := 171) (by decide +kernel))) (by decide +kernel)
theorem ly8_3 : u_lay RX8 TX8 3 ∈ gtbl := mem_g (in_t4 (List.mem_of_getElem? (i := 173) (by decide +kernel))) (by decide +kernel)
theorem ly8_4 : u_lay RX8 TX8 4 ∈ gtbl := mem_g (in_t4 (List.mem_of_getElem? (i := 175) (by decide +kernel))) (by decide +kernel)
theorem ly8_5 : u_lay RX8 TX8 5 ∈ gtbl := mem_g (in_t4 (List.mem_of_getElem? (i := 177) (by decide +kernel))) (by decide +kernel)
theorem ly8_6 : u_lay RX8 TX8 6 ∈ gtbl := mem_g (in_t4 (List.mem_of_getElem? (i := 179) (by decide +kernel))) (by decide +kernel)
theorem ly8_7 : u_lay RX8 TX8 7 ∈ gtbl := mem_g (in_t4 (List.mem_of_getElem? (i := 181) (by decide +kernel))) (by decide +kernel)
theorem ly8_8 : u_lay RX8 TX8 8 ∈ gtbl := mem_g (in_t4 (List.mem_of_getElem? (i := 183) (by decide +kernel))) (by decide +kernel)
theorem ly8_9 : u_lay RX8 TX8 9 ∈ gtbl := mem_g (in_t4 (List.mem_of_getElem? (i := 185) (by decide +kernel))) (by decide +kernel)
theorem ly8_10 : u_lay RX8 TX8 10 ∈ gtbl := mem_g (in_t4 (List.mem_of_getElem? (i := 187) (by decide +kernel))) (by decide +kernel)
theorem ly8_11 : u_lay RX8 TX8 11 ∈ gtbl := mem_g (in_t4 (List.mem_of_getElem? (i := 189) (by decide +kernel))) (by decide +kernel)
theorem ly8_12 : u_lay RX8 TX8 12 ∈ gtbl := mem_g (in_t4 (List.mem_of_getElem? (i := 191) (by decide +kernel))) (by decide +kernel)
theorem ly8_13 : u_lay RX8 TX8 13 ∈ gtbl := mem_g (in_t4 (List.mem_of_getElem? (i := 193) (by decide +kernel))) (by decide +kernel)
theorem ly8_14 : u_lay RX8 TX8 14 ∈ gtbl := mem_g (in_t4 (List.mem_of_getElem? (i := 195) (by decide +kernel))) (by decide +kernel)
theorem ly8_15 : u_lay RX8 TX8 15 ∈ gtbl := mem_g (in_t4 (List.mem_of_getElem? (i := 197) (by decide +kernel))) (by decide +kernel)
theorem ly8_16 : u_lay RX8 TX8 16 ∈ gtbl := mem_g (in_t4 (List.mem_of_getElem? (i := 199) (by decide +kernel))) (by decide +kernel)
theorem ly8_17 : u_lay RX8 TX8 17 ∈ gtbl := mem_g (in_t4 (List.mem_of_getElem? (i := 201) (by decide +kernel))) (by decide +kernel)
theorem ly8_18 : u_lay RX8 TX8 18 ∈ gtbl := mem_g (in_t4 (List.mem_of_getElem? (i := 203) (by decide +kernel))) (by decide +kernel)
theorem ly8_19 : u_lay RX8 TX8 19 ∈ gtbl := mem_g (in_t4 (List.mem_of_getElem? (i := 205) (by decide +kernel))) (by decide +kernel)
theorem ly8_20 : u_lay RX8 TX8 20 ∈ gtbl := mem_g (in_t4 (List.mem_of_getElem? (i := 207) (by decide +kernel))) (by decide +kernel)
theorem ly8_21 : u_lay RX8 TX8 21 ∈ gtbl := mem_g (in_t4 (List.mem_of_getElem? (i := 209) (by decide +kernel))) (by decide +kernel)
theorem ly8_22 : u_lay RX8 TX8 22 ∈ gtbl := mem_g (in_t4 (List.mem_of_getElem? (i := 211) (by decide +kernel))) (by decide +kernel)
theorem ly8_23 : u_lay RX8 TX8 23 ∈ gtbl := mem_g (in_t4 (List.mem_of_getElem? (i := 213) (by decide +kernel))) (by decide +kernel)
theorem ly8_24 : u_lay RX8 TX8 24 ∈ gtbl := mem_g (in_t4 (List.mem_of_getElem? (i := 215) (by decide +kernel))) (by decide +kernel)
theorem ly8_25 : u_lay RX8 TX8 25 ∈ gtbl := mem_g (in_t4 (List.mem_of_getElem? (i := 217) (by decide +kernel))) (by decide +kernel)
theorem ly8_26 : u_lay RX8 TX8 26 ∈ gtbl := mem_g (in_t4 (List.mem_of_getElem? (i := 219) (by decide +kernel))) (by decide +kernel)
theorem ly8_27 : u_lay RX8 TX8 27 ∈ gtbl := mem_g (in_t4 (List.mem_of_getElem? (i := 221) (by decide +kernel))) (by decide +kernel)
theorem ly8_28 : u_lay RX8 TX8 28 ∈ gtbl := mem_g (in_t4 (List.mem_of_getElem? (i := 223) (by decide +kernel))) (by decide +kernel)
theorem ly8_29 : u_lay RX8 TX8 29 ∈ gtbl := mem_g (in_t4 (List.mem_of_getElem? (i := 225) (by decide +kernel))) (by decide +kernel)
theorem inG8 : ∀ w ∈ u_ws RX8 TX8 30, w ∈ gtbl := by
  intro w hw
  obtain ⟨k, hk, rfl⟩ := List.mem_map.mp hw
  have hk := List.mem_range.mp hk
  match k, hk with
  | 0, _ => exact ly8_0
  | 1, _ => exact ly8_1
  | 2, _ => exact ly8_2
  | 3, _ => exact ly8_3
  | 4, _ => exact ly8_4
  | 5, _ => exact ly8_5
  | 6, _ => exact ly8_6
  | 7, _ => exact ly8_7
  | 8, _ => exact ly8_8
  | 9, _ => exact ly8_9
  | 10, _ => exact ly8_10
  | 11, _ => exact ly8_11
  | 12, _ => exact ly8_12
  | 13, _ => exact ly8_13
  | 14, _ => exact ly8_14
  | 15, _ => exact ly8_15
  | 16, _ => exact ly8_16
  | 17, _ => exact ly8_17
  | 18, _ => exact ly8_18
  | 19, _ => exact ly8_19
  | 20, _ => exact ly8_20
  | 21, _ => exact ly8_21
  | 22, _ => exact ly8_22
  | 23, _ => exact ly8_23
  | 24, _ => exact ly8_24
  | 25, _ => exact ly8_25
  | 26, _ => exact ly8_26
  | 27, _ => exact ly8_27
  | 28, _ => exact ly8_28
  | 29, _ => exact ly8_29
  | k + 30, hk => exact absurd hk (by omega)
theorem pn_RX0 : plainName RX0 = true := by decide +kernel
theorem pn_RX1 : plainName RX1 = true := by decide +kernel
theorem pn_RX2 : plainName RX2 = true := by decide +kernel
theorem pn_RX3 : plainName RX3 = true := by decide +kernel
theorem pn_RX4 : plainName RX4 = true := by decide +kernel
theorem pn_RX5 : plainName RX5 = true := by decide +kernel
theorem pn_RX6 : plainName RX6 = true := by decide +kernel
theorem pn_RX7 : plainName RX7 = true := by decide +kernel
theorem pn_RX8 : plainName RX8 = true := by decide +kernel
theorem w_acN : Cond.native arraycopyName ∈ gtbl := mem_g (in_t2 (List.mem_of_getElem? (i := 117) (by decide +kernel))) (by decide +kernel)
theorem w_acS : Cond.static arraycopyName ∈ gtbl := mem_g (in_t2 (List.mem_of_getElem? (i := 116) (by decide +kernel))) (by decide +kernel)
theorem w_acI : Cond.initialized "java/lang/System" ∈ gtbl := mem_g (in_t1 (List.mem_of_getElem? (i := 10) (by decide +kernel))) (by decide +kernel)
theorem w_mathI : Cond.initialized "java/lang/Math" ∈ gtbl := mem_g (in_t1 (List.mem_of_getElem? (i := 11) (by decide +kernel))) (by decide +kernel)
theorem w_maxS : Cond.static Lib.Math.max.name ∈ gtbl := mem_g (in_t3 (List.mem_of_getElem? (i := 113) (by decide +kernel))) (by decide +kernel)
theorem w_maxC : Cond.code Lib.Math.max.name Lib.Math.max.code 2 (some .int) ∈ gtbl := mem_g (in_t3 (List.mem_of_getElem? (i := 114) rfl)) (by decide +kernel)
theorem w_minS : Cond.static Lib.Math.min.name ∈ gtbl := mem_g (in_t2 (List.mem_of_getElem? (i := 239) (by decide +kernel))) (by decide +kernel)
theorem w_minC : Cond.code Lib.Math.min.name Lib.Math.min.code 2 (some .int) ∈ gtbl := mem_g (in_t3 (List.mem_of_getElem? (i := 0) rfl)) (by decide +kernel)
theorem ini_RX0 : Cond.initialized RX0 ∈ gtbl := mem_g (in_t1 (List.mem_of_getElem? (i := 5) (by decide +kernel))) (by decide +kernel)
theorem ini_RX1 : Cond.initialized RX1 ∈ gtbl := mem_g (in_t1 (List.mem_of_getElem? (i := 8) (by decide +kernel))) (by decide +kernel)
theorem ini_RX2 : Cond.initialized RX2 ∈ gtbl := mem_g (in_t1 (List.mem_of_getElem? (i := 6) (by decide +kernel))) (by decide +kernel)
theorem ini_RX3 : Cond.initialized RX3 ∈ gtbl := mem_g (in_t1 (List.mem_of_getElem? (i := 7) (by decide +kernel))) (by decide +kernel)
theorem ini_RX4 : Cond.initialized RX4 ∈ gtbl := mem_g (in_t1 (List.mem_of_getElem? (i := 4) (by decide +kernel))) (by decide +kernel)
theorem ini_RX5 : Cond.initialized RX5 ∈ gtbl := mem_g (in_t1 (List.mem_of_getElem? (i := 2) (by decide +kernel))) (by decide +kernel)
theorem ini_RX6 : Cond.initialized RX6 ∈ gtbl := mem_g (in_t1 (List.mem_of_getElem? (i := 3) (by decide +kernel))) (by decide +kernel)
theorem ini_RX7 : Cond.initialized RX7 ∈ gtbl := mem_g (in_t1 (List.mem_of_getElem? (i := 1) (by decide +kernel))) (by decide +kernel)
theorem ini_RX8 : Cond.initialized RX8 ∈ gtbl := mem_g (in_t1 (List.mem_of_getElem? (i := 9) (by decide +kernel))) (by decide +kernel)
theorem cn_RX3_65 : Cond.constant RX3 65 (-1000000) ∈ gtbl := mem_g (in_t3 (List.mem_of_getElem? (i := 164) (by decide +kernel))) (by decide +kernel)
theorem cn_RX7_117 : Cond.constant RX7 117 (-1000003) ∈ gtbl := mem_g (in_t2 (List.mem_of_getElem? (i := 134) (by decide +kernel))) (by decide +kernel)
theorem cn_RX7_128 : Cond.constant RX7 128 (-1000100) ∈ gtbl := mem_g (in_t2 (List.mem_of_getElem? (i := 190) (by decide +kernel))) (by decide +kernel)
theorem cn_RX7_145 : Cond.constant RX7 145 (-1000002) ∈ gtbl := mem_g (in_t2 (List.mem_of_getElem? (i := 208) (by decide +kernel))) (by decide +kernel)
theorem cn_RX7_292 : Cond.constant RX7 292 (999999) ∈ gtbl := mem_g (in_t4 (List.mem_of_getElem? (i := 34) (by decide +kernel))) (by decide +kernel)
theorem cn_RX7_308 : Cond.constant RX7 308 (-1000000) ∈ gtbl := mem_g (in_t4 (List.mem_of_getElem? (i := 113) (by decide +kernel))) (by decide +kernel)
theorem cn_RX7_321 : Cond.constant RX7 321 (-1000010) ∈ gtbl := mem_g (in_t2 (List.mem_of_getElem? (i := 82) (by decide +kernel))) (by decide +kernel)
theorem cn_RX7_77 : Cond.constant RX7 77 (-1000001) ∈ gtbl := mem_g (in_t2 (List.mem_of_getElem? (i := 77) (by decide +kernel))) (by decide +kernel)
theorem cn_RX8_105 : Cond.constant RX8 105 (-1000000) ∈ gtbl := mem_g (in_t5 (List.mem_of_getElem? (i := 40) (by decide +kernel))) (by decide +kernel)
theorem cn_RX8_170 : Cond.constant RX8 170 (-1000100) ∈ gtbl := mem_g (in_t5 (List.mem_of_getElem? (i := 94) (by decide +kernel))) (by decide +kernel)
theorem cn_RX8_253 : Cond.constant RX8 253 (-1000002) ∈ gtbl := mem_g (in_t5 (List.mem_of_getElem? (i := 136) (by decide +kernel))) (by decide +kernel)
theorem cn_RX8_69 : Cond.constant RX8 69 (-1000010) ∈ gtbl := mem_g (in_t5 (List.mem_of_getElem? (i := 5) (by decide +kernel))) (by decide +kernel)
theorem cn_RX8_82 : Cond.constant RX8 82 (-1000001) ∈ gtbl := mem_g (in_t5 (List.mem_of_getElem? (i := 0) (by decide +kernel))) (by decide +kernel)
theorem cn_RX8_92 : Cond.constant RX8 92 (-1000003) ∈ gtbl := mem_g (in_t5 (List.mem_of_getElem? (i := 23) (by decide +kernel))) (by decide +kernel)
theorem cl_RX2_92 : Cond.constantLong RX2 92 (10000) ∈ gtbl := mem_g (in_t3 (List.mem_of_getElem? (i := 74) (by decide +kernel))) (by decide +kernel)
theorem cl_RX2_94 : Cond.constantLong RX2 94 (2) ∈ gtbl := mem_g (in_t3 (List.mem_of_getElem? (i := 75) (by decide +kernel))) (by decide +kernel)
theorem cl_RX3_127 : Cond.constantLong RX3 127 (10) ∈ gtbl := mem_g (in_t4 (List.mem_of_getElem? (i := 25) (by decide +kernel))) (by decide +kernel)
theorem cl_RX3_133 : Cond.constantLong RX3 133 (-1000000) ∈ gtbl := mem_g (in_t4 (List.mem_of_getElem? (i := 29) (by decide +kernel))) (by decide +kernel)
theorem cl_RX3_138 : Cond.constantLong RX3 138 (16807) ∈ gtbl := mem_g (in_t4 (List.mem_of_getElem? (i := 40) (by decide +kernel))) (by decide +kernel)
theorem cl_RX3_140 : Cond.constantLong RX3 140 (2147483647) ∈ gtbl := mem_g (in_t4 (List.mem_of_getElem? (i := 41) (by decide +kernel))) (by decide +kernel)
theorem cl_RX3_156 : Cond.constantLong RX3 156 (32) ∈ gtbl := mem_g (in_t4 (List.mem_of_getElem? (i := 46) (by decide +kernel))) (by decide +kernel)
theorem cl_RX3_158 : Cond.constantLong RX3 158 (512) ∈ gtbl := mem_g (in_t4 (List.mem_of_getElem? (i := 47) (by decide +kernel))) (by decide +kernel)
theorem cl_RX3_160 : Cond.constantLong RX3 160 (4096) ∈ gtbl := mem_g (in_t4 (List.mem_of_getElem? (i := 48) (by decide +kernel))) (by decide +kernel)
theorem cl_RX3_162 : Cond.constantLong RX3 162 (99) ∈ gtbl := mem_g (in_t4 (List.mem_of_getElem? (i := 49) (by decide +kernel))) (by decide +kernel)
theorem cl_RX7_286 : Cond.constantLong RX7 286 (-1000001) ∈ gtbl := mem_g (in_t4 (List.mem_of_getElem? (i := 16) (by decide +kernel))) (by decide +kernel)
theorem cl_RX8_109 : Cond.constantLong RX8 109 (97) ∈ gtbl := mem_g (in_t5 (List.mem_of_getElem? (i := 41) (by decide +kernel))) (by decide +kernel)
theorem cl_RX8_111 : Cond.constantLong RX8 111 (122) ∈ gtbl := mem_g (in_t5 (List.mem_of_getElem? (i := 42) (by decide +kernel))) (by decide +kernel)
theorem cl_RX8_113 : Cond.constantLong RX8 113 (48) ∈ gtbl := mem_g (in_t5 (List.mem_of_getElem? (i := 43) (by decide +kernel))) (by decide +kernel)
theorem cl_RX8_115 : Cond.constantLong RX8 115 (57) ∈ gtbl := mem_g (in_t5 (List.mem_of_getElem? (i := 44) (by decide +kernel))) (by decide +kernel)
theorem cl_RX8_177 : Cond.constantLong RX8 177 (9) ∈ gtbl := mem_g (in_t5 (List.mem_of_getElem? (i := 111) (by decide +kernel))) (by decide +kernel)
theorem cl_RX8_190 : Cond.constantLong RX8 190 (10000) ∈ gtbl := mem_g (in_t5 (List.mem_of_getElem? (i := 187) (by decide +kernel))) (by decide +kernel)
theorem cl_RX8_245 : Cond.constantLong RX8 245 (99) ∈ gtbl := mem_g (in_t5 (List.mem_of_getElem? (i := 116) (by decide +kernel))) (by decide +kernel)
theorem cl_RX8_254 : Cond.constantLong RX8 254 (999) ∈ gtbl := mem_g (in_t5 (List.mem_of_getElem? (i := 137) (by decide +kernel))) (by decide +kernel)
theorem cl_RX8_256 : Cond.constantLong RX8 256 (5) ∈ gtbl := mem_g (in_t5 (List.mem_of_getElem? (i := 142) (by decide +kernel))) (by decide +kernel)
theorem cl_RX8_258 : Cond.constantLong RX8 258 (1980) ∈ gtbl := mem_g (in_t5 (List.mem_of_getElem? (i := 163) (by decide +kernel))) (by decide +kernel)
theorem cl_RX8_264 : Cond.constantLong RX8 264 (9999) ∈ gtbl := mem_g (in_t6 (List.mem_of_getElem? (i := 11) (by decide +kernel))) (by decide +kernel)
theorem cl_RX8_275 : Cond.constantLong RX8 275 (40) ∈ gtbl := mem_g (in_t6 (List.mem_of_getElem? (i := 35) (by decide +kernel))) (by decide +kernel)
theorem cl_RX8_277 : Cond.constantLong RX8 277 (4) ∈ gtbl := mem_g (in_t6 (List.mem_of_getElem? (i := 44) (by decide +kernel))) (by decide +kernel)
theorem cl_RX8_279 : Cond.constantLong RX8 279 (20) ∈ gtbl := mem_g (in_t6 (List.mem_of_getElem? (i := 45) (by decide +kernel))) (by decide +kernel)
theorem cl_RX8_301 : Cond.constantLong RX8 301 (10) ∈ gtbl := mem_g (in_t6 (List.mem_of_getElem? (i := 78) (by decide +kernel))) (by decide +kernel)
theorem cl_RX8_303 : Cond.constantLong RX8 303 (-1000001) ∈ gtbl := mem_g (in_t6 (List.mem_of_getElem? (i := 79) (by decide +kernel))) (by decide +kernel)
theorem cl_RX8_305 : Cond.constantLong RX8 305 (60) ∈ gtbl := mem_g (in_t6 (List.mem_of_getElem? (i := 84) (by decide +kernel))) (by decide +kernel)
theorem cl_RX8_307 : Cond.constantLong RX8 307 (999999) ∈ gtbl := mem_g (in_t6 (List.mem_of_getElem? (i := 85) (by decide +kernel))) (by decide +kernel)
theorem cl_RX8_309 : Cond.constantLong RX8 309 (16807) ∈ gtbl := mem_g (in_t6 (List.mem_of_getElem? (i := 86) (by decide +kernel))) (by decide +kernel)
theorem cl_RX8_311 : Cond.constantLong RX8 311 (2147483647) ∈ gtbl := mem_g (in_t6 (List.mem_of_getElem? (i := 87) (by decide +kernel))) (by decide +kernel)
theorem cl_RX8_313 : Cond.constantLong RX8 313 (32) ∈ gtbl := mem_g (in_t6 (List.mem_of_getElem? (i := 88) (by decide +kernel))) (by decide +kernel)
theorem cl_RX8_315 : Cond.constantLong RX8 315 (512) ∈ gtbl := mem_g (in_t6 (List.mem_of_getElem? (i := 89) (by decide +kernel))) (by decide +kernel)
theorem cl_RX8_317 : Cond.constantLong RX8 317 (4096) ∈ gtbl := mem_g (in_t6 (List.mem_of_getElem? (i := 90) (by decide +kernel))) (by decide +kernel)
theorem cl_RX8_70 : Cond.constantLong RX8 70 (7) ∈ gtbl := mem_g (in_t4 (List.mem_of_getElem? (i := 235) (by decide +kernel))) (by decide +kernel)
theorem cl_RX8_80 : Cond.constantLong RX8 80 (2) ∈ gtbl := mem_g (in_t4 (List.mem_of_getElem? (i := 239) (by decide +kernel))) (by decide +kernel)
theorem cl_RX8_87 : Cond.constantLong RX8 87 (255) ∈ gtbl := mem_g (in_t5 (List.mem_of_getElem? (i := 22) (by decide +kernel))) (by decide +kernel)
theorem fl_RX0_13 : Cond.fieldLink RX0 13 RX0 (TX0 1).2.1 (TX0 1).2.2.1 ∈ gtbl := mem_g (in_t1 (List.mem_of_getElem? (i := 143) (by decide +kernel))) (by decide +kernel)
theorem fl_RX0_16 : Cond.fieldLink RX0 16 RX0 (TX0 2).2.1 (TX0 2).2.2.1 ∈ gtbl := mem_g (in_t1 (List.mem_of_getElem? (i := 144) (by decide +kernel))) (by decide +kernel)
theorem fl_RX0_19 : Cond.fieldLink RX0 19 RX0 (TX0 3).2.1 (TX0 3).2.2.1 ∈ gtbl := mem_g (in_t1 (List.mem_of_getElem? (i := 145) (by decide +kernel))) (by decide +kernel)
theorem fl_RX0_22 : Cond.fieldLink RX0 22 RX0 (TX0 4).2.1 (TX0 4).2.2.1 ∈ gtbl := mem_g (in_t1 (List.mem_of_getElem? (i := 146) (by decide +kernel))) (by decide +kernel)
theorem fl_RX0_25 : Cond.fieldLink RX0 25 RX0 (TX0 5).2.1 (TX0 5).2.2.1 ∈ gtbl := mem_g (in_t1 (List.mem_of_getElem? (i := 147) (by decide +kernel))) (by decide +kernel)
theorem fl_RX0_29 : Cond.fieldLink RX0 29 RX0 (TX0 6).2.1 (TX0 6).2.2.1 ∈ gtbl := mem_g (in_t1 (List.mem_of_getElem? (i := 148) (by decide +kernel))) (by decide +kernel)
theorem fl_RX0_38 : Cond.fieldLink RX0 38 RX4 (TX4 4).2.1 (TX4 4).2.2.1 ∈ gtbl := mem_g (in_t1 (List.mem_of_getElem? (i := 89) (by decide +kernel))) (by decide +kernel)
theorem fl_RX0_51 : Cond.fieldLink RX0 51 RX4 (TX4 1).2.1 (TX4 1).2.2.1 ∈ gtbl := mem_g (in_t1 (List.mem_of_getElem? (i := 77) (by decide +kernel))) (by decide +kernel)
theorem fl_RX0_54 : Cond.fieldLink RX0 54 RX4 (TX4 5).2.1 (TX4 5).2.2.1 ∈ gtbl := mem_g (in_t1 (List.mem_of_getElem? (i := 95) (by decide +kernel))) (by decide +kernel)
theorem fl_RX0_9 : Cond.fieldLink RX0 9 RX0 (TX0 0).2.1 (TX0 0).2.2.1 ∈ gtbl := mem_g (in_t1 (List.mem_of_getElem? (i := 142) (by decide +kernel))) (by decide +kernel)
theorem fl_RX1_11 : Cond.fieldLink RX1 11 RX1 (TX1 1).2.1 (TX1 1).2.2.1 ∈ gtbl := mem_g (in_t2 (List.mem_of_getElem? (i := 19) (by decide +kernel))) (by decide +kernel)
theorem fl_RX1_15 : Cond.fieldLink RX1 15 RX1 (TX1 0).2.1 (TX1 0).2.2.1 ∈ gtbl := mem_g (in_t2 (List.mem_of_getElem? (i := 18) (by decide +kernel))) (by decide +kernel)
theorem fl_RX1_19 : Cond.fieldLink RX1 19 RX1 (TX1 2).2.1 (TX1 2).2.2.1 ∈ gtbl := mem_g (in_t2 (List.mem_of_getElem? (i := 21) (by decide +kernel))) (by decide +kernel)
theorem fl_RX1_23 : Cond.fieldLink RX1 23 RX1 (TX1 3).2.1 (TX1 3).2.2.1 ∈ gtbl := mem_g (in_t2 (List.mem_of_getElem? (i := 23) (by decide +kernel))) (by decide +kernel)
theorem fl_RX1_50 : Cond.fieldLink RX1 50 RX2 (TX2 3).2.1 (TX2 3).2.2.1 ∈ gtbl := mem_g (in_t1 (List.mem_of_getElem? (i := 175) (by decide +kernel))) (by decide +kernel)
theorem fl_RX1_62 : Cond.fieldLink RX1 62 RX2 (TX2 4).2.1 (TX2 4).2.2.1 ∈ gtbl := mem_g (in_t1 (List.mem_of_getElem? (i := 178) (by decide +kernel))) (by decide +kernel)
theorem fl_RX1_65 : Cond.fieldLink RX1 65 RX2 (TX2 6).2.1 (TX2 6).2.2.1 ∈ gtbl := mem_g (in_t1 (List.mem_of_getElem? (i := 181) (by decide +kernel))) (by decide +kernel)
theorem fl_RX2_113 : Cond.fieldLink RX2 113 RX2 (TX2 14).2.1 (TX2 14).2.2.1 ∈ gtbl := mem_g (in_t1 (List.mem_of_getElem? (i := 193) (by decide +kernel))) (by decide +kernel)
theorem fl_RX2_15 : Cond.fieldLink RX2 15 RX2 (TX2 1).2.1 (TX2 1).2.2.1 ∈ gtbl := mem_g (in_t1 (List.mem_of_getElem? (i := 172) (by decide +kernel))) (by decide +kernel)
theorem fl_RX2_18 : Cond.fieldLink RX2 18 RX2 (TX2 2).2.1 (TX2 2).2.2.1 ∈ gtbl := mem_g (in_t1 (List.mem_of_getElem? (i := 173) (by decide +kernel))) (by decide +kernel)
theorem fl_RX2_22 : Cond.fieldLink RX2 22 RX2 (TX2 3).2.1 (TX2 3).2.2.1 ∈ gtbl := mem_g (in_t1 (List.mem_of_getElem? (i := 174) (by decide +kernel))) (by decide +kernel)
theorem fl_RX2_25 : Cond.fieldLink RX2 25 RX2 (TX2 4).2.1 (TX2 4).2.2.1 ∈ gtbl := mem_g (in_t1 (List.mem_of_getElem? (i := 177) (by decide +kernel))) (by decide +kernel)
theorem fl_RX2_28 : Cond.fieldLink RX2 28 RX2 (TX2 5).2.1 (TX2 5).2.2.1 ∈ gtbl := mem_g (in_t1 (List.mem_of_getElem? (i := 179) (by decide +kernel))) (by decide +kernel)
theorem fl_RX2_31 : Cond.fieldLink RX2 31 RX2 (TX2 6).2.1 (TX2 6).2.2.1 ∈ gtbl := mem_g (in_t1 (List.mem_of_getElem? (i := 180) (by decide +kernel))) (by decide +kernel)
theorem fl_RX2_34 : Cond.fieldLink RX2 34 RX2 (TX2 7).2.1 (TX2 7).2.2.1 ∈ gtbl := mem_g (in_t1 (List.mem_of_getElem? (i := 182) (by decide +kernel))) (by decide +kernel)
theorem fl_RX2_37 : Cond.fieldLink RX2 37 RX2 (TX2 8).2.1 (TX2 8).2.2.1 ∈ gtbl := mem_g (in_t1 (List.mem_of_getElem? (i := 183) (by decide +kernel))) (by decide +kernel)
theorem fl_RX2_40 : Cond.fieldLink RX2 40 RX2 (TX2 9).2.1 (TX2 9).2.2.1 ∈ gtbl := mem_g (in_t1 (List.mem_of_getElem? (i := 185) (by decide +kernel))) (by decide +kernel)
theorem fl_RX2_43 : Cond.fieldLink RX2 43 RX4 (TX4 3).2.1 (TX4 3).2.2.1 ∈ gtbl := mem_g (in_t1 (List.mem_of_getElem? (i := 83) (by decide +kernel))) (by decide +kernel)
theorem fl_RX2_49 : Cond.fieldLink RX2 49 RX2 (TX2 10).2.1 (TX2 10).2.2.1 ∈ gtbl := mem_g (in_t1 (List.mem_of_getElem? (i := 188) (by decide +kernel))) (by decide +kernel)
theorem fl_RX2_50 : Cond.fieldLink RX2 50 RX4 (TX4 1).2.1 (TX4 1).2.2.1 ∈ gtbl := mem_g (in_t1 (List.mem_of_getElem? (i := 75) (by decide +kernel))) (by decide +kernel)
theorem fl_RX2_53 : Cond.fieldLink RX2 53 RX2 (TX2 11).2.1 (TX2 11).2.2.1 ∈ gtbl := mem_g (in_t1 (List.mem_of_getElem? (i := 189) (by decide +kernel))) (by decide +kernel)
theorem fl_RX2_54 : Cond.fieldLink RX2 54 RX4 (TX4 2).2.1 (TX4 2).2.2.1 ∈ gtbl := mem_g (in_t1 (List.mem_of_getElem? (i := 80) (by decide +kernel))) (by decide +kernel)
theorem fl_RX2_57 : Cond.fieldLink RX2 57 RX2 (TX2 12).2.1 (TX2 12).2.2.1 ∈ gtbl := mem_g (in_t1 (List.mem_of_getElem? (i := 190) (by decide +kernel))) (by decide +kernel)
theorem fl_RX2_58 : Cond.fieldLink RX2 58 RX4 (TX4 4).2.1 (TX4 4).2.2.1 ∈ gtbl := mem_g (in_t1 (List.mem_of_getElem? (i := 88) (by decide +kernel))) (by decide +kernel)
theorem fl_RX2_61 : Cond.fieldLink RX2 61 RX4 (TX4 6).2.1 (TX4 6).2.2.1 ∈ gtbl := mem_g (in_t1 (List.mem_of_getElem? (i := 100) (by decide +kernel))) (by decide +kernel)
theorem fl_RX2_64 : Cond.fieldLink RX2 64 RX4 (TX4 7).2.1 (TX4 7).2.2.1 ∈ gtbl := mem_g (in_t1 (List.mem_of_getElem? (i := 103) (by decide +kernel))) (by decide +kernel)
theorem fl_RX2_67 : Cond.fieldLink RX2 67 RX4 (TX4 8).2.1 (TX4 8).2.2.1 ∈ gtbl := mem_g (in_t1 (List.mem_of_getElem? (i := 107) (by decide +kernel))) (by decide +kernel)
theorem fl_RX2_70 : Cond.fieldLink RX2 70 RX4 (TX4 9).2.1 (TX4 9).2.2.1 ∈ gtbl := mem_g (in_t1 (List.mem_of_getElem? (i := 111) (by decide +kernel))) (by decide +kernel)
theorem fl_RX2_79 : Cond.fieldLink RX2 79 RX4 (TX4 5).2.1 (TX4 5).2.2.1 ∈ gtbl := mem_g (in_t1 (List.mem_of_getElem? (i := 94) (by decide +kernel))) (by decide +kernel)
theorem fl_RX2_9 : Cond.fieldLink RX2 9 RX2 (TX2 0).2.1 (TX2 0).2.2.1 ∈ gtbl := mem_g (in_t1 (List.mem_of_getElem? (i := 171) (by decide +kernel))) (by decide +kernel)
theorem fl_RX2_96 : Cond.fieldLink RX2 96 RX2 (TX2 13).2.1 (TX2 13).2.2.1 ∈ gtbl := mem_g (in_t1 (List.mem_of_getElem? (i := 191) (by decide +kernel))) (by decide +kernel)
theorem fl_RX3_111 : Cond.fieldLink RX3 111 RX2 (TX2 3).2.1 (TX2 3).2.2.1 ∈ gtbl := mem_g (in_t1 (List.mem_of_getElem? (i := 176) (by decide +kernel))) (by decide +kernel)
theorem fl_RX3_114 : Cond.fieldLink RX3 114 RX4 (TX4 7).2.1 (TX4 7).2.2.1 ∈ gtbl := mem_g (in_t1 (List.mem_of_getElem? (i := 105) (by decide +kernel))) (by decide +kernel)
theorem fl_RX3_117 : Cond.fieldLink RX3 117 RX4 (TX4 8).2.1 (TX4 8).2.2.1 ∈ gtbl := mem_g (in_t1 (List.mem_of_getElem? (i := 109) (by decide +kernel))) (by decide +kernel)
theorem fl_RX3_12 : Cond.fieldLink RX3 12 RX3 (TX3 2).2.1 (TX3 2).2.2.1 ∈ gtbl := mem_g (in_t1 (List.mem_of_getElem? (i := 238) (by decide +kernel))) (by decide +kernel)
theorem fl_RX3_120 : Cond.fieldLink RX3 120 RX4 (TX4 9).2.1 (TX4 9).2.2.1 ∈ gtbl := mem_g (in_t1 (List.mem_of_getElem? (i := 113) (by decide +kernel))) (by decide +kernel)
theorem fl_RX3_150 : Cond.fieldLink RX3 150 RX2 (TX2 14).2.1 (TX2 14).2.2.1 ∈ gtbl := mem_g (in_t1 (List.mem_of_getElem? (i := 194) (by decide +kernel))) (by decide +kernel)
theorem fl_RX3_153 : Cond.fieldLink RX3 153 RX4 (TX4 4).2.1 (TX4 4).2.2.1 ∈ gtbl := mem_g (in_t1 (List.mem_of_getElem? (i := 92) (by decide +kernel))) (by decide +kernel)
theorem fl_RX3_18 : Cond.fieldLink RX3 18 RX3 (TX3 3).2.1 (TX3 3).2.2.1 ∈ gtbl := mem_g (in_t1 (List.mem_of_getElem? (i := 239) (by decide +kernel))) (by decide +kernel)
theorem fl_RX3_22 : Cond.fieldLink RX3 22 RX3 (TX3 4).2.1 (TX3 4).2.2.1 ∈ gtbl := mem_g (in_t2 (List.mem_of_getElem? (i := 0) (by decide +kernel))) (by decide +kernel)
theorem fl_RX3_25 : Cond.fieldLink RX3 25 RX3 (TX3 0).2.1 (TX3 0).2.2.1 ∈ gtbl := mem_g (in_t1 (List.mem_of_getElem? (i := 236) (by decide +kernel))) (by decide +kernel)
theorem fl_RX3_28 : Cond.fieldLink RX3 28 RX3 (TX3 1).2.1 (TX3 1).2.2.1 ∈ gtbl := mem_g (in_t1 (List.mem_of_getElem? (i := 237) (by decide +kernel))) (by decide +kernel)
theorem fl_RX3_38 : Cond.fieldLink RX3 38 RX4 (TX4 6).2.1 (TX4 6).2.2.1 ∈ gtbl := mem_g (in_t1 (List.mem_of_getElem? (i := 99) (by decide +kernel))) (by decide +kernel)
theorem fl_RX3_48 : Cond.fieldLink RX3 48 RX2 (TX2 9).2.1 (TX2 9).2.2.1 ∈ gtbl := mem_g (in_t1 (List.mem_of_getElem? (i := 186) (by decide +kernel))) (by decide +kernel)
theorem fl_RX3_57 : Cond.fieldLink RX3 57 RX4 (TX4 3).2.1 (TX4 3).2.2.1 ∈ gtbl := mem_g (in_t1 (List.mem_of_getElem? (i := 84) (by decide +kernel))) (by decide +kernel)
theorem fl_RX4_15 : Cond.fieldLink RX4 15 RX4 (TX4 6).2.1 (TX4 6).2.2.1 ∈ gtbl := mem_g (in_t1 (List.mem_of_getElem? (i := 98) (by decide +kernel))) (by decide +kernel)
theorem fl_RX4_18 : Cond.fieldLink RX4 18 RX4 (TX4 7).2.1 (TX4 7).2.2.1 ∈ gtbl := mem_g (in_t1 (List.mem_of_getElem? (i := 102) (by decide +kernel))) (by decide +kernel)
theorem fl_RX4_21 : Cond.fieldLink RX4 21 RX4 (TX4 8).2.1 (TX4 8).2.2.1 ∈ gtbl := mem_g (in_t1 (List.mem_of_getElem? (i := 106) (by decide +kernel))) (by decide +kernel)
theorem fl_RX4_24 : Cond.fieldLink RX4 24 RX4 (TX4 9).2.1 (TX4 9).2.2.1 ∈ gtbl := mem_g (in_t1 (List.mem_of_getElem? (i := 110) (by decide +kernel))) (by decide +kernel)
theorem fl_RX4_27 : Cond.fieldLink RX4 27 RX4 (TX4 0).2.1 (TX4 0).2.2.1 ∈ gtbl := mem_g (in_t1 (List.mem_of_getElem? (i := 72) (by decide +kernel))) (by decide +kernel)
theorem fl_RX4_31 : Cond.fieldLink RX4 31 RX4 (TX4 1).2.1 (TX4 1).2.2.1 ∈ gtbl := mem_g (in_t1 (List.mem_of_getElem? (i := 74) (by decide +kernel))) (by decide +kernel)
theorem fl_RX4_35 : Cond.fieldLink RX4 35 RX4 (TX4 2).2.1 (TX4 2).2.2.1 ∈ gtbl := mem_g (in_t1 (List.mem_of_getElem? (i := 79) (by decide +kernel))) (by decide +kernel)
theorem fl_RX4_38 : Cond.fieldLink RX4 38 RX4 (TX4 3).2.1 (TX4 3).2.2.1 ∈ gtbl := mem_g (in_t1 (List.mem_of_getElem? (i := 82) (by decide +kernel))) (by decide +kernel)
theorem fl_RX4_41 : Cond.fieldLink RX4 41 RX4 (TX4 4).2.1 (TX4 4).2.2.1 ∈ gtbl := mem_g (in_t1 (List.mem_of_getElem? (i := 87) (by decide +kernel))) (by decide +kernel)
theorem fl_RX4_9 : Cond.fieldLink RX4 9 RX4 (TX4 5).2.1 (TX4 5).2.2.1 ∈ gtbl := mem_g (in_t1 (List.mem_of_getElem? (i := 93) (by decide +kernel))) (by decide +kernel)
theorem fl_RX5_13 : Cond.fieldLink RX5 13 RX5 (TX5 1).2.1 (TX5 1).2.2.1 ∈ gtbl := mem_g (in_t1 (List.mem_of_getElem? (i := 28) (by decide +kernel))) (by decide +kernel)
theorem fl_RX5_16 : Cond.fieldLink RX5 16 RX5 (TX5 2).2.1 (TX5 2).2.2.1 ∈ gtbl := mem_g (in_t1 (List.mem_of_getElem? (i := 29) (by decide +kernel))) (by decide +kernel)
theorem fl_RX5_9 : Cond.fieldLink RX5 9 RX5 (TX5 0).2.1 (TX5 0).2.2.1 ∈ gtbl := mem_g (in_t1 (List.mem_of_getElem? (i := 26) (by decide +kernel))) (by decide +kernel)
theorem fl_RX6_11 : Cond.fieldLink RX6 11 RX6 (TX6 0).2.1 (TX6 0).2.2.1 ∈ gtbl := mem_g (in_t1 (List.mem_of_getElem? (i := 44) (by decide +kernel))) (by decide +kernel)
theorem fl_RX6_15 : Cond.fieldLink RX6 15 RX6 (TX6 1).2.1 (TX6 1).2.2.1 ∈ gtbl := mem_g (in_t1 (List.mem_of_getElem? (i := 45) (by decide +kernel))) (by decide +kernel)
theorem fl_RX6_19 : Cond.fieldLink RX6 19 RX6 (TX6 2).2.1 (TX6 2).2.2.1 ∈ gtbl := mem_g (in_t1 (List.mem_of_getElem? (i := 47) (by decide +kernel))) (by decide +kernel)
theorem fl_RX6_45 : Cond.fieldLink RX6 45 RX6 (TX6 3).2.1 (TX6 3).2.2.1 ∈ gtbl := mem_g (in_t1 (List.mem_of_getElem? (i := 48) (by decide +kernel))) (by decide +kernel)
theorem fl_RX6_48 : Cond.fieldLink RX6 48 RX4 (TX4 1).2.1 (TX4 1).2.2.1 ∈ gtbl := mem_g (in_t1 (List.mem_of_getElem? (i := 76) (by decide +kernel))) (by decide +kernel)
theorem fl_RX6_51 : Cond.fieldLink RX6 51 RX4 (TX4 2).2.1 (TX4 2).2.2.1 ∈ gtbl := mem_g (in_t1 (List.mem_of_getElem? (i := 81) (by decide +kernel))) (by decide +kernel)
theorem fl_RX6_62 : Cond.fieldLink RX6 62 RX4 (TX4 3).2.1 (TX4 3).2.2.1 ∈ gtbl := mem_g (in_t1 (List.mem_of_getElem? (i := 85) (by decide +kernel))) (by decide +kernel)
theorem fl_RX6_69 : Cond.fieldLink RX6 69 RX4 (TX4 5).2.1 (TX4 5).2.2.1 ∈ gtbl := mem_g (in_t1 (List.mem_of_getElem? (i := 96) (by decide +kernel))) (by decide +kernel)
theorem fl_RX6_72 : Cond.fieldLink RX6 72 RX4 (TX4 4).2.1 (TX4 4).2.2.1 ∈ gtbl := mem_g (in_t1 (List.mem_of_getElem? (i := 90) (by decide +kernel))) (by decide +kernel)
theorem fl_RX6_89 : Cond.fieldLink RX6 89 RX6 (TX6 4).2.1 (TX6 4).2.2.1 ∈ gtbl := mem_g (in_t1 (List.mem_of_getElem? (i := 50) (by decide +kernel))) (by decide +kernel)
theorem fl_RX6_92 : Cond.fieldLink RX6 92 RX6 (TX6 5).2.1 (TX6 5).2.2.1 ∈ gtbl := mem_g (in_t1 (List.mem_of_getElem? (i := 52) (by decide +kernel))) (by decide +kernel)
theorem fl_RX7_10 : Cond.fieldLink RX7 10 RX7 (TX7 0).2.1 (TX7 0).2.2.1 ∈ gtbl := mem_g (in_t2 (List.mem_of_getElem? (i := 33) (by decide +kernel))) (by decide +kernel)
theorem fl_RX7_113 : Cond.fieldLink RX7 113 RX6 (TX6 1).2.1 (TX6 1).2.2.1 ∈ gtbl := mem_g (in_t1 (List.mem_of_getElem? (i := 46) (by decide +kernel))) (by decide +kernel)
theorem fl_RX7_122 : Cond.fieldLink RX7 122 RX6 (TX6 4).2.1 (TX6 4).2.2.1 ∈ gtbl := mem_g (in_t1 (List.mem_of_getElem? (i := 49) (by decide +kernel))) (by decide +kernel)
theorem fl_RX7_125 : Cond.fieldLink RX7 125 RX7 (TX7 9).2.1 (TX7 9).2.2.1 ∈ gtbl := mem_g (in_t2 (List.mem_of_getElem? (i := 42) (by decide +kernel))) (by decide +kernel)
theorem fl_RX7_129 : Cond.fieldLink RX7 129 RX6 (TX6 5).2.1 (TX6 5).2.2.1 ∈ gtbl := mem_g (in_t1 (List.mem_of_getElem? (i := 51) (by decide +kernel))) (by decide +kernel)
theorem fl_RX7_139 : Cond.fieldLink RX7 139 RX4 (TX4 3).2.1 (TX4 3).2.2.1 ∈ gtbl := mem_g (in_t1 (List.mem_of_getElem? (i := 86) (by decide +kernel))) (by decide +kernel)
theorem fl_RX7_142 : Cond.fieldLink RX7 142 RX0 (TX0 6).2.1 (TX0 6).2.2.1 ∈ gtbl := mem_g (in_t1 (List.mem_of_getElem? (i := 149) (by decide +kernel))) (by decide +kernel)
theorem fl_RX7_155 : Cond.fieldLink RX7 155 RX4 (TX4 4).2.1 (TX4 4).2.2.1 ∈ gtbl := mem_g (in_t1 (List.mem_of_getElem? (i := 91) (by decide +kernel))) (by decide +kernel)
theorem fl_RX7_168 : Cond.fieldLink RX7 168 RX4 (TX4 9).2.1 (TX4 9).2.2.1 ∈ gtbl := mem_g (in_t1 (List.mem_of_getElem? (i := 112) (by decide +kernel))) (by decide +kernel)
theorem fl_RX7_171 : Cond.fieldLink RX7 171 RX4 (TX4 7).2.1 (TX4 7).2.2.1 ∈ gtbl := mem_g (in_t1 (List.mem_of_getElem? (i := 104) (by decide +kernel))) (by decide +kernel)
theorem fl_RX7_174 : Cond.fieldLink RX7 174 RX4 (TX4 8).2.1 (TX4 8).2.2.1 ∈ gtbl := mem_g (in_t1 (List.mem_of_getElem? (i := 108) (by decide +kernel))) (by decide +kernel)
theorem fl_RX7_181 : Cond.fieldLink RX7 181 RX4 (TX4 0).2.1 (TX4 0).2.2.1 ∈ gtbl := mem_g (in_t1 (List.mem_of_getElem? (i := 73) (by decide +kernel))) (by decide +kernel)
theorem fl_RX7_185 : Cond.fieldLink RX7 185 RX4 (TX4 1).2.1 (TX4 1).2.2.1 ∈ gtbl := mem_g (in_t1 (List.mem_of_getElem? (i := 78) (by decide +kernel))) (by decide +kernel)
theorem fl_RX7_188 : Cond.fieldLink RX7 188 RX4 (TX4 5).2.1 (TX4 5).2.2.1 ∈ gtbl := mem_g (in_t1 (List.mem_of_getElem? (i := 97) (by decide +kernel))) (by decide +kernel)
theorem fl_RX7_19 : Cond.fieldLink RX7 19 RX7 (TX7 1).2.1 (TX7 1).2.2.1 ∈ gtbl := mem_g (in_t2 (List.mem_of_getElem? (i := 34) (by decide +kernel))) (by decide +kernel)
theorem fl_RX7_195 : Cond.fieldLink RX7 195 RX4 (TX4 6).2.1 (TX4 6).2.2.1 ∈ gtbl := mem_g (in_t1 (List.mem_of_getElem? (i := 101) (by decide +kernel))) (by decide +kernel)
theorem fl_RX7_227 : Cond.fieldLink RX7 227 RX2 (TX2 8).2.1 (TX2 8).2.2.1 ∈ gtbl := mem_g (in_t1 (List.mem_of_getElem? (i := 184) (by decide +kernel))) (by decide +kernel)
theorem fl_RX7_230 : Cond.fieldLink RX7 230 RX2 (TX2 9).2.1 (TX2 9).2.2.1 ∈ gtbl := mem_g (in_t1 (List.mem_of_getElem? (i := 187) (by decide +kernel))) (by decide +kernel)
theorem fl_RX7_236 : Cond.fieldLink RX7 236 RX2 (TX2 13).2.1 (TX2 13).2.2.1 ∈ gtbl := mem_g (in_t1 (List.mem_of_getElem? (i := 192) (by decide +kernel))) (by decide +kernel)
theorem fl_RX7_243 : Cond.fieldLink RX7 243 RX2 (TX2 14).2.1 (TX2 14).2.2.1 ∈ gtbl := mem_g (in_t1 (List.mem_of_getElem? (i := 195) (by decide +kernel))) (by decide +kernel)
theorem fl_RX7_26 : Cond.fieldLink RX7 26 RX7 (TX7 2).2.1 (TX7 2).2.2.1 ∈ gtbl := mem_g (in_t2 (List.mem_of_getElem? (i := 35) (by decide +kernel))) (by decide +kernel)
theorem fl_RX7_30 : Cond.fieldLink RX7 30 RX7 (TX7 3).2.1 (TX7 3).2.2.1 ∈ gtbl := mem_g (in_t2 (List.mem_of_getElem? (i := 36) (by decide +kernel))) (by decide +kernel)
theorem fl_RX7_302 : Cond.fieldLink RX7 302 RX1 (TX1 2).2.1 (TX1 2).2.2.1 ∈ gtbl := mem_g (in_t2 (List.mem_of_getElem? (i := 22) (by decide +kernel))) (by decide +kernel)
theorem fl_RX7_305 : Cond.fieldLink RX7 305 RX1 (TX1 1).2.1 (TX1 1).2.2.1 ∈ gtbl := mem_g (in_t2 (List.mem_of_getElem? (i := 20) (by decide +kernel))) (by decide +kernel)
theorem fl_RX7_315 : Cond.fieldLink RX7 315 RX7 (TX7 10).2.1 (TX7 10).2.2.1 ∈ gtbl := mem_g (in_t2 (List.mem_of_getElem? (i := 43) (by decide +kernel))) (by decide +kernel)
theorem fl_RX7_33 : Cond.fieldLink RX7 33 RX7 (TX7 4).2.1 (TX7 4).2.2.1 ∈ gtbl := mem_g (in_t2 (List.mem_of_getElem? (i := 37) (by decide +kernel))) (by decide +kernel)
theorem fl_RX7_40 : Cond.fieldLink RX7 40 RX7 (TX7 5).2.1 (TX7 5).2.2.1 ∈ gtbl := mem_g (in_t2 (List.mem_of_getElem? (i := 38) (by decide +kernel))) (by decide +kernel)
theorem fl_RX7_47 : Cond.fieldLink RX7 47 RX7 (TX7 6).2.1 (TX7 6).2.2.1 ∈ gtbl := mem_g (in_t2 (List.mem_of_getElem? (i := 39) (by decide +kernel))) (by decide +kernel)
theorem fl_RX7_56 : Cond.fieldLink RX7 56 RX7 (TX7 7).2.1 (TX7 7).2.2.1 ∈ gtbl := mem_g (in_t2 (List.mem_of_getElem? (i := 40) (by decide +kernel))) (by decide +kernel)
theorem fl_RX7_65 : Cond.fieldLink RX7 65 RX7 (TX7 8).2.1 (TX7 8).2.2.1 ∈ gtbl := mem_g (in_t2 (List.mem_of_getElem? (i := 41) (by decide +kernel))) (by decide +kernel)
theorem fl_RX7_99 : Cond.fieldLink RX7 99 RX5 (TX5 0).2.1 (TX5 0).2.2.1 ∈ gtbl := mem_g (in_t1 (List.mem_of_getElem? (i := 27) (by decide +kernel))) (by decide +kernel)
theorem fl_RX8_102 : Cond.fieldLink RX8 102 RX8 (TX8 12).2.1 (TX8 12).2.2.1 ∈ gtbl := mem_g (in_t4 (List.mem_of_getElem? (i := 149) (by decide +kernel))) (by decide +kernel)
theorem fl_RX8_106 : Cond.fieldLink RX8 106 RX8 (TX8 15).2.1 (TX8 15).2.2.1 ∈ gtbl := mem_g (in_t4 (List.mem_of_getElem? (i := 152) (by decide +kernel))) (by decide +kernel)
theorem fl_RX8_117 : Cond.fieldLink RX8 117 RX8 (TX8 14).2.1 (TX8 14).2.2.1 ∈ gtbl := mem_g (in_t4 (List.mem_of_getElem? (i := 151) (by decide +kernel))) (by decide +kernel)
theorem fl_RX8_13 : Cond.fieldLink RX8 13 RX8 (TX8 3).2.1 (TX8 3).2.2.1 ∈ gtbl := mem_g (in_t4 (List.mem_of_getElem? (i := 140) (by decide +kernel))) (by decide +kernel)
theorem fl_RX8_131 : Cond.fieldLink RX8 131 RX8 (TX8 18).2.1 (TX8 18).2.2.1 ∈ gtbl := mem_g (in_t4 (List.mem_of_getElem? (i := 155) (by decide +kernel))) (by decide +kernel)
theorem fl_RX8_16 : Cond.fieldLink RX8 16 RX8 (TX8 4).2.1 (TX8 4).2.2.1 ∈ gtbl := mem_g (in_t4 (List.mem_of_getElem? (i := 141) (by decide +kernel))) (by decide +kernel)
theorem fl_RX8_171 : Cond.fieldLink RX8 171 RX8 (TX8 9).2.1 (TX8 9).2.2.1 ∈ gtbl := mem_g (in_t4 (List.mem_of_getElem? (i := 146) (by decide +kernel))) (by decide +kernel)
theorem fl_RX8_19 : Cond.fieldLink RX8 19 RX8 (TX8 5).2.1 (TX8 5).2.2.1 ∈ gtbl := mem_g (in_t4 (List.mem_of_getElem? (i := 142) (by decide +kernel))) (by decide +kernel)
theorem fl_RX8_216 : Cond.fieldLink RX8 216 RX8 (TX8 24).2.1 (TX8 24).2.2.1 ∈ gtbl := mem_g (in_t4 (List.mem_of_getElem? (i := 161) (by decide +kernel))) (by decide +kernel)
theorem fl_RX8_22 : Cond.fieldLink RX8 22 RX8 (TX8 6).2.1 (TX8 6).2.2.1 ∈ gtbl := mem_g (in_t4 (List.mem_of_getElem? (i := 143) (by decide +kernel))) (by decide +kernel)
theorem fl_RX8_25 : Cond.fieldLink RX8 25 RX8 (TX8 7).2.1 (TX8 7).2.2.1 ∈ gtbl := mem_g (in_t4 (List.mem_of_getElem? (i := 144) (by decide +kernel))) (by decide +kernel)
theorem fl_RX8_28 : Cond.fieldLink RX8 28 RX8 (TX8 8).2.1 (TX8 8).2.2.1 ∈ gtbl := mem_g (in_t4 (List.mem_of_getElem? (i := 145) (by decide +kernel))) (by decide +kernel)
theorem fl_RX8_31 : Cond.fieldLink RX8 31 RX8 (TX8 10).2.1 (TX8 10).2.2.1 ∈ gtbl := mem_g (in_t4 (List.mem_of_getElem? (i := 147) (by decide +kernel))) (by decide +kernel)
theorem fl_RX8_322 : Cond.fieldLink RX8 322 RX8 (TX8 29).2.1 (TX8 29).2.2.1 ∈ gtbl := mem_g (in_t4 (List.mem_of_getElem? (i := 166) (by decide +kernel))) (by decide +kernel)
theorem fl_RX8_34 : Cond.fieldLink RX8 34 RX8 (TX8 19).2.1 (TX8 19).2.2.1 ∈ gtbl := mem_g (in_t4 (List.mem_of_getElem? (i := 156) (by decide +kernel))) (by decide +kernel)
theorem fl_RX8_37 : Cond.fieldLink RX8 37 RX8 (TX8 20).2.1 (TX8 20).2.2.1 ∈ gtbl := mem_g (in_t4 (List.mem_of_getElem? (i := 157) (by decide +kernel))) (by decide +kernel)
theorem fl_RX8_40 : Cond.fieldLink RX8 40 RX8 (TX8 21).2.1 (TX8 21).2.2.1 ∈ gtbl := mem_g (in_t4 (List.mem_of_getElem? (i := 158) (by decide +kernel))) (by decide +kernel)
theorem fl_RX8_43 : Cond.fieldLink RX8 43 RX8 (TX8 22).2.1 (TX8 22).2.2.1 ∈ gtbl := mem_g (in_t4 (List.mem_of_getElem? (i := 159) (by decide +kernel))) (by decide +kernel)
theorem fl_RX8_46 : Cond.fieldLink RX8 46 RX8 (TX8 23).2.1 (TX8 23).2.2.1 ∈ gtbl := mem_g (in_t4 (List.mem_of_getElem? (i := 160) (by decide +kernel))) (by decide +kernel)
theorem fl_RX8_49 : Cond.fieldLink RX8 49 RX8 (TX8 25).2.1 (TX8 25).2.2.1 ∈ gtbl := mem_g (in_t4 (List.mem_of_getElem? (i := 162) (by decide +kernel))) (by decide +kernel)
theorem fl_RX8_52 : Cond.fieldLink RX8 52 RX8 (TX8 26).2.1 (TX8 26).2.2.1 ∈ gtbl := mem_g (in_t4 (List.mem_of_getElem? (i := 163) (by decide +kernel))) (by decide +kernel)
theorem fl_RX8_56 : Cond.fieldLink RX8 56 RX8 (TX8 27).2.1 (TX8 27).2.2.1 ∈ gtbl := mem_g (in_t4 (List.mem_of_getElem? (i := 164) (by decide +kernel))) (by decide +kernel)
theorem fl_RX8_59 : Cond.fieldLink RX8 59 RX8 (TX8 28).2.1 (TX8 28).2.2.1 ∈ gtbl := mem_g (in_t4 (List.mem_of_getElem? (i := 165) (by decide +kernel))) (by decide +kernel)
theorem fl_RX8_62 : Cond.fieldLink RX8 62 RX8 (TX8 0).2.1 (TX8 0).2.2.1 ∈ gtbl := mem_g (in_t4 (List.mem_of_getElem? (i := 137) (by decide +kernel))) (by decide +kernel)
theorem fl_RX8_66 : Cond.fieldLink RX8 66 RX8 (TX8 1).2.1 (TX8 1).2.2.1 ∈ gtbl := mem_g (in_t4 (List.mem_of_getElem? (i := 138) (by decide +kernel))) (by decide +kernel)
theorem fl_RX8_7 : Cond.fieldLink RX8 7 RX8 (TX8 2).2.1 (TX8 2).2.2.1 ∈ gtbl := mem_g (in_t4 (List.mem_of_getElem? (i := 139) (by decide +kernel))) (by decide +kernel)
theorem fl_RX8_89 : Cond.fieldLink RX8 89 RX8 (TX8 11).2.1 (TX8 11).2.2.1 ∈ gtbl := mem_g (in_t4 (List.mem_of_getElem? (i := 148) (by decide +kernel))) (by decide +kernel)
theorem fl_RX8_93 : Cond.fieldLink RX8 93 RX8 (TX8 16).2.1 (TX8 16).2.2.1 ∈ gtbl := mem_g (in_t4 (List.mem_of_getElem? (i := 153) (by decide +kernel))) (by decide +kernel)
theorem fl_RX8_96 : Cond.fieldLink RX8 96 RX8 (TX8 13).2.1 (TX8 13).2.2.1 ∈ gtbl := mem_g (in_t4 (List.mem_of_getElem? (i := 150) (by decide +kernel))) (by decide +kernel)
theorem fl_RX8_99 : Cond.fieldLink RX8 99 RX8 (TX8 17).2.1 (TX8 17).2.2.1 ∈ gtbl := mem_g (in_t4 (List.mem_of_getElem? (i := 154) (by decide +kernel))) (by decide +kernel)
theorem fl_RX1_33 : Cond.fieldLink RX1 33 "MatchFund$Asks" "SIZE_BODIES" "[I" ∈ gtbl := mem_g (in_t4 (List.mem_of_getElem? (i := 84) (by decide +kernel))) (by decide +kernel)
theorem fl_RX1_44 : Cond.fieldLink RX1 44 "MatchFund$Asks" "MARK_BODIES" "[I" ∈ gtbl := mem_g (in_t4 (List.mem_of_getElem? (i := 103) (by decide +kernel))) (by decide +kernel)
theorem fl_RX7_318 : Cond.fieldLink RX7 318 "MatchFund" "KIND_ABOVE" "[I" ∈ gtbl := mem_g (in_t4 (List.mem_of_getElem? (i := 70) (by decide +kernel))) (by decide +kernel)
abbrev mdX0_forgetAll : Md := (yX0_forgetAll, cX0_forgetAll, 1, none)
theorem co_X0_forgetAll : CalleeOk mdX0_forgetAll 0 := ⟨by decide +kernel, by decide, mem_g (in_t2 (List.mem_of_getElem? (i := 199) rfl)) rfl, ini_RX0⟩
theorem im_X0_forgetAll : Cond.instanceMethod yX0_forgetAll ∈ gtbl := mem_g (in_t2 (List.mem_of_getElem? (i := 197) (by decide +kernel))) (by decide +kernel)
theorem se_X0_forgetAll : Cond.selects yX0_forgetAll.cls yX0_forgetAll yX0_forgetAll ∈ gtbl := mem_g (in_t2 (List.mem_of_getElem? (i := 198) (by decide +kernel))) (by decide +kernel)
abbrev mdX0_keep : Md := (yX0_keep, cX0_keep, 6, none)
theorem co_X0_keep : CalleeOk mdX0_keep 5 := ⟨by decide +kernel, by decide, mem_g (in_t2 (List.mem_of_getElem? (i := 237) rfl)) rfl, ini_RX0⟩
theorem im_X0_keep : Cond.instanceMethod yX0_keep ∈ gtbl := mem_g (in_t2 (List.mem_of_getElem? (i := 235) (by decide +kernel))) (by decide +kernel)
theorem se_X0_keep : Cond.selects yX0_keep.cls yX0_keep yX0_keep ∈ gtbl := mem_g (in_t2 (List.mem_of_getElem? (i := 236) (by decide +kernel))) (by decide +kernel)
abbrev mdX0_revertLatest : Md := (yX0_revertLatest, cX0_revertLatest, 2, none)
theorem co_X0_revertLatest : CalleeOk mdX0_revertLatest 1 := ⟨by decide +kernel, by decide, mem_g (in_t2 (List.mem_of_getElem? (i := 212) rfl)) rfl, ini_RX0⟩
theorem im_X0_revertLatest : Cond.instanceMethod yX0_revertLatest ∈ gtbl := mem_g (in_t2 (List.mem_of_getElem? (i := 210) (by decide +kernel))) (by decide +kernel)
theorem se_X0_revertLatest : Cond.selects yX0_revertLatest.cls yX0_revertLatest yX0_revertLatest ∈ gtbl := mem_g (in_t2 (List.mem_of_getElem? (i := 211) (by decide +kernel))) (by decide +kernel)
abbrev mdX1_answer : Md := (yX1_answer, cX1_answer, 3, some .int)
theorem co_X1_answer : CalleeOk mdX1_answer 2 := ⟨by decide +kernel, by decide, mem_g (in_t4 (List.mem_of_getElem? (i := 79) rfl)) rfl, ini_RX1⟩
theorem im_X1_answer : Cond.instanceMethod yX1_answer ∈ gtbl := mem_g (in_t4 (List.mem_of_getElem? (i := 77) (by decide +kernel))) (by decide +kernel)
theorem se_X1_answer : Cond.selects yX1_answer.cls yX1_answer yX1_answer ∈ gtbl := mem_g (in_t4 (List.mem_of_getElem? (i := 78) (by decide +kernel))) (by decide +kernel)
abbrev mdX1_bodyFor : Md := (yX1_bodyFor, cX1_bodyFor, 4, some .int)
theorem co_X1_bodyFor : CalleeOk mdX1_bodyFor 1 := ⟨by decide +kernel, by decide, mem_g (in_t4 (List.mem_of_getElem? (i := 89) rfl)) rfl, ini_RX1⟩
theorem im_X1_bodyFor : Cond.instanceMethod yX1_bodyFor ∈ gtbl := mem_g (in_t4 (List.mem_of_getElem? (i := 88) (by decide +kernel))) (by decide +kernel)
theorem se_X1_bodyFor : Cond.selects yX1_bodyFor.cls yX1_bodyFor yX1_bodyFor ∈ gtbl := in_p2 (List.mem_of_getElem? (i := 4) (by decide +kernel) : (yX1_bodyFor, 4) ∈ lw_privs_2)
abbrev mdX1_leaveNumber : Md := (yX1_leaveNumber, cX1_leaveNumber, 2, none)
theorem co_X1_leaveNumber : CalleeOk mdX1_leaveNumber 1 := ⟨by decide +kernel, by decide, mem_g (in_t4 (List.mem_of_getElem? (i := 98) rfl)) rfl, ini_RX1⟩
theorem im_X1_leaveNumber : Cond.instanceMethod yX1_leaveNumber ∈ gtbl := mem_g (in_t4 (List.mem_of_getElem? (i := 97) (by decide +kernel))) (by decide +kernel)
theorem se_X1_leaveNumber : Cond.selects yX1_leaveNumber.cls yX1_leaveNumber yX1_leaveNumber ∈ gtbl := in_p2 (List.mem_of_getElem? (i := 6) (by decide +kernel) : (yX1_leaveNumber, 4) ∈ lw_privs_2)
abbrev mdX1_mark : Md := (yX1_mark, cX1_mark, 2, some .int)
theorem co_X1_mark : CalleeOk mdX1_mark 1 := ⟨by decide +kernel, by decide, mem_g (in_t4 (List.mem_of_getElem? (i := 102) rfl)) rfl, ini_RX1⟩
theorem im_X1_mark : Cond.instanceMethod yX1_mark ∈ gtbl := mem_g (in_t4 (List.mem_of_getElem? (i := 101) (by decide +kernel))) (by decide +kernel)
theorem se_X1_mark : Cond.selects yX1_mark.cls yX1_mark yX1_mark ∈ gtbl := in_p2 (List.mem_of_getElem? (i := 7) (by decide +kernel) : (yX1_mark, 4) ∈ lw_privs_2)
abbrev mdX1_markBy : Md := (yX1_markBy, cX1_markBy, 3, some .int)
theorem co_X1_markBy : CalleeOk mdX1_markBy 2 := ⟨by decide +kernel, by decide, mem_g (in_t4 (List.mem_of_getElem? (i := 108) rfl)) rfl, ini_RX1⟩
theorem im_X1_markBy : Cond.instanceMethod yX1_markBy ∈ gtbl := mem_g (in_t4 (List.mem_of_getElem? (i := 107) (by decide +kernel))) (by decide +kernel)
theorem se_X1_markBy : Cond.selects yX1_markBy.cls yX1_markBy yX1_markBy ∈ gtbl := in_p2 (List.mem_of_getElem? (i := 8) (by decide +kernel) : (yX1_markBy, 4) ∈ lw_privs_2)
abbrev mdX1_size : Md := (yX1_size, cX1_size, 2, some .int)
theorem co_X1_size : CalleeOk mdX1_size 1 := ⟨by decide +kernel, by decide, mem_g (in_t4 (List.mem_of_getElem? (i := 83) rfl)) rfl, ini_RX1⟩
theorem im_X1_size : Cond.instanceMethod yX1_size ∈ gtbl := mem_g (in_t4 (List.mem_of_getElem? (i := 82) (by decide +kernel))) (by decide +kernel)
theorem se_X1_size : Cond.selects yX1_size.cls yX1_size yX1_size ∈ gtbl := in_p2 (List.mem_of_getElem? (i := 3) (by decide +kernel) : (yX1_size, 4) ∈ lw_privs_2)
abbrev mdX1_sizeBy : Md := (yX1_sizeBy, cX1_sizeBy, 3, some .int)
theorem co_X1_sizeBy : CalleeOk mdX1_sizeBy 2 := ⟨by decide +kernel, by decide, mem_g (in_t4 (List.mem_of_getElem? (i := 94) rfl)) rfl, ini_RX1⟩
theorem im_X1_sizeBy : Cond.instanceMethod yX1_sizeBy ∈ gtbl := mem_g (in_t4 (List.mem_of_getElem? (i := 93) (by decide +kernel))) (by decide +kernel)
theorem se_X1_sizeBy : Cond.selects yX1_sizeBy.cls yX1_sizeBy yX1_sizeBy ∈ gtbl := in_p2 (List.mem_of_getElem? (i := 5) (by decide +kernel) : (yX1_sizeBy, 4) ∈ lw_privs_2)
abbrev mdX2_add : Md := (yX2_add, cX2_add, 5, none)
theorem co_X2_add : CalleeOk mdX2_add 3 := ⟨by decide +kernel, by decide, mem_g (in_t3 (List.mem_of_getElem? (i := 144) rfl)) rfl, ini_RX2⟩
theorem im_X2_add : Cond.instanceMethod yX2_add ∈ gtbl := mem_g (in_t3 (List.mem_of_getElem? (i := 142) (by decide +kernel))) (by decide +kernel)
theorem se_X2_add : Cond.selects yX2_add.cls yX2_add yX2_add ∈ gtbl := mem_g (in_t3 (List.mem_of_getElem? (i := 143) (by decide +kernel))) (by decide +kernel)
abbrev mdX2_allPaid : Md := (yX2_allPaid, cX2_allPaid, 3, some .int)
theorem co_X2_allPaid : CalleeOk mdX2_allPaid 0 := ⟨by decide +kernel, by decide, mem_g (in_t3 (List.mem_of_getElem? (i := 131) rfl)) rfl, ini_RX2⟩
theorem im_X2_allPaid : Cond.instanceMethod yX2_allPaid ∈ gtbl := mem_g (in_t3 (List.mem_of_getElem? (i := 129) (by decide +kernel))) (by decide +kernel)
theorem se_X2_allPaid : Cond.selects yX2_allPaid.cls yX2_allPaid yX2_allPaid ∈ gtbl := mem_g (in_t3 (List.mem_of_getElem? (i := 130) (by decide +kernel))) (by decide +kernel)
abbrev mdX2_claimOf : Md := (yX2_claimOf, cX2_claimOf, 3, some .int)
theorem co_X2_claimOf : CalleeOk mdX2_claimOf 1 := ⟨by decide +kernel, by decide, mem_g (in_t3 (List.mem_of_getElem? (i := 111) rfl)) rfl, ini_RX2⟩
theorem im_X2_claimOf : Cond.instanceMethod yX2_claimOf ∈ gtbl := mem_g (in_t3 (List.mem_of_getElem? (i := 109) (by decide +kernel))) (by decide +kernel)
theorem se_X2_claimOf : Cond.selects yX2_claimOf.cls yX2_claimOf yX2_claimOf ∈ gtbl := mem_g (in_t3 (List.mem_of_getElem? (i := 110) (by decide +kernel))) (by decide +kernel)
abbrev mdX2_giversTo : Md := (yX2_giversTo, cX2_giversTo, 4, some .int)
theorem co_X2_giversTo : CalleeOk mdX2_giversTo 1 := ⟨by decide +kernel, by decide, mem_g (in_t3 (List.mem_of_getElem? (i := 123) rfl)) rfl, ini_RX2⟩
theorem im_X2_giversTo : Cond.instanceMethod yX2_giversTo ∈ gtbl := mem_g (in_t3 (List.mem_of_getElem? (i := 121) (by decide +kernel))) (by decide +kernel)
theorem se_X2_giversTo : Cond.selects yX2_giversTo.cls yX2_giversTo yX2_giversTo ∈ gtbl := mem_g (in_t3 (List.mem_of_getElem? (i := 122) (by decide +kernel))) (by decide +kernel)
abbrev mdX2_gives : Md := (yX2_gives, cX2_gives, 3, some .boolean)
theorem co_X2_gives : CalleeOk mdX2_gives 1 := ⟨by decide +kernel, by decide, mem_g (in_t3 (List.mem_of_getElem? (i := 96) rfl)) rfl, ini_RX2⟩
theorem im_X2_gives : Cond.instanceMethod yX2_gives ∈ gtbl := mem_g (in_t3 (List.mem_of_getElem? (i := 94) (by decide +kernel))) (by decide +kernel)
theorem se_X2_gives : Cond.selects yX2_gives.cls yX2_gives yX2_gives ∈ gtbl := mem_g (in_t3 (List.mem_of_getElem? (i := 95) (by decide +kernel))) (by decide +kernel)
abbrev mdX2_join : Md := (yX2_join, cX2_join, 2, none)
theorem co_X2_join : CalleeOk mdX2_join 1 := ⟨by decide +kernel, by decide, mem_g (in_t3 (List.mem_of_getElem? (i := 88) rfl)) rfl, ini_RX2⟩
theorem im_X2_join : Cond.instanceMethod yX2_join ∈ gtbl := mem_g (in_t3 (List.mem_of_getElem? (i := 86) (by decide +kernel))) (by decide +kernel)
theorem se_X2_join : Cond.selects yX2_join.cls yX2_join yX2_join ∈ gtbl := mem_g (in_t3 (List.mem_of_getElem? (i := 87) (by decide +kernel))) (by decide +kernel)
abbrev mdX2_lay : Md := (yX2_lay, cX2_lay, 3, none)
theorem co_X2_lay : CalleeOk mdX2_lay 1 := ⟨by decide +kernel, by decide, mem_g (in_t3 (List.mem_of_getElem? (i := 52) rfl)) rfl, ini_RX2⟩
theorem im_X2_lay : Cond.instanceMethod yX2_lay ∈ gtbl := mem_g (in_t3 (List.mem_of_getElem? (i := 50) (by decide +kernel))) (by decide +kernel)
theorem se_X2_lay : Cond.selects yX2_lay.cls yX2_lay yX2_lay ∈ gtbl := mem_g (in_t3 (List.mem_of_getElem? (i := 51) (by decide +kernel))) (by decide +kernel)
abbrev mdX2_leave : Md := (yX2_leave, cX2_leave, 2, none)
theorem co_X2_leave : CalleeOk mdX2_leave 1 := ⟨by decide +kernel, by decide, mem_g (in_t3 (List.mem_of_getElem? (i := 177) rfl)) rfl, ini_RX2⟩
theorem im_X2_leave : Cond.instanceMethod yX2_leave ∈ gtbl := mem_g (in_t3 (List.mem_of_getElem? (i := 175) (by decide +kernel))) (by decide +kernel)
theorem se_X2_leave : Cond.selects yX2_leave.cls yX2_leave yX2_leave ∈ gtbl := mem_g (in_t3 (List.mem_of_getElem? (i := 176) (by decide +kernel))) (by decide +kernel)
abbrev mdX2_load : Md := (yX2_load, cX2_load, 3, none)
theorem co_X2_load : CalleeOk mdX2_load 1 := ⟨by decide +kernel, by decide, mem_g (in_t3 (List.mem_of_getElem? (i := 83) rfl)) rfl, ini_RX2⟩
theorem im_X2_load : Cond.instanceMethod yX2_load ∈ gtbl := mem_g (in_t3 (List.mem_of_getElem? (i := 81) (by decide +kernel))) (by decide +kernel)
theorem se_X2_load : Cond.selects yX2_load.cls yX2_load yX2_load ∈ gtbl := mem_g (in_t3 (List.mem_of_getElem? (i := 82) (by decide +kernel))) (by decide +kernel)
abbrev mdX2_overlapOf : Md := (yX2_overlapOf, cX2_overlapOf, 5, some .int)
theorem co_X2_overlapOf : CalleeOk mdX2_overlapOf 2 := ⟨by decide +kernel, by decide, mem_g (in_t3 (List.mem_of_getElem? (i := 65) rfl)) rfl, ini_RX2⟩
theorem im_X2_overlapOf : Cond.instanceMethod yX2_overlapOf ∈ gtbl := mem_g (in_t3 (List.mem_of_getElem? (i := 63) (by decide +kernel))) (by decide +kernel)
theorem se_X2_overlapOf : Cond.selects yX2_overlapOf.cls yX2_overlapOf yX2_overlapOf ∈ gtbl := mem_g (in_t3 (List.mem_of_getElem? (i := 64) (by decide +kernel))) (by decide +kernel)
abbrev mdX2_rootOf : Md := (yX2_rootOf, cX2_rootOf, 4, some .int)
theorem co_X2_rootOf : CalleeOk mdX2_rootOf 1 := ⟨by decide +kernel, by decide, mem_g (in_t3 (List.mem_of_getElem? (i := 44) rfl)) rfl, ini_RX2⟩
theorem sm_X2_rootOf : Cond.static yX2_rootOf ∈ gtbl := mem_g (in_t3 (List.mem_of_getElem? (i := 43) (by decide +kernel))) (by decide +kernel)
abbrev mdX2_settle : Md := (yX2_settle, cX2_settle, 2, none)
theorem co_X2_settle : CalleeOk mdX2_settle 0 := ⟨by decide +kernel, by decide, mem_g (in_t3 (List.mem_of_getElem? (i := 107) rfl)) rfl, ini_RX2⟩
theorem im_X2_settle : Cond.instanceMethod yX2_settle ∈ gtbl := mem_g (in_t3 (List.mem_of_getElem? (i := 105) (by decide +kernel))) (by decide +kernel)
theorem se_X2_settle : Cond.selects yX2_settle.cls yX2_settle yX2_settle ∈ gtbl := mem_g (in_t3 (List.mem_of_getElem? (i := 106) (by decide +kernel))) (by decide +kernel)
abbrev mdX2_share : Md := (yX2_share, cX2_share, 4, none)
theorem co_X2_share : CalleeOk mdX2_share 1 := ⟨by decide +kernel, by decide, mem_g (in_t3 (List.mem_of_getElem? (i := 119) rfl)) rfl, ini_RX2⟩
theorem im_X2_share : Cond.instanceMethod yX2_share ∈ gtbl := mem_g (in_t3 (List.mem_of_getElem? (i := 117) (by decide +kernel))) (by decide +kernel)
theorem se_X2_share : Cond.selects yX2_share.cls yX2_share yX2_share ∈ gtbl := mem_g (in_t3 (List.mem_of_getElem? (i := 118) (by decide +kernel))) (by decide +kernel)
abbrev mdX2_sumFrom : Md := (yX2_sumFrom, cX2_sumFrom, 3, some .int)
theorem co_X2_sumFrom : CalleeOk mdX2_sumFrom 2 := ⟨by decide +kernel, by decide, mem_g (in_t3 (List.mem_of_getElem? (i := 57) rfl)) rfl, ini_RX2⟩
theorem im_X2_sumFrom : Cond.instanceMethod yX2_sumFrom ∈ gtbl := mem_g (in_t3 (List.mem_of_getElem? (i := 55) (by decide +kernel))) (by decide +kernel)
theorem se_X2_sumFrom : Cond.selects yX2_sumFrom.cls yX2_sumFrom yX2_sumFrom ∈ gtbl := mem_g (in_t3 (List.mem_of_getElem? (i := 56) (by decide +kernel))) (by decide +kernel)
abbrev mdX2_termOf : Md := (yX2_termOf, cX2_termOf, 8, some .int)
theorem co_X2_termOf : CalleeOk mdX2_termOf 4 := ⟨by decide +kernel, by decide, mem_g (in_t3 (List.mem_of_getElem? (i := 73) rfl)) rfl, ini_RX2⟩
theorem im_X2_termOf : Cond.instanceMethod yX2_termOf ∈ gtbl := mem_g (in_t3 (List.mem_of_getElem? (i := 71) (by decide +kernel))) (by decide +kernel)
theorem se_X2_termOf : Cond.selects yX2_termOf.cls yX2_termOf yX2_termOf ∈ gtbl := mem_g (in_t3 (List.mem_of_getElem? (i := 72) (by decide +kernel))) (by decide +kernel)
abbrev mdX2_weigh : Md := (yX2_weigh, cX2_weigh, 5, none)
theorem co_X2_weigh : CalleeOk mdX2_weigh 2 := ⟨by decide +kernel, by decide, mem_g (in_t3 (List.mem_of_getElem? (i := 92) rfl)) rfl, ini_RX2⟩
theorem im_X2_weigh : Cond.instanceMethod yX2_weigh ∈ gtbl := mem_g (in_t3 (List.mem_of_getElem? (i := 91) (by decide +kernel))) (by decide +kernel)
theorem se_X2_weigh : Cond.selects yX2_weigh.cls yX2_weigh yX2_weigh ∈ gtbl := in_p1 (List.mem_of_getElem? (i := 12) (by decide +kernel) : (yX2_weigh, 15) ∈ lw_privs_1)
abbrev mdX2_weighPair : Md := (yX2_weighPair, cX2_weighPair, 6, none)
theorem co_X2_weighPair : CalleeOk mdX2_weighPair 3 := ⟨by decide +kernel, by decide, mem_g (in_t3 (List.mem_of_getElem? (i := 101) rfl)) rfl, ini_RX2⟩
theorem im_X2_weighPair : Cond.instanceMethod yX2_weighPair ∈ gtbl := mem_g (in_t3 (List.mem_of_getElem? (i := 100) (by decide +kernel))) (by decide +kernel)
theorem se_X2_weighPair : Cond.selects yX2_weighPair.cls yX2_weighPair yX2_weighPair ∈ gtbl := in_p1 (List.mem_of_getElem? (i := 13) (by decide +kernel) : (yX2_weighPair, 15) ∈ lw_privs_1)
abbrev mdX3_bestHalves : Md := (yX3_bestHalves, cX3_bestHalves, 11, some .int)
theorem co_X3_bestHalves : CalleeOk mdX3_bestHalves 5 := ⟨by decide +kernel, by decide, mem_g (in_t3 (List.mem_of_getElem? (i := 196) rfl)) rfl, ini_RX3⟩
theorem im_X3_bestHalves : Cond.instanceMethod yX3_bestHalves ∈ gtbl := mem_g (in_t3 (List.mem_of_getElem? (i := 194) (by decide +kernel))) (by decide +kernel)
theorem se_X3_bestHalves : Cond.selects yX3_bestHalves.cls yX3_bestHalves yX3_bestHalves ∈ gtbl := mem_g (in_t3 (List.mem_of_getElem? (i := 195) (by decide +kernel))) (by decide +kernel)
abbrev mdX3_bestTarget : Md := (yX3_bestTarget, cX3_bestTarget, 9, some .int)
theorem co_X3_bestTarget : CalleeOk mdX3_bestTarget 3 := ⟨by decide +kernel, by decide, mem_g (in_t3 (List.mem_of_getElem? (i := 153) rfl)) rfl, ini_RX3⟩
theorem im_X3_bestTarget : Cond.instanceMethod yX3_bestTarget ∈ gtbl := mem_g (in_t3 (List.mem_of_getElem? (i := 151) (by decide +kernel))) (by decide +kernel)
theorem se_X3_bestTarget : Cond.selects yX3_bestTarget.cls yX3_bestTarget yX3_bestTarget ∈ gtbl := mem_g (in_t3 (List.mem_of_getElem? (i := 152) (by decide +kernel))) (by decide +kernel)
abbrev mdX3_casesPaid : Md := (yX3_casesPaid, cX3_casesPaid, 7, some .long)
theorem co_X3_casesPaid : CalleeOk mdX3_casesPaid 4 := ⟨by decide +kernel, by decide, mem_g (in_t4 (List.mem_of_getElem? (i := 24) rfl)) rfl, ini_RX3⟩
theorem im_X3_casesPaid : Cond.instanceMethod yX3_casesPaid ∈ gtbl := mem_g (in_t4 (List.mem_of_getElem? (i := 23) (by decide +kernel))) (by decide +kernel)
theorem se_X3_casesPaid : Cond.selects yX3_casesPaid.cls yX3_casesPaid yX3_casesPaid ∈ gtbl := in_p2 (List.mem_of_getElem? (i := 1) (by decide +kernel) : (yX3_casesPaid, 5) ∈ lw_privs_2)
abbrev mdX3_chance : Md := (yX3_chance, cX3_chance, 11, some .long)
theorem co_X3_chance : CalleeOk mdX3_chance 4 := ⟨by decide +kernel, by decide, mem_g (in_t4 (List.mem_of_getElem? (i := 20) rfl)) rfl, ini_RX3⟩
theorem im_X3_chance : Cond.instanceMethod yX3_chance ∈ gtbl := mem_g (in_t4 (List.mem_of_getElem? (i := 18) (by decide +kernel))) (by decide +kernel)
theorem se_X3_chance : Cond.selects yX3_chance.cls yX3_chance yX3_chance ∈ gtbl := mem_g (in_t4 (List.mem_of_getElem? (i := 19) (by decide +kernel))) (by decide +kernel)
abbrev mdX3_expect : Md := (yX3_expect, cX3_expect, 5, none)
theorem co_X3_expect : CalleeOk mdX3_expect 3 := ⟨by decide +kernel, by decide, mem_g (in_t3 (List.mem_of_getElem? (i := 230) rfl)) rfl, ini_RX3⟩
theorem im_X3_expect : Cond.instanceMethod yX3_expect ∈ gtbl := mem_g (in_t3 (List.mem_of_getElem? (i := 228) (by decide +kernel))) (by decide +kernel)
theorem se_X3_expect : Cond.selects yX3_expect.cls yX3_expect yX3_expect ∈ gtbl := mem_g (in_t3 (List.mem_of_getElem? (i := 229) (by decide +kernel))) (by decide +kernel)
abbrev mdX3_fittingCoins : Md := (yX3_fittingCoins, cX3_fittingCoins, 7, some .int)
theorem co_X3_fittingCoins : CalleeOk mdX3_fittingCoins 2 := ⟨by decide +kernel, by decide, mem_g (in_t4 (List.mem_of_getElem? (i := 11) rfl)) rfl, ini_RX3⟩
theorem im_X3_fittingCoins : Cond.instanceMethod yX3_fittingCoins ∈ gtbl := mem_g (in_t4 (List.mem_of_getElem? (i := 9) (by decide +kernel))) (by decide +kernel)
theorem se_X3_fittingCoins : Cond.selects yX3_fittingCoins.cls yX3_fittingCoins yX3_fittingCoins ∈ gtbl := mem_g (in_t4 (List.mem_of_getElem? (i := 10) (by decide +kernel))) (by decide +kernel)
abbrev mdX3_fittingKinds : Md := (yX3_fittingKinds, cX3_fittingKinds, 4, some .int)
theorem co_X3_fittingKinds : CalleeOk mdX3_fittingKinds 1 := ⟨by decide +kernel, by decide, mem_g (in_t4 (List.mem_of_getElem? (i := 7) rfl)) rfl, ini_RX3⟩
theorem im_X3_fittingKinds : Cond.instanceMethod yX3_fittingKinds ∈ gtbl := mem_g (in_t4 (List.mem_of_getElem? (i := 5) (by decide +kernel))) (by decide +kernel)
theorem se_X3_fittingKinds : Cond.selects yX3_fittingKinds.cls yX3_fittingKinds yX3_fittingKinds ∈ gtbl := mem_g (in_t4 (List.mem_of_getElem? (i := 6) (by decide +kernel))) (by decide +kernel)
abbrev mdX3_fittingPots : Md := (yX3_fittingPots, cX3_fittingPots, 4, some .int)
theorem co_X3_fittingPots : CalleeOk mdX3_fittingPots 1 := ⟨by decide +kernel, by decide, mem_g (in_t3 (List.mem_of_getElem? (i := 238) rfl)) rfl, ini_RX3⟩
theorem im_X3_fittingPots : Cond.instanceMethod yX3_fittingPots ∈ gtbl := mem_g (in_t3 (List.mem_of_getElem? (i := 236) (by decide +kernel))) (by decide +kernel)
theorem se_X3_fittingPots : Cond.selects yX3_fittingPots.cls yX3_fittingPots yX3_fittingPots ∈ gtbl := mem_g (in_t3 (List.mem_of_getElem? (i := 237) (by decide +kernel))) (by decide +kernel)
abbrev mdX3_greatestCommon : Md := (yX3_greatestCommon, cX3_greatestCommon, 11, some .long)
theorem co_X3_greatestCommon : CalleeOk mdX3_greatestCommon 2 := ⟨by decide +kernel, by decide, mem_g (in_t4 (List.mem_of_getElem? (i := 28) rfl)) rfl, ini_RX3⟩
theorem sm_X3_greatestCommon : Cond.static yX3_greatestCommon ∈ gtbl := mem_g (in_t4 (List.mem_of_getElem? (i := 27) (by decide +kernel))) (by decide +kernel)
abbrev mdX3_isAsExpected : Md := (yX3_isAsExpected, cX3_isAsExpected, 2, some .boolean)
theorem co_X3_isAsExpected : CalleeOk mdX3_isAsExpected 0 := ⟨by decide +kernel, by decide, mem_g (in_t4 (List.mem_of_getElem? (i := 3) rfl)) rfl, ini_RX3⟩
theorem im_X3_isAsExpected : Cond.instanceMethod yX3_isAsExpected ∈ gtbl := mem_g (in_t4 (List.mem_of_getElem? (i := 2) (by decide +kernel))) (by decide +kernel)
theorem se_X3_isAsExpected : Cond.selects yX3_isAsExpected.cls yX3_isAsExpected yX3_isAsExpected ∈ gtbl := in_p2 (List.mem_of_getElem? (i := 0) (by decide +kernel) : (yX3_isAsExpected, 5) ∈ lw_privs_2)
abbrev mdX3_leastCoins : Md := (yX3_leastCoins, cX3_leastCoins, 6, some .int)
theorem co_X3_leastCoins : CalleeOk mdX3_leastCoins 3 := ⟨by decide +kernel, by decide, mem_g (in_t3 (List.mem_of_getElem? (i := 162) rfl)) rfl, ini_RX3⟩
theorem im_X3_leastCoins : Cond.instanceMethod yX3_leastCoins ∈ gtbl := mem_g (in_t3 (List.mem_of_getElem? (i := 160) (by decide +kernel))) (by decide +kernel)
theorem se_X3_leastCoins : Cond.selects yX3_leastCoins.cls yX3_leastCoins yX3_leastCoins ∈ gtbl := mem_g (in_t3 (List.mem_of_getElem? (i := 161) (by decide +kernel))) (by decide +kernel)
abbrev mdX3_likestRing : Md := (yX3_likestRing, cX3_likestRing, 8, some .int)
theorem co_X3_likestRing : CalleeOk mdX3_likestRing 1 := ⟨by decide +kernel, by decide, mem_g (in_t3 (List.mem_of_getElem? (i := 186) rfl)) rfl, ini_RX3⟩
theorem im_X3_likestRing : Cond.instanceMethod yX3_likestRing ∈ gtbl := mem_g (in_t3 (List.mem_of_getElem? (i := 184) (by decide +kernel))) (by decide +kernel)
theorem se_X3_likestRing : Cond.selects yX3_likestRing.cls yX3_likestRing yX3_likestRing ∈ gtbl := mem_g (in_t3 (List.mem_of_getElem? (i := 185) (by decide +kernel))) (by decide +kernel)
abbrev mdX3_mostMissed : Md := (yX3_mostMissed, cX3_mostMissed, 6, some .int)
theorem co_X3_mostMissed : CalleeOk mdX3_mostMissed 2 := ⟨by decide +kernel, by decide, mem_g (in_t3 (List.mem_of_getElem? (i := 172) rfl)) rfl, ini_RX3⟩
theorem im_X3_mostMissed : Cond.instanceMethod yX3_mostMissed ∈ gtbl := mem_g (in_t3 (List.mem_of_getElem? (i := 170) (by decide +kernel))) (by decide +kernel)
theorem se_X3_mostMissed : Cond.selects yX3_mostMissed.cls yX3_mostMissed yX3_mostMissed ∈ gtbl := mem_g (in_t3 (List.mem_of_getElem? (i := 171) (by decide +kernel))) (by decide +kernel)
abbrev mdX3_outcomeOfTurns : Md := (yX3_outcomeOfTurns, cX3_outcomeOfTurns, 5, some .int)
theorem co_X3_outcomeOfTurns : CalleeOk mdX3_outcomeOfTurns 4 := ⟨by decide +kernel, by decide, mem_g (in_t3 (List.mem_of_getElem? (i := 216) rfl)) rfl, ini_RX3⟩
theorem im_X3_outcomeOfTurns : Cond.instanceMethod yX3_outcomeOfTurns ∈ gtbl := mem_g (in_t3 (List.mem_of_getElem? (i := 214) (by decide +kernel))) (by decide +kernel)
theorem se_X3_outcomeOfTurns : Cond.selects yX3_outcomeOfTurns.cls yX3_outcomeOfTurns yX3_outcomeOfTurns ∈ gtbl := mem_g (in_t3 (List.mem_of_getElem? (i := 215) (by decide +kernel))) (by decide +kernel)
abbrev mdX3_paidTogether : Md := (yX3_paidTogether, cX3_paidTogether, 4, some .int)
theorem co_X3_paidTogether : CalleeOk mdX3_paidTogether 1 := ⟨by decide +kernel, by decide, mem_g (in_t3 (List.mem_of_getElem? (i := 208) rfl)) rfl, ini_RX3⟩
theorem im_X3_paidTogether : Cond.instanceMethod yX3_paidTogether ∈ gtbl := mem_g (in_t3 (List.mem_of_getElem? (i := 207) (by decide +kernel))) (by decide +kernel)
theorem se_X3_paidTogether : Cond.selects yX3_paidTogether.cls yX3_paidTogether yX3_paidTogether ∈ gtbl := in_p1 (List.mem_of_getElem? (i := 14) (by decide +kernel) : (yX3_paidTogether, 5) ∈ lw_privs_1)
abbrev mdX3_paidWith : Md := (yX3_paidWith, cX3_paidWith, 5, some .int)
theorem co_X3_paidWith : CalleeOk mdX3_paidWith 4 := ⟨by decide +kernel, by decide, mem_g (in_t3 (List.mem_of_getElem? (i := 139) rfl)) rfl, ini_RX3⟩
theorem im_X3_paidWith : Cond.instanceMethod yX3_paidWith ∈ gtbl := mem_g (in_t3 (List.mem_of_getElem? (i := 137) (by decide +kernel))) (by decide +kernel)
theorem se_X3_paidWith : Cond.selects yX3_paidWith.cls yX3_paidWith yX3_paidWith ∈ gtbl := mem_g (in_t3 (List.mem_of_getElem? (i := 138) (by decide +kernel))) (by decide +kernel)
abbrev mdX3_redraw : Md := (yX3_redraw, cX3_redraw, 4, none)
theorem co_X3_redraw : CalleeOk mdX3_redraw 1 := ⟨by decide +kernel, by decide, mem_g (in_t4 (List.mem_of_getElem? (i := 45) rfl)) rfl, ini_RX3⟩
theorem im_X3_redraw : Cond.instanceMethod yX3_redraw ∈ gtbl := mem_g (in_t4 (List.mem_of_getElem? (i := 44) (by decide +kernel))) (by decide +kernel)
theorem se_X3_redraw : Cond.selects yX3_redraw.cls yX3_redraw yX3_redraw ∈ gtbl := in_p2 (List.mem_of_getElem? (i := 2) (by decide +kernel) : (yX3_redraw, 5) ∈ lw_privs_2)
abbrev mdX3_setsPaid : Md := (yX3_setsPaid, cX3_setsPaid, 7, some .int)
theorem co_X3_setsPaid : CalleeOk mdX3_setsPaid 2 := ⟨by decide +kernel, by decide, mem_g (in_t3 (List.mem_of_getElem? (i := 204) rfl)) rfl, ini_RX3⟩
theorem im_X3_setsPaid : Cond.instanceMethod yX3_setsPaid ∈ gtbl := mem_g (in_t3 (List.mem_of_getElem? (i := 202) (by decide +kernel))) (by decide +kernel)
theorem se_X3_setsPaid : Cond.selects yX3_setsPaid.cls yX3_setsPaid yX3_setsPaid ∈ gtbl := mem_g (in_t3 (List.mem_of_getElem? (i := 203) (by decide +kernel))) (by decide +kernel)
abbrev mdX3_turnsFrom : Md := (yX3_turnsFrom, cX3_turnsFrom, 10, some .int)
theorem co_X3_turnsFrom : CalleeOk mdX3_turnsFrom 5 := ⟨by decide +kernel, by decide, mem_g (in_t3 (List.mem_of_getElem? (i := 220) rfl)) rfl, ini_RX3⟩
theorem im_X3_turnsFrom : Cond.instanceMethod yX3_turnsFrom ∈ gtbl := mem_g (in_t3 (List.mem_of_getElem? (i := 219) (by decide +kernel))) (by decide +kernel)
theorem se_X3_turnsFrom : Cond.selects yX3_turnsFrom.cls yX3_turnsFrom yX3_turnsFrom ∈ gtbl := in_p1 (List.mem_of_getElem? (i := 15) (by decide +kernel) : (yX3_turnsFrom, 5) ∈ lw_privs_1)
abbrev mdX3_years : Md := (yX3_years, cX3_years, 8, some .int)
theorem co_X3_years : CalleeOk mdX3_years 3 := ⟨by decide +kernel, by decide, mem_g (in_t4 (List.mem_of_getElem? (i := 38) rfl)) rfl, ini_RX3⟩
theorem im_X3_years : Cond.instanceMethod yX3_years ∈ gtbl := mem_g (in_t4 (List.mem_of_getElem? (i := 36) (by decide +kernel))) (by decide +kernel)
theorem se_X3_years : Cond.selects yX3_years.cls yX3_years yX3_years ∈ gtbl := mem_g (in_t4 (List.mem_of_getElem? (i := 37) (by decide +kernel))) (by decide +kernel)
abbrev mdX4_allCoins : Md := (yX4_allCoins, cX4_allCoins, 3, some .int)
theorem co_X4_allCoins : CalleeOk mdX4_allCoins 0 := ⟨by decide +kernel, by decide, mem_g (in_t4 (List.mem_of_getElem? (i := 126) rfl)) rfl, ini_RX4⟩
theorem im_X4_allCoins : Cond.instanceMethod yX4_allCoins ∈ gtbl := mem_g (in_t4 (List.mem_of_getElem? (i := 124) (by decide +kernel))) (by decide +kernel)
theorem se_X4_allCoins : Cond.selects yX4_allCoins.cls yX4_allCoins yX4_allCoins ∈ gtbl := mem_g (in_t4 (List.mem_of_getElem? (i := 125) (by decide +kernel))) (by decide +kernel)
abbrev mdX4_becomeLike : Md := (yX4_becomeLike, cX4_becomeLike, 2, none)
theorem co_X4_becomeLike : CalleeOk mdX4_becomeLike 1 := ⟨by decide +kernel, by decide, mem_g (in_t2 (List.mem_of_getElem? (i := 194) rfl)) rfl, ini_RX4⟩
theorem im_X4_becomeLike : Cond.instanceMethod yX4_becomeLike ∈ gtbl := mem_g (in_t2 (List.mem_of_getElem? (i := 192) (by decide +kernel))) (by decide +kernel)
theorem se_X4_becomeLike : Cond.selects yX4_becomeLike.cls yX4_becomeLike yX4_becomeLike ∈ gtbl := mem_g (in_t2 (List.mem_of_getElem? (i := 193) (by decide +kernel))) (by decide +kernel)
abbrev mdX4_beginAnew : Md := (yX4_beginAnew, cX4_beginAnew, 2, none)
theorem co_X4_beginAnew : CalleeOk mdX4_beginAnew 0 := ⟨by decide +kernel, by decide, mem_g (in_t2 (List.mem_of_getElem? (i := 146) rfl)) rfl, ini_RX4⟩
theorem im_X4_beginAnew : Cond.instanceMethod yX4_beginAnew ∈ gtbl := mem_g (in_t2 (List.mem_of_getElem? (i := 144) (by decide +kernel))) (by decide +kernel)
theorem se_X4_beginAnew : Cond.selects yX4_beginAnew.cls yX4_beginAnew yX4_beginAnew ∈ gtbl := mem_g (in_t2 (List.mem_of_getElem? (i := 145) (by decide +kernel))) (by decide +kernel)
abbrev mdX4_giversNamed : Md := (yX4_giversNamed, cX4_giversNamed, 4, some .int)
theorem co_X4_giversNamed : CalleeOk mdX4_giversNamed 1 := ⟨by decide +kernel, by decide, mem_g (in_t3 (List.mem_of_getElem? (i := 28) rfl)) rfl, ini_RX4⟩
theorem im_X4_giversNamed : Cond.instanceMethod yX4_giversNamed ∈ gtbl := mem_g (in_t3 (List.mem_of_getElem? (i := 26) (by decide +kernel))) (by decide +kernel)
theorem se_X4_giversNamed : Cond.selects yX4_giversNamed.cls yX4_giversNamed yX4_giversNamed ∈ gtbl := mem_g (in_t3 (List.mem_of_getElem? (i := 27) (by decide +kernel))) (by decide +kernel)
abbrev mdX4_putGift : Md := (yX4_putGift, cX4_putGift, 6, none)
theorem co_X4_putGift : CalleeOk mdX4_putGift 4 := ⟨by decide +kernel, by decide, mem_g (in_t2 (List.mem_of_getElem? (i := 189) rfl)) rfl, ini_RX4⟩
theorem im_X4_putGift : Cond.instanceMethod yX4_putGift ∈ gtbl := mem_g (in_t2 (List.mem_of_getElem? (i := 187) (by decide +kernel))) (by decide +kernel)
theorem se_X4_putGift : Cond.selects yX4_putGift.cls yX4_putGift yX4_putGift ∈ gtbl := mem_g (in_t2 (List.mem_of_getElem? (i := 188) (by decide +kernel))) (by decide +kernel)
abbrev mdX4_rename : Md := (yX4_rename, cX4_rename, 4, none)
theorem co_X4_rename : CalleeOk mdX4_rename 2 := ⟨by decide +kernel, by decide, mem_g (in_t2 (List.mem_of_getElem? (i := 221) rfl)) rfl, ini_RX4⟩
theorem im_X4_rename : Cond.instanceMethod yX4_rename ∈ gtbl := mem_g (in_t2 (List.mem_of_getElem? (i := 219) (by decide +kernel))) (by decide +kernel)
theorem se_X4_rename : Cond.selects yX4_rename.cls yX4_rename yX4_rename ∈ gtbl := mem_g (in_t2 (List.mem_of_getElem? (i := 220) (by decide +kernel))) (by decide +kernel)
abbrev mdX4_takeGift : Md := (yX4_takeGift, cX4_takeGift, 3, none)
theorem co_X4_takeGift : CalleeOk mdX4_takeGift 1 := ⟨by decide +kernel, by decide, mem_g (in_t2 (List.mem_of_getElem? (i := 216) rfl)) rfl, ini_RX4⟩
theorem im_X4_takeGift : Cond.instanceMethod yX4_takeGift ∈ gtbl := mem_g (in_t2 (List.mem_of_getElem? (i := 214) (by decide +kernel))) (by decide +kernel)
theorem se_X4_takeGift : Cond.selects yX4_takeGift.cls yX4_takeGift yX4_takeGift ∈ gtbl := mem_g (in_t2 (List.mem_of_getElem? (i := 215) (by decide +kernel))) (by decide +kernel)
abbrev mdX5_hasPlaces : Md := (yX5_hasPlaces, cX5_hasPlaces, 4, some .boolean)
theorem co_X5_hasPlaces : CalleeOk mdX5_hasPlaces 3 := ⟨by decide +kernel, by decide, mem_g (in_t2 (List.mem_of_getElem? (i := 102) rfl)) rfl, ini_RX5⟩
theorem im_X5_hasPlaces : Cond.instanceMethod yX5_hasPlaces ∈ gtbl := mem_g (in_t2 (List.mem_of_getElem? (i := 100) (by decide +kernel))) (by decide +kernel)
theorem se_X5_hasPlaces : Cond.selects yX5_hasPlaces.cls yX5_hasPlaces yX5_hasPlaces ∈ gtbl := mem_g (in_t2 (List.mem_of_getElem? (i := 101) (by decide +kernel))) (by decide +kernel)
abbrev mdX5_howMany : Md := (yX5_howMany, cX5_howMany, 3, some .int)
theorem co_X5_howMany : CalleeOk mdX5_howMany 0 := ⟨by decide +kernel, by decide, mem_g (in_t4 (List.mem_of_getElem? (i := 121) rfl)) rfl, ini_RX5⟩
theorem im_X5_howMany : Cond.instanceMethod yX5_howMany ∈ gtbl := mem_g (in_t4 (List.mem_of_getElem? (i := 119) (by decide +kernel))) (by decide +kernel)
theorem se_X5_howMany : Cond.selects yX5_howMany.cls yX5_howMany yX5_howMany ∈ gtbl := mem_g (in_t4 (List.mem_of_getElem? (i := 120) (by decide +kernel))) (by decide +kernel)
abbrev mdX5_isMissing : Md := (yX5_isMissing, cX5_isMissing, 2, some .boolean)
theorem co_X5_isMissing : CalleeOk mdX5_isMissing 1 := ⟨by decide +kernel, by decide, mem_g (in_t2 (List.mem_of_getElem? (i := 98) rfl)) rfl, ini_RX5⟩
theorem im_X5_isMissing : Cond.instanceMethod yX5_isMissing ∈ gtbl := mem_g (in_t2 (List.mem_of_getElem? (i := 96) (by decide +kernel))) (by decide +kernel)
theorem se_X5_isMissing : Cond.selects yX5_isMissing.cls yX5_isMissing yX5_isMissing ∈ gtbl := mem_g (in_t2 (List.mem_of_getElem? (i := 97) (by decide +kernel))) (by decide +kernel)
abbrev mdX5_isRow : Md := (yX5_isRow, cX5_isRow, 1, some .boolean)
theorem co_X5_isRow : CalleeOk mdX5_isRow 1 := ⟨by decide +kernel, by decide, mem_g (in_t2 (List.mem_of_getElem? (i := 73) rfl)) rfl, ini_RX5⟩
theorem sm_X5_isRow : Cond.static yX5_isRow ∈ gtbl := mem_g (in_t2 (List.mem_of_getElem? (i := 72) (by decide +kernel))) (by decide +kernel)
abbrev mdX5_itemAt : Md := (yX5_itemAt, cX5_itemAt, 3, some .int)
theorem co_X5_itemAt : CalleeOk mdX5_itemAt 2 := ⟨by decide +kernel, by decide, mem_g (in_t3 (List.mem_of_getElem? (i := 234) rfl)) rfl, ini_RX5⟩
theorem im_X5_itemAt : Cond.instanceMethod yX5_itemAt ∈ gtbl := mem_g (in_t3 (List.mem_of_getElem? (i := 232) (by decide +kernel))) (by decide +kernel)
theorem se_X5_itemAt : Cond.selects yX5_itemAt.cls yX5_itemAt yX5_itemAt ∈ gtbl := mem_g (in_t3 (List.mem_of_getElem? (i := 233) (by decide +kernel))) (by decide +kernel)
abbrev mdX5_lay : Md := (yX5_lay, cX5_lay, 5, none)
theorem co_X5_lay : CalleeOk mdX5_lay 3 := ⟨by decide +kernel, by decide, mem_g (in_t2 (List.mem_of_getElem? (i := 86) rfl)) rfl, ini_RX5⟩
theorem im_X5_lay : Cond.instanceMethod yX5_lay ∈ gtbl := mem_g (in_t2 (List.mem_of_getElem? (i := 84) (by decide +kernel))) (by decide +kernel)
theorem se_X5_lay : Cond.selects yX5_lay.cls yX5_lay yX5_lay ∈ gtbl := mem_g (in_t2 (List.mem_of_getElem? (i := 85) (by decide +kernel))) (by decide +kernel)
abbrev mdX5_lose : Md := (yX5_lose, cX5_lose, 2, some .int)
theorem co_X5_lose : CalleeOk mdX5_lose 1 := ⟨by decide +kernel, by decide, mem_g (in_t2 (List.mem_of_getElem? (i := 125) rfl)) rfl, ini_RX5⟩
theorem im_X5_lose : Cond.instanceMethod yX5_lose ∈ gtbl := mem_g (in_t2 (List.mem_of_getElem? (i := 123) (by decide +kernel))) (by decide +kernel)
theorem se_X5_lose : Cond.selects yX5_lose.cls yX5_lose yX5_lose ∈ gtbl := mem_g (in_t2 (List.mem_of_getElem? (i := 124) (by decide +kernel))) (by decide +kernel)
abbrev mdX5_move : Md := (yX5_move, cX5_move, 6, none)
theorem co_X5_move : CalleeOk mdX5_move 5 := ⟨by decide +kernel, by decide, mem_g (in_t2 (List.mem_of_getElem? (i := 114) rfl)) rfl, ini_RX5⟩
theorem im_X5_move : Cond.instanceMethod yX5_move ∈ gtbl := mem_g (in_t2 (List.mem_of_getElem? (i := 112) (by decide +kernel))) (by decide +kernel)
theorem se_X5_move : Cond.selects yX5_move.cls yX5_move yX5_move ∈ gtbl := mem_g (in_t2 (List.mem_of_getElem? (i := 113) (by decide +kernel))) (by decide +kernel)
abbrev mdX5_store : Md := (yX5_store, cX5_store, 5, some .int)
theorem co_X5_store : CalleeOk mdX5_store 3 := ⟨by decide +kernel, by decide, mem_g (in_t2 (List.mem_of_getElem? (i := 106) rfl)) rfl, ini_RX5⟩
theorem im_X5_store : Cond.instanceMethod yX5_store ∈ gtbl := mem_g (in_t2 (List.mem_of_getElem? (i := 104) (by decide +kernel))) (by decide +kernel)
theorem se_X5_store : Cond.selects yX5_store.cls yX5_store yX5_store ∈ gtbl := mem_g (in_t2 (List.mem_of_getElem? (i := 105) (by decide +kernel))) (by decide +kernel)
abbrev mdX6_append : Md := (yX6_append, cX6_append, 2, some .boolean)
theorem co_X6_append : CalleeOk mdX6_append 1 := ⟨by decide +kernel, by decide, mem_g (in_t2 (List.mem_of_getElem? (i := 133) rfl)) rfl, ini_RX6⟩
theorem im_X6_append : Cond.instanceMethod yX6_append ∈ gtbl := mem_g (in_t2 (List.mem_of_getElem? (i := 131) (by decide +kernel))) (by decide +kernel)
theorem se_X6_append : Cond.selects yX6_append.cls yX6_append yX6_append ∈ gtbl := mem_g (in_t2 (List.mem_of_getElem? (i := 132) (by decide +kernel))) (by decide +kernel)
abbrev mdX6_byteHere : Md := (yX6_byteHere, cX6_byteHere, 1, some .int)
theorem co_X6_byteHere : CalleeOk mdX6_byteHere 0 := ⟨by decide +kernel, by decide, mem_g (in_t2 (List.mem_of_getElem? (i := 158) rfl)) rfl, ini_RX6⟩
theorem im_X6_byteHere : Cond.instanceMethod yX6_byteHere ∈ gtbl := mem_g (in_t2 (List.mem_of_getElem? (i := 157) (by decide +kernel))) (by decide +kernel)
theorem se_X6_byteHere : Cond.selects yX6_byteHere.cls yX6_byteHere yX6_byteHere ∈ gtbl := in_p1 (List.mem_of_getElem? (i := 4) (by decide +kernel) : (yX6_byteHere, 6) ∈ lw_privs_1)
abbrev mdX6_fails : Md := (yX6_fails, cX6_fails, 2, some .boolean)
theorem co_X6_fails : CalleeOk mdX6_fails 1 := ⟨by decide +kernel, by decide, mem_g (in_t2 (List.mem_of_getElem? (i := 162) rfl)) rfl, ini_RX6⟩
theorem im_X6_fails : Cond.instanceMethod yX6_fails ∈ gtbl := mem_g (in_t2 (List.mem_of_getElem? (i := 161) (by decide +kernel))) (by decide +kernel)
theorem se_X6_fails : Cond.selects yX6_fails.cls yX6_fails yX6_fails ∈ gtbl := in_p1 (List.mem_of_getElem? (i := 5) (by decide +kernel) : (yX6_fails, 6) ∈ lw_privs_1)
abbrev mdX6_isFigure : Md := (yX6_isFigure, cX6_isFigure, 1, some .boolean)
theorem co_X6_isFigure : CalleeOk mdX6_isFigure 1 := ⟨by decide +kernel, by decide, mem_g (in_t2 (List.mem_of_getElem? (i := 169) rfl)) rfl, ini_RX6⟩
theorem sm_X6_isFigure : Cond.static yX6_isFigure ∈ gtbl := mem_g (in_t2 (List.mem_of_getElem? (i := 168) (by decide +kernel))) (by decide +kernel)
abbrev mdX6_kindTold : Md := (yX6_kindTold, cX6_kindTold, 1, some .int)
theorem co_X6_kindTold : CalleeOk mdX6_kindTold 1 := ⟨by decide +kernel, by decide, mem_g (in_t2 (List.mem_of_getElem? (i := 177) rfl)) rfl, ini_RX6⟩
theorem sm_X6_kindTold : Cond.static yX6_kindTold ∈ gtbl := mem_g (in_t2 (List.mem_of_getElem? (i := 176) (by decide +kernel))) (by decide +kernel)
abbrev mdX6_readGift : Md := (yX6_readGift, cX6_readGift, 5, some .boolean)
theorem co_X6_readGift : CalleeOk mdX6_readGift 1 := ⟨by decide +kernel, by decide, mem_g (in_t2 (List.mem_of_getElem? (i := 185) rfl)) rfl, ini_RX6⟩
theorem im_X6_readGift : Cond.instanceMethod yX6_readGift ∈ gtbl := mem_g (in_t2 (List.mem_of_getElem? (i := 184) (by decide +kernel))) (by decide +kernel)
theorem se_X6_readGift : Cond.selects yX6_readGift.cls yX6_readGift yX6_readGift ∈ gtbl := in_p1 (List.mem_of_getElem? (i := 9) (by decide +kernel) : (yX6_readGift, 6) ∈ lw_privs_1)
abbrev mdX6_readGifts : Md := (yX6_readGifts, cX6_readGifts, 3, some .boolean)
theorem co_X6_readGifts : CalleeOk mdX6_readGifts 1 := ⟨by decide +kernel, by decide, mem_g (in_t2 (List.mem_of_getElem? (i := 181) rfl)) rfl, ini_RX6⟩
theorem im_X6_readGifts : Cond.instanceMethod yX6_readGifts ∈ gtbl := mem_g (in_t2 (List.mem_of_getElem? (i := 180) (by decide +kernel))) (by decide +kernel)
theorem se_X6_readGifts : Cond.selects yX6_readGifts.cls yX6_readGifts yX6_readGifts ∈ gtbl := in_p1 (List.mem_of_getElem? (i := 8) (by decide +kernel) : (yX6_readGifts, 6) ∈ lw_privs_1)
abbrev mdX6_readInto : Md := (yX6_readInto, cX6_readInto, 2, some .boolean)
theorem co_X6_readInto : CalleeOk mdX6_readInto 1 := ⟨by decide +kernel, by decide, mem_g (in_t2 (List.mem_of_getElem? (i := 142) rfl)) rfl, ini_RX6⟩
theorem im_X6_readInto : Cond.instanceMethod yX6_readInto ∈ gtbl := mem_g (in_t2 (List.mem_of_getElem? (i := 140) (by decide +kernel))) (by decide +kernel)
theorem se_X6_readInto : Cond.selects yX6_readInto.cls yX6_readInto yX6_readInto ∈ gtbl := mem_g (in_t2 (List.mem_of_getElem? (i := 141) (by decide +kernel))) (by decide +kernel)
abbrev mdX6_readLaw : Md := (yX6_readLaw, cX6_readLaw, 2, some .boolean)
theorem co_X6_readLaw : CalleeOk mdX6_readLaw 1 := ⟨by decide +kernel, by decide, mem_g (in_t2 (List.mem_of_getElem? (i := 150) rfl)) rfl, ini_RX6⟩
theorem im_X6_readLaw : Cond.instanceMethod yX6_readLaw ∈ gtbl := mem_g (in_t2 (List.mem_of_getElem? (i := 149) (by decide +kernel))) (by decide +kernel)
theorem se_X6_readLaw : Cond.selects yX6_readLaw.cls yX6_readLaw yX6_readLaw ∈ gtbl := in_p1 (List.mem_of_getElem? (i := 2) (by decide +kernel) : (yX6_readLaw, 6) ∈ lw_privs_1)
abbrev mdX6_readNumber : Md := (yX6_readNumber, cX6_readNumber, 6, some .boolean)
theorem co_X6_readNumber : CalleeOk mdX6_readNumber 2 := ⟨by decide +kernel, by decide, mem_g (in_t2 (List.mem_of_getElem? (i := 166) rfl)) rfl, ini_RX6⟩
theorem im_X6_readNumber : Cond.instanceMethod yX6_readNumber ∈ gtbl := mem_g (in_t2 (List.mem_of_getElem? (i := 165) (by decide +kernel))) (by decide +kernel)
theorem se_X6_readNumber : Cond.selects yX6_readNumber.cls yX6_readNumber yX6_readNumber ∈ gtbl := in_p1 (List.mem_of_getElem? (i := 6) (by decide +kernel) : (yX6_readNumber, 6) ∈ lw_privs_1)
abbrev mdX6_readProjects : Md := (yX6_readProjects, cX6_readProjects, 4, some .boolean)
theorem co_X6_readProjects : CalleeOk mdX6_readProjects 1 := ⟨by decide +kernel, by decide, mem_g (in_t2 (List.mem_of_getElem? (i := 174) rfl)) rfl, ini_RX6⟩
theorem im_X6_readProjects : Cond.instanceMethod yX6_readProjects ∈ gtbl := mem_g (in_t2 (List.mem_of_getElem? (i := 173) (by decide +kernel))) (by decide +kernel)
theorem se_X6_readProjects : Cond.selects yX6_readProjects.cls yX6_readProjects yX6_readProjects ∈ gtbl := in_p1 (List.mem_of_getElem? (i := 7) (by decide +kernel) : (yX6_readProjects, 6) ∈ lw_privs_1)
abbrev mdX6_readSign : Md := (yX6_readSign, cX6_readSign, 2, some .boolean)
theorem co_X6_readSign : CalleeOk mdX6_readSign 1 := ⟨by decide +kernel, by decide, mem_g (in_t2 (List.mem_of_getElem? (i := 154) rfl)) rfl, ini_RX6⟩
theorem im_X6_readSign : Cond.instanceMethod yX6_readSign ∈ gtbl := mem_g (in_t2 (List.mem_of_getElem? (i := 153) (by decide +kernel))) (by decide +kernel)
theorem se_X6_readSign : Cond.selects yX6_readSign.cls yX6_readSign yX6_readSign ∈ gtbl := in_p1 (List.mem_of_getElem? (i := 3) (by decide +kernel) : (yX6_readSign, 6) ∈ lw_privs_1)
abbrev mdX7_areTwoGivers : Md := (yX7_areTwoGivers, cX7_areTwoGivers, 2, some .boolean)
theorem co_X7_areTwoGivers : CalleeOk mdX7_areTwoGivers 2 := ⟨by decide +kernel, by decide, mem_g (in_t3 (List.mem_of_getElem? (i := 24) rfl)) rfl, ini_RX7⟩
theorem sm_X7_areTwoGivers : Cond.static yX7_areTwoGivers ∈ gtbl := mem_g (in_t3 (List.mem_of_getElem? (i := 23) (by decide +kernel))) (by decide +kernel)
abbrev mdX7_as : Md := (yX7_as, cX7_as, 3, some .int)
theorem co_X7_as : CalleeOk mdX7_as 2 := ⟨by decide +kernel, by decide, mem_g (in_t4 (List.mem_of_getElem? (i := 66) rfl)) rfl, ini_RX7⟩
theorem im_X7_as : Cond.instanceMethod yX7_as ∈ gtbl := mem_g (in_t4 (List.mem_of_getElem? (i := 64) (by decide +kernel))) (by decide +kernel)
theorem se_X7_as : Cond.selects yX7_as.cls yX7_as yX7_as ∈ gtbl := mem_g (in_t4 (List.mem_of_getElem? (i := 65) (by decide +kernel))) (by decide +kernel)
abbrev mdX7_ask : Md := (yX7_ask, cX7_ask, 3, some .int)
theorem co_X7_ask : CalleeOk mdX7_ask 2 := ⟨by decide +kernel, by decide, mem_g (in_t4 (List.mem_of_getElem? (i := 75) rfl)) rfl, ini_RX7⟩
theorem im_X7_ask : Cond.instanceMethod yX7_ask ∈ gtbl := mem_g (in_t4 (List.mem_of_getElem? (i := 73) (by decide +kernel))) (by decide +kernel)
theorem se_X7_ask : Cond.selects yX7_ask.cls yX7_ask yX7_ask ∈ gtbl := mem_g (in_t4 (List.mem_of_getElem? (i := 74) (by decide +kernel))) (by decide +kernel)
abbrev mdX7_back : Md := (yX7_back, cX7_back, 3, some .int)
theorem co_X7_back : CalleeOk mdX7_back 1 := ⟨by decide +kernel, by decide, mem_g (in_t3 (List.mem_of_getElem? (i := 4) rfl)) rfl, ini_RX7⟩
theorem im_X7_back : Cond.instanceMethod yX7_back ∈ gtbl := mem_g (in_t3 (List.mem_of_getElem? (i := 2) (by decide +kernel))) (by decide +kernel)
theorem se_X7_back : Cond.selects yX7_back.cls yX7_back yX7_back ∈ gtbl := mem_g (in_t3 (List.mem_of_getElem? (i := 3) (by decide +kernel))) (by decide +kernel)
abbrev mdX7_become : Md := (yX7_become, cX7_become, 4, some .int)
theorem co_X7_become : CalleeOk mdX7_become 2 := ⟨by decide +kernel, by decide, mem_g (in_t3 (List.mem_of_getElem? (i := 17) rfl)) rfl, ini_RX7⟩
theorem im_X7_become : Cond.instanceMethod yX7_become ∈ gtbl := mem_g (in_t3 (List.mem_of_getElem? (i := 15) (by decide +kernel))) (by decide +kernel)
theorem se_X7_become : Cond.selects yX7_become.cls yX7_become yX7_become ∈ gtbl := mem_g (in_t3 (List.mem_of_getElem? (i := 16) (by decide +kernel))) (by decide +kernel)
abbrev mdX7_best : Md := (yX7_best, cX7_best, 4, some .int)
theorem co_X7_best : CalleeOk mdX7_best 3 := ⟨by decide +kernel, by decide, mem_g (in_t3 (List.mem_of_getElem? (i := 149) rfl)) rfl, ini_RX7⟩
theorem im_X7_best : Cond.instanceMethod yX7_best ∈ gtbl := mem_g (in_t3 (List.mem_of_getElem? (i := 147) (by decide +kernel))) (by decide +kernel)
theorem se_X7_best : Cond.selects yX7_best.cls yX7_best yX7_best ∈ gtbl := mem_g (in_t3 (List.mem_of_getElem? (i := 148) (by decide +kernel))) (by decide +kernel)
abbrev mdX7_byTurns : Md := (yX7_byTurns, cX7_byTurns, 5, some .int)
theorem co_X7_byTurns : CalleeOk mdX7_byTurns 4 := ⟨by decide +kernel, by decide, mem_g (in_t3 (List.mem_of_getElem? (i := 212) rfl)) rfl, ini_RX7⟩
theorem im_X7_byTurns : Cond.instanceMethod yX7_byTurns ∈ gtbl := mem_g (in_t3 (List.mem_of_getElem? (i := 210) (by decide +kernel))) (by decide +kernel)
theorem se_X7_byTurns : Cond.selects yX7_byTurns.cls yX7_byTurns yX7_byTurns ∈ gtbl := mem_g (in_t3 (List.mem_of_getElem? (i := 211) (by decide +kernel))) (by decide +kernel)
abbrev mdX7_copy : Md := (yX7_copy, cX7_copy, 6, some .int)
theorem co_X7_copy : CalleeOk mdX7_copy 5 := ⟨by decide +kernel, by decide, mem_g (in_t2 (List.mem_of_getElem? (i := 110) rfl)) rfl, ini_RX7⟩
theorem im_X7_copy : Cond.instanceMethod yX7_copy ∈ gtbl := mem_g (in_t2 (List.mem_of_getElem? (i := 108) (by decide +kernel))) (by decide +kernel)
theorem se_X7_copy : Cond.selects yX7_copy.cls yX7_copy yX7_copy ∈ gtbl := mem_g (in_t2 (List.mem_of_getElem? (i := 109) (by decide +kernel))) (by decide +kernel)
abbrev mdX7_count : Md := (yX7_count, cX7_count, 2, some .int)
theorem co_X7_count : CalleeOk mdX7_count 1 := ⟨by decide +kernel, by decide, mem_g (in_t4 (List.mem_of_getElem? (i := 117) rfl)) rfl, ini_RX7⟩
theorem im_X7_count : Cond.instanceMethod yX7_count ∈ gtbl := mem_g (in_t4 (List.mem_of_getElem? (i := 115) (by decide +kernel))) (by decide +kernel)
theorem se_X7_count : Cond.selects yX7_count.cls yX7_count yX7_count ∈ gtbl := mem_g (in_t4 (List.mem_of_getElem? (i := 116) (by decide +kernel))) (by decide +kernel)
abbrev mdX7_drawn : Md := (yX7_drawn, cX7_drawn, 4, some .int)
theorem co_X7_drawn : CalleeOk mdX7_drawn 3 := ⟨by decide +kernel, by decide, mem_g (in_t4 (List.mem_of_getElem? (i := 33) rfl)) rfl, ini_RX7⟩
theorem im_X7_drawn : Cond.instanceMethod yX7_drawn ∈ gtbl := mem_g (in_t4 (List.mem_of_getElem? (i := 31) (by decide +kernel))) (by decide +kernel)
theorem se_X7_drawn : Cond.selects yX7_drawn.cls yX7_drawn yX7_drawn ∈ gtbl := mem_g (in_t4 (List.mem_of_getElem? (i := 32) (by decide +kernel))) (by decide +kernel)
abbrev mdX7_drop : Md := (yX7_drop, cX7_drop, 2, some .int)
theorem co_X7_drop : CalleeOk mdX7_drop 1 := ⟨by decide +kernel, by decide, mem_g (in_t2 (List.mem_of_getElem? (i := 121) rfl)) rfl, ini_RX7⟩
theorem im_X7_drop : Cond.instanceMethod yX7_drop ∈ gtbl := mem_g (in_t2 (List.mem_of_getElem? (i := 119) (by decide +kernel))) (by decide +kernel)
theorem se_X7_drop : Cond.selects yX7_drop.cls yX7_drop yX7_drop ∈ gtbl := mem_g (in_t2 (List.mem_of_getElem? (i := 120) (by decide +kernel))) (by decide +kernel)
abbrev mdX7_fault : Md := (yX7_fault, cX7_fault, 1, some .int)
theorem co_X7_fault : CalleeOk mdX7_fault 0 := ⟨by decide +kernel, by decide, mem_g (in_t2 (List.mem_of_getElem? (i := 203) rfl)) rfl, ini_RX7⟩
theorem im_X7_fault : Cond.instanceMethod yX7_fault ∈ gtbl := mem_g (in_t2 (List.mem_of_getElem? (i := 201) (by decide +kernel))) (by decide +kernel)
theorem se_X7_fault : Cond.selects yX7_fault.cls yX7_fault yX7_fault ∈ gtbl := mem_g (in_t2 (List.mem_of_getElem? (i := 202) (by decide +kernel))) (by decide +kernel)
abbrev mdX7_feed : Md := (yX7_feed, cX7_feed, 2, some .int)
theorem co_X7_feed : CalleeOk mdX7_feed 1 := ⟨by decide +kernel, by decide, mem_g (in_t2 (List.mem_of_getElem? (i := 129) rfl)) rfl, ini_RX7⟩
theorem im_X7_feed : Cond.instanceMethod yX7_feed ∈ gtbl := mem_g (in_t2 (List.mem_of_getElem? (i := 127) (by decide +kernel))) (by decide +kernel)
theorem se_X7_feed : Cond.selects yX7_feed.cls yX7_feed yX7_feed ∈ gtbl := mem_g (in_t2 (List.mem_of_getElem? (i := 128) (by decide +kernel))) (by decide +kernel)
abbrev mdX7_found : Md := (yX7_found, cX7_found, 2, some .int)
theorem co_X7_found : CalleeOk mdX7_found 1 := ⟨by decide +kernel, by decide, mem_g (in_t2 (List.mem_of_getElem? (i := 81) rfl)) rfl, ini_RX7⟩
theorem im_X7_found : Cond.instanceMethod yX7_found ∈ gtbl := mem_g (in_t2 (List.mem_of_getElem? (i := 80) (by decide +kernel))) (by decide +kernel)
theorem se_X7_found : Cond.selects yX7_found.cls yX7_found yX7_found ∈ gtbl := in_p1 (List.mem_of_getElem? (i := 0) (by decide +kernel) : (yX7_found, 11) ∈ lw_privs_1)
abbrev mdX7_fund : Md := (yX7_fund, cX7_fund, 2, some .int)
theorem co_X7_fund : CalleeOk mdX7_fund 0 := ⟨by decide +kernel, by decide, mem_g (in_t2 (List.mem_of_getElem? (i := 138) rfl)) rfl, ini_RX7⟩
theorem im_X7_fund : Cond.instanceMethod yX7_fund ∈ gtbl := mem_g (in_t2 (List.mem_of_getElem? (i := 136) (by decide +kernel))) (by decide +kernel)
theorem se_X7_fund : Cond.selects yX7_fund.cls yX7_fund yX7_fund ∈ gtbl := mem_g (in_t2 (List.mem_of_getElem? (i := 137) (by decide +kernel))) (by decide +kernel)
abbrev mdX7_gift : Md := (yX7_gift, cX7_gift, 3, some .int)
theorem co_X7_gift : CalleeOk mdX7_gift 2 := ⟨by decide +kernel, by decide, mem_g (in_t3 (List.mem_of_getElem? (i := 33) rfl)) rfl, ini_RX7⟩
theorem im_X7_gift : Cond.instanceMethod yX7_gift ∈ gtbl := mem_g (in_t3 (List.mem_of_getElem? (i := 31) (by decide +kernel))) (by decide +kernel)
theorem se_X7_gift : Cond.selects yX7_gift.cls yX7_gift yX7_gift ∈ gtbl := mem_g (in_t3 (List.mem_of_getElem? (i := 32) (by decide +kernel))) (by decide +kernel)
abbrev mdX7_give : Md := (yX7_give, cX7_give, 4, some .int)
theorem co_X7_give : CalleeOk mdX7_give 3 := ⟨by decide +kernel, by decide, mem_g (in_t2 (List.mem_of_getElem? (i := 225) rfl)) rfl, ini_RX7⟩
theorem im_X7_give : Cond.instanceMethod yX7_give ∈ gtbl := mem_g (in_t2 (List.mem_of_getElem? (i := 223) (by decide +kernel))) (by decide +kernel)
theorem se_X7_give : Cond.selects yX7_give.cls yX7_give yX7_give ∈ gtbl := mem_g (in_t2 (List.mem_of_getElem? (i := 224) (by decide +kernel))) (by decide +kernel)
abbrev mdX7_halves : Md := (yX7_halves, cX7_halves, 6, some .int)
theorem co_X7_halves : CalleeOk mdX7_halves 5 := ⟨by decide +kernel, by decide, mem_g (in_t3 (List.mem_of_getElem? (i := 192) rfl)) rfl, ini_RX7⟩
theorem im_X7_halves : Cond.instanceMethod yX7_halves ∈ gtbl := mem_g (in_t3 (List.mem_of_getElem? (i := 190) (by decide +kernel))) (by decide +kernel)
theorem se_X7_halves : Cond.selects yX7_halves.cls yX7_halves yX7_halves ∈ gtbl := mem_g (in_t3 (List.mem_of_getElem? (i := 191) (by decide +kernel))) (by decide +kernel)
abbrev mdX7_image : Md := (yX7_image, cX7_image, 2, some .int)
theorem co_X7_image : CalleeOk mdX7_image 1 := ⟨by decide +kernel, by decide, mem_g (in_t4 (List.mem_of_getElem? (i := 54) rfl)) rfl, ini_RX7⟩
theorem im_X7_image : Cond.instanceMethod yX7_image ∈ gtbl := mem_g (in_t4 (List.mem_of_getElem? (i := 52) (by decide +kernel))) (by decide +kernel)
theorem se_X7_image : Cond.selects yX7_image.cls yX7_image yX7_image ∈ gtbl := mem_g (in_t4 (List.mem_of_getElem? (i := 53) (by decide +kernel))) (by decide +kernel)
abbrev mdX7_isGift : Md := (yX7_isGift, cX7_isGift, 2, some .boolean)
theorem co_X7_isGift : CalleeOk mdX7_isGift 1 := ⟨by decide +kernel, by decide, mem_g (in_t3 (List.mem_of_getElem? (i := 8) rfl)) rfl, ini_RX7⟩
theorem im_X7_isGift : Cond.instanceMethod yX7_isGift ∈ gtbl := mem_g (in_t3 (List.mem_of_getElem? (i := 7) (by decide +kernel))) (by decide +kernel)
theorem se_X7_isGift : Cond.selects yX7_isGift.cls yX7_isGift yX7_isGift ∈ gtbl := in_p1 (List.mem_of_getElem? (i := 11) (by decide +kernel) : (yX7_isGift, 11) ∈ lw_privs_1)
abbrev mdX7_isGiver : Md := (yX7_isGiver, cX7_isGiver, 1, some .boolean)
theorem co_X7_isGiver : CalleeOk mdX7_isGiver 1 := ⟨by decide +kernel, by decide, mem_g (in_t2 (List.mem_of_getElem? (i := 228) rfl)) rfl, ini_RX7⟩
theorem sm_X7_isGiver : Cond.static yX7_isGiver ∈ gtbl := mem_g (in_t2 (List.mem_of_getElem? (i := 227) (by decide +kernel))) (by decide +kernel)
abbrev mdX7_isOfKind : Md := (yX7_isOfKind, cX7_isOfKind, 4, some .boolean)
theorem co_X7_isOfKind : CalleeOk mdX7_isOfKind 2 := ⟨by decide +kernel, by decide, mem_g (in_t4 (List.mem_of_getElem? (i := 69) rfl)) rfl, ini_RX7⟩
theorem sm_X7_isOfKind : Cond.static yX7_isOfKind ∈ gtbl := mem_g (in_t4 (List.mem_of_getElem? (i := 68) (by decide +kernel))) (by decide +kernel)
abbrev mdX7_isProject : Md := (yX7_isProject, cX7_isProject, 2, some .boolean)
theorem co_X7_isProject : CalleeOk mdX7_isProject 1 := ⟨by decide +kernel, by decide, mem_g (in_t2 (List.mem_of_getElem? (i := 232) rfl)) rfl, ini_RX7⟩
theorem im_X7_isProject : Cond.instanceMethod yX7_isProject ∈ gtbl := mem_g (in_t2 (List.mem_of_getElem? (i := 231) (by decide +kernel))) (by decide +kernel)
theorem se_X7_isProject : Cond.selects yX7_isProject.cls yX7_isProject yX7_isProject ∈ gtbl := in_p1 (List.mem_of_getElem? (i := 10) (by decide +kernel) : (yX7_isProject, 11) ∈ lw_privs_1)
abbrev mdX7_kind : Md := (yX7_kind, cX7_kind, 2, some .int)
theorem co_X7_kind : CalleeOk mdX7_kind 1 := ⟨by decide +kernel, by decide, mem_g (in_t4 (List.mem_of_getElem? (i := 62) rfl)) rfl, ini_RX7⟩
theorem im_X7_kind : Cond.instanceMethod yX7_kind ∈ gtbl := mem_g (in_t4 (List.mem_of_getElem? (i := 60) (by decide +kernel))) (by decide +kernel)
theorem se_X7_kind : Cond.selects yX7_kind.cls yX7_kind yX7_kind ∈ gtbl := mem_g (in_t4 (List.mem_of_getElem? (i := 61) (by decide +kernel))) (by decide +kernel)
abbrev mdX7_least : Md := (yX7_least, cX7_least, 4, some .int)
theorem co_X7_least : CalleeOk mdX7_least 3 := ⟨by decide +kernel, by decide, mem_g (in_t3 (List.mem_of_getElem? (i := 158) rfl)) rfl, ini_RX7⟩
theorem im_X7_least : Cond.instanceMethod yX7_least ∈ gtbl := mem_g (in_t3 (List.mem_of_getElem? (i := 156) (by decide +kernel))) (by decide +kernel)
theorem se_X7_least : Cond.selects yX7_least.cls yX7_least yX7_least ∈ gtbl := mem_g (in_t3 (List.mem_of_getElem? (i := 157) (by decide +kernel))) (by decide +kernel)
abbrev mdX7_likely : Md := (yX7_likely, cX7_likely, 5, some .long)
theorem co_X7_likely : CalleeOk mdX7_likely 4 := ⟨by decide +kernel, by decide, mem_g (in_t4 (List.mem_of_getElem? (i := 15) rfl)) rfl, ini_RX7⟩
theorem im_X7_likely : Cond.instanceMethod yX7_likely ∈ gtbl := mem_g (in_t4 (List.mem_of_getElem? (i := 13) (by decide +kernel))) (by decide +kernel)
theorem se_X7_likely : Cond.selects yX7_likely.cls yX7_likely yX7_likely ∈ gtbl := mem_g (in_t4 (List.mem_of_getElem? (i := 14) (by decide +kernel))) (by decide +kernel)
abbrev mdX7_missed : Md := (yX7_missed, cX7_missed, 3, some .int)
theorem co_X7_missed : CalleeOk mdX7_missed 2 := ⟨by decide +kernel, by decide, mem_g (in_t3 (List.mem_of_getElem? (i := 168) rfl)) rfl, ini_RX7⟩
theorem im_X7_missed : Cond.instanceMethod yX7_missed ∈ gtbl := mem_g (in_t3 (List.mem_of_getElem? (i := 166) (by decide +kernel))) (by decide +kernel)
theorem se_X7_missed : Cond.selects yX7_missed.cls yX7_missed yX7_missed ∈ gtbl := mem_g (in_t3 (List.mem_of_getElem? (i := 167) (by decide +kernel))) (by decide +kernel)
abbrev mdX7_nameOf : Md := (yX7_nameOf, cX7_nameOf, 2, some .int)
theorem co_X7_nameOf : CalleeOk mdX7_nameOf 1 := ⟨by decide +kernel, by decide, mem_g (in_t3 (List.mem_of_getElem? (i := 37) rfl)) rfl, ini_RX7⟩
theorem im_X7_nameOf : Cond.instanceMethod yX7_nameOf ∈ gtbl := mem_g (in_t3 (List.mem_of_getElem? (i := 35) (by decide +kernel))) (by decide +kernel)
theorem se_X7_nameOf : Cond.selects yX7_nameOf.cls yX7_nameOf yX7_nameOf ∈ gtbl := mem_g (in_t3 (List.mem_of_getElem? (i := 36) (by decide +kernel))) (by decide +kernel)
abbrev mdX7_one : Md := (yX7_one, cX7_one, 6, some .int)
theorem co_X7_one : CalleeOk mdX7_one 2 := ⟨by decide +kernel, by decide, mem_g (in_t3 (List.mem_of_getElem? (i := 21) rfl)) rfl, ini_RX7⟩
theorem im_X7_one : Cond.instanceMethod yX7_one ∈ gtbl := mem_g (in_t3 (List.mem_of_getElem? (i := 19) (by decide +kernel))) (by decide +kernel)
theorem se_X7_one : Cond.selects yX7_one.cls yX7_one yX7_one ∈ gtbl := mem_g (in_t3 (List.mem_of_getElem? (i := 20) (by decide +kernel))) (by decide +kernel)
abbrev mdX7_overlap : Md := (yX7_overlap, cX7_overlap, 3, some .int)
theorem co_X7_overlap : CalleeOk mdX7_overlap 2 := ⟨by decide +kernel, by decide, mem_g (in_t3 (List.mem_of_getElem? (i := 61) rfl)) rfl, ini_RX7⟩
theorem im_X7_overlap : Cond.instanceMethod yX7_overlap ∈ gtbl := mem_g (in_t3 (List.mem_of_getElem? (i := 59) (by decide +kernel))) (by decide +kernel)
theorem se_X7_overlap : Cond.selects yX7_overlap.cls yX7_overlap yX7_overlap ∈ gtbl := mem_g (in_t3 (List.mem_of_getElem? (i := 60) (by decide +kernel))) (by decide +kernel)
abbrev mdX7_paidIf : Md := (yX7_paidIf, cX7_paidIf, 5, some .int)
theorem co_X7_paidIf : CalleeOk mdX7_paidIf 4 := ⟨by decide +kernel, by decide, mem_g (in_t3 (List.mem_of_getElem? (i := 135) rfl)) rfl, ini_RX7⟩
theorem im_X7_paidIf : Cond.instanceMethod yX7_paidIf ∈ gtbl := mem_g (in_t3 (List.mem_of_getElem? (i := 133) (by decide +kernel))) (by decide +kernel)
theorem se_X7_paidIf : Cond.selects yX7_paidIf.cls yX7_paidIf yX7_paidIf ∈ gtbl := mem_g (in_t3 (List.mem_of_getElem? (i := 134) (by decide +kernel))) (by decide +kernel)
abbrev mdX7_pot : Md := (yX7_pot, cX7_pot, 3, some .int)
theorem co_X7_pot : CalleeOk mdX7_pot 1 := ⟨by decide +kernel, by decide, mem_g (in_t3 (List.mem_of_getElem? (i := 13) rfl)) rfl, ini_RX7⟩
theorem im_X7_pot : Cond.instanceMethod yX7_pot ∈ gtbl := mem_g (in_t3 (List.mem_of_getElem? (i := 11) (by decide +kernel))) (by decide +kernel)
theorem se_X7_pot : Cond.selects yX7_pot.cls yX7_pot yX7_pot ∈ gtbl := mem_g (in_t3 (List.mem_of_getElem? (i := 12) (by decide +kernel))) (by decide +kernel)
abbrev mdX7_project : Md := (yX7_project, cX7_project, 3, some .int)
theorem co_X7_project : CalleeOk mdX7_project 2 := ⟨by decide +kernel, by decide, mem_g (in_t3 (List.mem_of_getElem? (i := 79) rfl)) rfl, ini_RX7⟩
theorem im_X7_project : Cond.instanceMethod yX7_project ∈ gtbl := mem_g (in_t3 (List.mem_of_getElem? (i := 77) (by decide +kernel))) (by decide +kernel)
theorem se_X7_project : Cond.selects yX7_project.cls yX7_project yX7_project ∈ gtbl := mem_g (in_t3 (List.mem_of_getElem? (i := 78) (by decide +kernel))) (by decide +kernel)
abbrev mdX7_restore : Md := (yX7_restore, cX7_restore, 2, some .int)
theorem co_X7_restore : CalleeOk mdX7_restore 1 := ⟨by decide +kernel, by decide, mem_g (in_t4 (List.mem_of_getElem? (i := 58) rfl)) rfl, ini_RX7⟩
theorem im_X7_restore : Cond.instanceMethod yX7_restore ∈ gtbl := mem_g (in_t4 (List.mem_of_getElem? (i := 56) (by decide +kernel))) (by decide +kernel)
theorem se_X7_restore : Cond.selects yX7_restore.cls yX7_restore yX7_restore ∈ gtbl := mem_g (in_t4 (List.mem_of_getElem? (i := 57) (by decide +kernel))) (by decide +kernel)
abbrev mdX7_ring : Md := (yX7_ring, cX7_ring, 2, some .int)
theorem co_X7_ring : CalleeOk mdX7_ring 1 := ⟨by decide +kernel, by decide, mem_g (in_t3 (List.mem_of_getElem? (i := 182) rfl)) rfl, ini_RX7⟩
theorem im_X7_ring : Cond.instanceMethod yX7_ring ∈ gtbl := mem_g (in_t3 (List.mem_of_getElem? (i := 180) (by decide +kernel))) (by decide +kernel)
theorem se_X7_ring : Cond.selects yX7_ring.cls yX7_ring yX7_ring ∈ gtbl := mem_g (in_t3 (List.mem_of_getElem? (i := 181) (by decide +kernel))) (by decide +kernel)
abbrev mdX7_root : Md := (yX7_root, cX7_root, 2, some .int)
theorem co_X7_root : CalleeOk mdX7_root 1 := ⟨by decide +kernel, by decide, mem_g (in_t3 (List.mem_of_getElem? (i := 41) rfl)) rfl, ini_RX7⟩
theorem im_X7_root : Cond.instanceMethod yX7_root ∈ gtbl := mem_g (in_t3 (List.mem_of_getElem? (i := 39) (by decide +kernel))) (by decide +kernel)
theorem se_X7_root : Cond.selects yX7_root.cls yX7_root yX7_root ∈ gtbl := mem_g (in_t3 (List.mem_of_getElem? (i := 40) (by decide +kernel))) (by decide +kernel)
abbrev mdX7_row : Md := (yX7_row, cX7_row, 4, some .int)
theorem co_X7_row : CalleeOk mdX7_row 3 := ⟨by decide +kernel, by decide, mem_g (in_t2 (List.mem_of_getElem? (i := 70) rfl)) rfl, ini_RX7⟩
theorem im_X7_row : Cond.instanceMethod yX7_row ∈ gtbl := mem_g (in_t2 (List.mem_of_getElem? (i := 68) (by decide +kernel))) (by decide +kernel)
theorem se_X7_row : Cond.selects yX7_row.cls yX7_row yX7_row ∈ gtbl := mem_g (in_t2 (List.mem_of_getElem? (i := 69) (by decide +kernel))) (by decide +kernel)
abbrev mdX7_set : Md := (yX7_set, cX7_set, 4, some .int)
theorem co_X7_set : CalleeOk mdX7_set 3 := ⟨by decide +kernel, by decide, mem_g (in_t2 (List.mem_of_getElem? (i := 94) rfl)) rfl, ini_RX7⟩
theorem im_X7_set : Cond.instanceMethod yX7_set ∈ gtbl := mem_g (in_t2 (List.mem_of_getElem? (i := 92) (by decide +kernel))) (by decide +kernel)
theorem se_X7_set : Cond.selects yX7_set.cls yX7_set yX7_set ∈ gtbl := mem_g (in_t2 (List.mem_of_getElem? (i := 93) (by decide +kernel))) (by decide +kernel)
abbrev mdX7_sets : Md := (yX7_sets, cX7_sets, 3, some .int)
theorem co_X7_sets : CalleeOk mdX7_sets 2 := ⟨by decide +kernel, by decide, mem_g (in_t3 (List.mem_of_getElem? (i := 200) rfl)) rfl, ini_RX7⟩
theorem im_X7_sets : Cond.instanceMethod yX7_sets ∈ gtbl := mem_g (in_t3 (List.mem_of_getElem? (i := 198) (by decide +kernel))) (by decide +kernel)
theorem se_X7_sets : Cond.selects yX7_sets.cls yX7_sets yX7_sets ∈ gtbl := mem_g (in_t3 (List.mem_of_getElem? (i := 199) (by decide +kernel))) (by decide +kernel)
abbrev mdX7_stand : Md := (yX7_stand, cX7_stand, 2, some .int)
theorem co_X7_stand : CalleeOk mdX7_stand 1 := ⟨by decide +kernel, by decide, mem_g (in_t3 (List.mem_of_getElem? (i := 127) rfl)) rfl, ini_RX7⟩
theorem im_X7_stand : Cond.instanceMethod yX7_stand ∈ gtbl := mem_g (in_t3 (List.mem_of_getElem? (i := 125) (by decide +kernel))) (by decide +kernel)
theorem se_X7_stand : Cond.selects yX7_stand.cls yX7_stand yX7_stand ∈ gtbl := mem_g (in_t3 (List.mem_of_getElem? (i := 126) (by decide +kernel))) (by decide +kernel)
abbrev mdX7_status : Md := (yX7_status, cX7_status, 1, some .int)
theorem co_X7_status : CalleeOk mdX7_status 0 := ⟨by decide +kernel, by decide, mem_g (in_t4 (List.mem_of_getElem? (i := 130) rfl)) rfl, ini_RX7⟩
theorem im_X7_status : Cond.instanceMethod yX7_status ∈ gtbl := mem_g (in_t4 (List.mem_of_getElem? (i := 128) (by decide +kernel))) (by decide +kernel)
theorem se_X7_status : Cond.selects yX7_status.cls yX7_status yX7_status ∈ gtbl := mem_g (in_t4 (List.mem_of_getElem? (i := 129) (by decide +kernel))) (by decide +kernel)
abbrev mdX7_sum : Md := (yX7_sum, cX7_sum, 3, some .int)
theorem co_X7_sum : CalleeOk mdX7_sum 2 := ⟨by decide +kernel, by decide, mem_g (in_t3 (List.mem_of_getElem? (i := 48) rfl)) rfl, ini_RX7⟩
theorem im_X7_sum : Cond.instanceMethod yX7_sum ∈ gtbl := mem_g (in_t3 (List.mem_of_getElem? (i := 46) (by decide +kernel))) (by decide +kernel)
theorem se_X7_sum : Cond.selects yX7_sum.cls yX7_sum yX7_sum ∈ gtbl := mem_g (in_t3 (List.mem_of_getElem? (i := 47) (by decide +kernel))) (by decide +kernel)
abbrev mdX7_term : Md := (yX7_term, cX7_term, 4, some .int)
theorem co_X7_term : CalleeOk mdX7_term 3 := ⟨by decide +kernel, by decide, mem_g (in_t3 (List.mem_of_getElem? (i := 69) rfl)) rfl, ini_RX7⟩
theorem im_X7_term : Cond.instanceMethod yX7_term ∈ gtbl := mem_g (in_t3 (List.mem_of_getElem? (i := 67) (by decide +kernel))) (by decide +kernel)
theorem se_X7_term : Cond.selects yX7_term.cls yX7_term yX7_term ∈ gtbl := mem_g (in_t3 (List.mem_of_getElem? (i := 68) (by decide +kernel))) (by decide +kernel)
abbrev mdX7_trace : Md := (yX7_trace, cX7_trace, 2, some .int)
theorem co_X7_trace : CalleeOk mdX7_trace 1 := ⟨by decide +kernel, by decide, mem_g (in_t4 (List.mem_of_getElem? (i := 112) rfl)) rfl, ini_RX7⟩
theorem im_X7_trace : Cond.instanceMethod yX7_trace ∈ gtbl := mem_g (in_t4 (List.mem_of_getElem? (i := 110) (by decide +kernel))) (by decide +kernel)
theorem se_X7_trace : Cond.selects yX7_trace.cls yX7_trace yX7_trace ∈ gtbl := mem_g (in_t4 (List.mem_of_getElem? (i := 111) (by decide +kernel))) (by decide +kernel)
abbrev mdX7_undo : Md := (yX7_undo, cX7_undo, 1, some .int)
theorem co_X7_undo : CalleeOk mdX7_undo 0 := ⟨by decide +kernel, by decide, mem_g (in_t2 (List.mem_of_getElem? (i := 207) rfl)) rfl, ini_RX7⟩
theorem im_X7_undo : Cond.instanceMethod yX7_undo ∈ gtbl := mem_g (in_t2 (List.mem_of_getElem? (i := 205) (by decide +kernel))) (by decide +kernel)
theorem se_X7_undo : Cond.selects yX7_undo.cls yX7_undo yX7_undo ∈ gtbl := mem_g (in_t2 (List.mem_of_getElem? (i := 206) (by decide +kernel))) (by decide +kernel)
abbrev mdX7_unmarred : Md := (yX7_unmarred, cX7_unmarred, 2, some .int)
theorem co_X7_unmarred : CalleeOk mdX7_unmarred 1 := ⟨by decide +kernel, by decide, mem_g (in_t2 (List.mem_of_getElem? (i := 90) rfl)) rfl, ini_RX7⟩
theorem im_X7_unmarred : Cond.instanceMethod yX7_unmarred ∈ gtbl := mem_g (in_t2 (List.mem_of_getElem? (i := 89) (by decide +kernel))) (by decide +kernel)
theorem se_X7_unmarred : Cond.selects yX7_unmarred.cls yX7_unmarred yX7_unmarred ∈ gtbl := in_p1 (List.mem_of_getElem? (i := 1) (by decide +kernel) : (yX7_unmarred, 11) ∈ lw_privs_1)
abbrev mdX7_who : Md := (yX7_who, cX7_who, 5, some .int)
theorem co_X7_who : CalleeOk mdX7_who 4 := ⟨by decide +kernel, by decide, mem_g (in_t3 (List.mem_of_getElem? (i := 226) rfl)) rfl, ini_RX7⟩
theorem im_X7_who : Cond.instanceMethod yX7_who ∈ gtbl := mem_g (in_t3 (List.mem_of_getElem? (i := 224) (by decide +kernel))) (by decide +kernel)
theorem se_X7_who : Cond.selects yX7_who.cls yX7_who yX7_who ∈ gtbl := mem_g (in_t3 (List.mem_of_getElem? (i := 225) (by decide +kernel))) (by decide +kernel)
abbrev mdX7_within : Md := (yX7_within, cX7_within, 3, some .boolean)
theorem co_X7_within : CalleeOk mdX7_within 3 := ⟨by decide +kernel, by decide, mem_g (in_t2 (List.mem_of_getElem? (i := 76) rfl)) rfl, ini_RX7⟩
theorem sm_X7_within : Cond.static yX7_within ∈ gtbl := mem_g (in_t2 (List.mem_of_getElem? (i := 75) (by decide +kernel))) (by decide +kernel)
abbrev mdX8_afterTurns : Md := (yX8_afterTurns, cX8_afterTurns, 10, some .int)
theorem co_X8_afterTurns : CalleeOk mdX8_afterTurns 5 := ⟨by decide +kernel, by decide, mem_g (in_t6 (List.mem_of_getElem? (i := 49) rfl)) rfl, ini_RX8⟩
theorem im_X8_afterTurns : Cond.instanceMethod yX8_afterTurns ∈ gtbl := mem_g (in_t6 (List.mem_of_getElem? (i := 48) (by decide +kernel))) (by decide +kernel)
theorem se_X8_afterTurns : Cond.selects yX8_afterTurns.cls yX8_afterTurns yX8_afterTurns ∈ gtbl := in_p4 (List.mem_of_getElem? (i := 10) (by decide +kernel) : (yX8_afterTurns, 30) ∈ lw_privs_4)
abbrev mdX8_as : Md := (yX8_as, cX8_as, 3, some .int)
theorem co_X8_as : CalleeOk mdX8_as 2 := ⟨by decide +kernel, by decide, mem_g (in_t6 (List.mem_of_getElem? (i := 106) rfl)) rfl, ini_RX8⟩
theorem im_X8_as : Cond.instanceMethod yX8_as ∈ gtbl := mem_g (in_t6 (List.mem_of_getElem? (i := 104) (by decide +kernel))) (by decide +kernel)
theorem se_X8_as : Cond.selects yX8_as.cls yX8_as yX8_as ∈ gtbl := mem_g (in_t6 (List.mem_of_getElem? (i := 105) (by decide +kernel))) (by decide +kernel)
abbrev mdX8_ask : Md := (yX8_ask, cX8_ask, 3, some .int)
theorem co_X8_ask : CalleeOk mdX8_ask 2 := ⟨by decide +kernel, by decide, mem_g (in_t6 (List.mem_of_getElem? (i := 113) rfl)) rfl, ini_RX8⟩
theorem im_X8_ask : Cond.instanceMethod yX8_ask ∈ gtbl := mem_g (in_t6 (List.mem_of_getElem? (i := 111) (by decide +kernel))) (by decide +kernel)
theorem se_X8_ask : Cond.selects yX8_ask.cls yX8_ask yX8_ask ∈ gtbl := mem_g (in_t6 (List.mem_of_getElem? (i := 112) (by decide +kernel))) (by decide +kernel)
abbrev mdX8_back : Md := (yX8_back, cX8_back, 4, some .int)
theorem co_X8_back : CalleeOk mdX8_back 1 := ⟨by decide +kernel, by decide, mem_g (in_t5 (List.mem_of_getElem? (i := 124) rfl)) rfl, ini_RX8⟩
theorem im_X8_back : Cond.instanceMethod yX8_back ∈ gtbl := mem_g (in_t5 (List.mem_of_getElem? (i := 122) (by decide +kernel))) (by decide +kernel)
theorem se_X8_back : Cond.selects yX8_back.cls yX8_back yX8_back ∈ gtbl := mem_g (in_t5 (List.mem_of_getElem? (i := 123) (by decide +kernel))) (by decide +kernel)
abbrev mdX8_bad : Md := (yX8_bad, cX8_bad, 2, none)
theorem co_X8_bad : CalleeOk mdX8_bad 1 := ⟨by decide +kernel, by decide, mem_g (in_t5 (List.mem_of_getElem? (i := 56) rfl)) rfl, ini_RX8⟩
theorem im_X8_bad : Cond.instanceMethod yX8_bad ∈ gtbl := mem_g (in_t5 (List.mem_of_getElem? (i := 55) (by decide +kernel))) (by decide +kernel)
theorem se_X8_bad : Cond.selects yX8_bad.cls yX8_bad yX8_bad ∈ gtbl := in_p2 (List.mem_of_getElem? (i := 14) (by decide +kernel) : (yX8_bad, 30) ∈ lw_privs_2)
abbrev mdX8_become : Md := (yX8_become, cX8_become, 4, some .int)
theorem co_X8_become : CalleeOk mdX8_become 2 := ⟨by decide +kernel, by decide, mem_g (in_t5 (List.mem_of_getElem? (i := 141) rfl)) rfl, ini_RX8⟩
theorem im_X8_become : Cond.instanceMethod yX8_become ∈ gtbl := mem_g (in_t5 (List.mem_of_getElem? (i := 139) (by decide +kernel))) (by decide +kernel)
theorem se_X8_become : Cond.selects yX8_become.cls yX8_become yX8_become ∈ gtbl := mem_g (in_t5 (List.mem_of_getElem? (i := 140) (by decide +kernel))) (by decide +kernel)
abbrev mdX8_began : Md := (yX8_began, cX8_began, 2, none)
theorem co_X8_began : CalleeOk mdX8_began 1 := ⟨by decide +kernel, by decide, mem_g (in_t6 (List.mem_of_getElem? (i := 125) rfl)) rfl, ini_RX8⟩
theorem im_X8_began : Cond.instanceMethod yX8_began ∈ gtbl := mem_g (in_t6 (List.mem_of_getElem? (i := 124) (by decide +kernel))) (by decide +kernel)
theorem se_X8_began : Cond.selects yX8_began.cls yX8_began yX8_began ∈ gtbl := in_p5 (List.mem_of_getElem? (i := 2) (by decide +kernel) : (yX8_began, 30) ∈ lw_privs_5)
abbrev mdX8_begin : Md := (yX8_begin, cX8_begin, 1, none)
theorem co_X8_begin : CalleeOk mdX8_begin 0 := ⟨by decide +kernel, by decide, mem_g (in_t5 (List.mem_of_getElem? (i := 35) rfl)) rfl, ini_RX8⟩
theorem im_X8_begin : Cond.instanceMethod yX8_begin ∈ gtbl := mem_g (in_t5 (List.mem_of_getElem? (i := 34) (by decide +kernel))) (by decide +kernel)
theorem se_X8_begin : Cond.selects yX8_begin.cls yX8_begin yX8_begin ∈ gtbl := in_p2 (List.mem_of_getElem? (i := 10) (by decide +kernel) : (yX8_begin, 30) ∈ lw_privs_2)
abbrev mdX8_best : Md := (yX8_best, cX8_best, 8, some .int)
theorem co_X8_best : CalleeOk mdX8_best 3 := ⟨by decide +kernel, by decide, mem_g (in_t6 (List.mem_of_getElem? (i := 6) rfl)) rfl, ini_RX8⟩
theorem im_X8_best : Cond.instanceMethod yX8_best ∈ gtbl := mem_g (in_t6 (List.mem_of_getElem? (i := 4) (by decide +kernel))) (by decide +kernel)
theorem se_X8_best : Cond.selects yX8_best.cls yX8_best yX8_best ∈ gtbl := mem_g (in_t6 (List.mem_of_getElem? (i := 5) (by decide +kernel))) (by decide +kernel)
abbrev mdX8_bits : Md := (yX8_bits, cX8_bits, 3, some .int)
theorem co_X8_bits : CalleeOk mdX8_bits 1 := ⟨by decide +kernel, by decide, mem_g (in_t5 (List.mem_of_getElem? (i := 206) rfl)) rfl, ini_RX8⟩
theorem sm_X8_bits : Cond.static yX8_bits ∈ gtbl := mem_g (in_t5 (List.mem_of_getElem? (i := 205) (by decide +kernel))) (by decide +kernel)
abbrev mdX8_byTurns : Md := (yX8_byTurns, cX8_byTurns, 12, some .int)
theorem co_X8_byTurns : CalleeOk mdX8_byTurns 4 := ⟨by decide +kernel, by decide, mem_g (in_t6 (List.mem_of_getElem? (i := 43) rfl)) rfl, ini_RX8⟩
theorem im_X8_byTurns : Cond.instanceMethod yX8_byTurns ∈ gtbl := mem_g (in_t6 (List.mem_of_getElem? (i := 41) (by decide +kernel))) (by decide +kernel)
theorem se_X8_byTurns : Cond.selects yX8_byTurns.cls yX8_byTurns yX8_byTurns ∈ gtbl := mem_g (in_t6 (List.mem_of_getElem? (i := 42) (by decide +kernel))) (by decide +kernel)
abbrev mdX8_claimOf : Md := (yX8_claimOf, cX8_claimOf, 4, some .int)
theorem co_X8_claimOf : CalleeOk mdX8_claimOf 2 := ⟨by decide +kernel, by decide, mem_g (in_t5 (List.mem_of_getElem? (i := 199) rfl)) rfl, ini_RX8⟩
theorem im_X8_claimOf : Cond.instanceMethod yX8_claimOf ∈ gtbl := mem_g (in_t5 (List.mem_of_getElem? (i := 198) (by decide +kernel))) (by decide +kernel)
theorem se_X8_claimOf : Cond.selects yX8_claimOf.cls yX8_claimOf yX8_claimOf ∈ gtbl := in_p3 (List.mem_of_getElem? (i := 15) (by decide +kernel) : (yX8_claimOf, 30) ∈ lw_privs_3)
abbrev mdX8_claimsTogether : Md := (yX8_claimsTogether, cX8_claimsTogether, 4, some .int)
theorem co_X8_claimsTogether : CalleeOk mdX8_claimsTogether 1 := ⟨by decide +kernel, by decide, mem_g (in_t5 (List.mem_of_getElem? (i := 226) rfl)) rfl, ini_RX8⟩
theorem im_X8_claimsTogether : Cond.instanceMethod yX8_claimsTogether ∈ gtbl := mem_g (in_t5 (List.mem_of_getElem? (i := 225) (by decide +kernel))) (by decide +kernel)
theorem se_X8_claimsTogether : Cond.selects yX8_claimsTogether.cls yX8_claimsTogether yX8_claimsTogether ∈ gtbl := in_p4 (List.mem_of_getElem? (i := 5) (by decide +kernel) : (yX8_claimsTogether, 30) ∈ lw_privs_4)
abbrev mdX8_coinsOf : Md := (yX8_coinsOf, cX8_coinsOf, 7, some .int)
theorem co_X8_coinsOf : CalleeOk mdX8_coinsOf 3 := ⟨by decide +kernel, by decide, mem_g (in_t6 (List.mem_of_getElem? (i := 73) rfl)) rfl, ini_RX8⟩
theorem im_X8_coinsOf : Cond.instanceMethod yX8_coinsOf ∈ gtbl := mem_g (in_t6 (List.mem_of_getElem? (i := 72) (by decide +kernel))) (by decide +kernel)
theorem se_X8_coinsOf : Cond.selects yX8_coinsOf.cls yX8_coinsOf yX8_coinsOf ∈ gtbl := in_p4 (List.mem_of_getElem? (i := 15) (by decide +kernel) : (yX8_coinsOf, 30) ∈ lw_privs_4)
abbrev mdX8_copy : Md := (yX8_copy, cX8_copy, 9, some .int)
theorem co_X8_copy : CalleeOk mdX8_copy 5 := ⟨by decide +kernel, by decide, mem_g (in_t5 (List.mem_of_getElem? (i := 13) rfl)) rfl, ini_RX8⟩
theorem im_X8_copy : Cond.instanceMethod yX8_copy ∈ gtbl := mem_g (in_t5 (List.mem_of_getElem? (i := 11) (by decide +kernel))) (by decide +kernel)
theorem se_X8_copy : Cond.selects yX8_copy.cls yX8_copy yX8_copy ∈ gtbl := mem_g (in_t5 (List.mem_of_getElem? (i := 12) (by decide +kernel))) (by decide +kernel)
abbrev mdX8_count : Md := (yX8_count, cX8_count, 4, some .int)
theorem co_X8_count : CalleeOk mdX8_count 1 := ⟨by decide +kernel, by decide, mem_g (in_t6 (List.mem_of_getElem? (i := 141) rfl)) rfl, ini_RX8⟩
theorem im_X8_count : Cond.instanceMethod yX8_count ∈ gtbl := mem_g (in_t6 (List.mem_of_getElem? (i := 139) (by decide +kernel))) (by decide +kernel)
theorem se_X8_count : Cond.selects yX8_count.cls yX8_count yX8_count ∈ gtbl := mem_g (in_t6 (List.mem_of_getElem? (i := 140) (by decide +kernel))) (by decide +kernel)
abbrev mdX8_drawn : Md := (yX8_drawn, cX8_drawn, 8, some .int)
theorem co_X8_drawn : CalleeOk mdX8_drawn 3 := ⟨by decide +kernel, by decide, mem_g (in_t6 (List.mem_of_getElem? (i := 83) rfl)) rfl, ini_RX8⟩
theorem im_X8_drawn : Cond.instanceMethod yX8_drawn ∈ gtbl := mem_g (in_t6 (List.mem_of_getElem? (i := 81) (by decide +kernel))) (by decide +kernel)
theorem se_X8_drawn : Cond.selects yX8_drawn.cls yX8_drawn yX8_drawn ∈ gtbl := mem_g (in_t6 (List.mem_of_getElem? (i := 82) (by decide +kernel))) (by decide +kernel)
abbrev mdX8_drop : Md := (yX8_drop, cX8_drop, 2, some .int)
theorem co_X8_drop : CalleeOk mdX8_drop 1 := ⟨by decide +kernel, by decide, mem_g (in_t5 (List.mem_of_getElem? (i := 17) rfl)) rfl, ini_RX8⟩
theorem im_X8_drop : Cond.instanceMethod yX8_drop ∈ gtbl := mem_g (in_t5 (List.mem_of_getElem? (i := 15) (by decide +kernel))) (by decide +kernel)
theorem se_X8_drop : Cond.selects yX8_drop.cls yX8_drop yX8_drop ∈ gtbl := mem_g (in_t5 (List.mem_of_getElem? (i := 16) (by decide +kernel))) (by decide +kernel)
abbrev mdX8_failed : Md := (yX8_failed, cX8_failed, 1, some .boolean)
theorem co_X8_failed : CalleeOk mdX8_failed 0 := ⟨by decide +kernel, by decide, mem_g (in_t5 (List.mem_of_getElem? (i := 93) rfl)) rfl, ini_RX8⟩
theorem im_X8_failed : Cond.instanceMethod yX8_failed ∈ gtbl := mem_g (in_t5 (List.mem_of_getElem? (i := 92) (by decide +kernel))) (by decide +kernel)
theorem se_X8_failed : Cond.selects yX8_failed.cls yX8_failed yX8_failed ∈ gtbl := in_p3 (List.mem_of_getElem? (i := 5) (by decide +kernel) : (yX8_failed, 30) ∈ lw_privs_3)
abbrev mdX8_fault : Md := (yX8_fault, cX8_fault, 1, some .int)
theorem co_X8_fault : CalleeOk mdX8_fault 0 := ⟨by decide +kernel, by decide, mem_g (in_t5 (List.mem_of_getElem? (i := 27) rfl)) rfl, ini_RX8⟩
theorem im_X8_fault : Cond.instanceMethod yX8_fault ∈ gtbl := mem_g (in_t5 (List.mem_of_getElem? (i := 25) (by decide +kernel))) (by decide +kernel)
theorem se_X8_fault : Cond.selects yX8_fault.cls yX8_fault yX8_fault ∈ gtbl := mem_g (in_t5 (List.mem_of_getElem? (i := 26) (by decide +kernel))) (by decide +kernel)
abbrev mdX8_feed : Md := (yX8_feed, cX8_feed, 2, some .int)
theorem co_X8_feed : CalleeOk mdX8_feed 1 := ⟨by decide +kernel, by decide, mem_g (in_t5 (List.mem_of_getElem? (i := 21) rfl)) rfl, ini_RX8⟩
theorem im_X8_feed : Cond.instanceMethod yX8_feed ∈ gtbl := mem_g (in_t5 (List.mem_of_getElem? (i := 19) (by decide +kernel))) (by decide +kernel)
theorem se_X8_feed : Cond.selects yX8_feed.cls yX8_feed yX8_feed ∈ gtbl := mem_g (in_t5 (List.mem_of_getElem? (i := 20) (by decide +kernel))) (by decide +kernel)
abbrev mdX8_finding : Md := (yX8_finding, cX8_finding, 2, some .int)
theorem co_X8_finding : CalleeOk mdX8_finding 1 := ⟨by decide +kernel, by decide, mem_g (in_t5 (List.mem_of_getElem? (i := 4) rfl)) rfl, ini_RX8⟩
theorem im_X8_finding : Cond.instanceMethod yX8_finding ∈ gtbl := mem_g (in_t5 (List.mem_of_getElem? (i := 3) (by decide +kernel))) (by decide +kernel)
theorem se_X8_finding : Cond.selects yX8_finding.cls yX8_finding yX8_finding ∈ gtbl := in_p2 (List.mem_of_getElem? (i := 9) (by decide +kernel) : (yX8_finding, 30) ∈ lw_privs_2)
abbrev mdX8_flatSize : Md := (yX8_flatSize, cX8_flatSize, 4, some .int)
theorem co_X8_flatSize : CalleeOk mdX8_flatSize 1 := ⟨by decide +kernel, by decide, mem_g (in_t6 (List.mem_of_getElem? (i := 121) rfl)) rfl, ini_RX8⟩
theorem im_X8_flatSize : Cond.instanceMethod yX8_flatSize ∈ gtbl := mem_g (in_t6 (List.mem_of_getElem? (i := 120) (by decide +kernel))) (by decide +kernel)
theorem se_X8_flatSize : Cond.selects yX8_flatSize.cls yX8_flatSize yX8_flatSize ∈ gtbl := in_p5 (List.mem_of_getElem? (i := 1) (by decide +kernel) : (yX8_flatSize, 30) ∈ lw_privs_5)
abbrev mdX8_fund : Md := (yX8_fund, cX8_fund, 2, some .int)
theorem co_X8_fund : CalleeOk mdX8_fund 0 := ⟨by decide +kernel, by decide, mem_g (in_t5 (List.mem_of_getElem? (i := 31) rfl)) rfl, ini_RX8⟩
theorem im_X8_fund : Cond.instanceMethod yX8_fund ∈ gtbl := mem_g (in_t5 (List.mem_of_getElem? (i := 29) (by decide +kernel))) (by decide +kernel)
theorem se_X8_fund : Cond.selects yX8_fund.cls yX8_fund yX8_fund ∈ gtbl := mem_g (in_t5 (List.mem_of_getElem? (i := 30) (by decide +kernel))) (by decide +kernel)
abbrev mdX8_gift : Md := (yX8_gift, cX8_gift, 3, some .int)
theorem co_X8_gift : CalleeOk mdX8_gift 2 := ⟨by decide +kernel, by decide, mem_g (in_t5 (List.mem_of_getElem? (i := 154) rfl)) rfl, ini_RX8⟩
theorem im_X8_gift : Cond.instanceMethod yX8_gift ∈ gtbl := mem_g (in_t5 (List.mem_of_getElem? (i := 152) (by decide +kernel))) (by decide +kernel)
theorem se_X8_gift : Cond.selects yX8_gift.cls yX8_gift yX8_gift ∈ gtbl := mem_g (in_t5 (List.mem_of_getElem? (i := 153) (by decide +kernel))) (by decide +kernel)
abbrev mdX8_give : Md := (yX8_give, cX8_give, 4, some .int)
theorem co_X8_give : CalleeOk mdX8_give 3 := ⟨by decide +kernel, by decide, mem_g (in_t5 (List.mem_of_getElem? (i := 98) rfl)) rfl, ini_RX8⟩
theorem im_X8_give : Cond.instanceMethod yX8_give ∈ gtbl := mem_g (in_t5 (List.mem_of_getElem? (i := 96) (by decide +kernel))) (by decide +kernel)
theorem se_X8_give : Cond.selects yX8_give.cls yX8_give yX8_give ∈ gtbl := mem_g (in_t5 (List.mem_of_getElem? (i := 97) (by decide +kernel))) (by decide +kernel)
abbrev mdX8_givers : Md := (yX8_givers, cX8_givers, 4, some .int)
theorem co_X8_givers : CalleeOk mdX8_givers 1 := ⟨by decide +kernel, by decide, mem_g (in_t6 (List.mem_of_getElem? (i := 19) rfl)) rfl, ini_RX8⟩
theorem im_X8_givers : Cond.instanceMethod yX8_givers ∈ gtbl := mem_g (in_t6 (List.mem_of_getElem? (i := 18) (by decide +kernel))) (by decide +kernel)
theorem se_X8_givers : Cond.selects yX8_givers.cls yX8_givers yX8_givers ∈ gtbl := in_p4 (List.mem_of_getElem? (i := 8) (by decide +kernel) : (yX8_givers, 30) ∈ lw_privs_4)
abbrev mdX8_giversOf : Md := (yX8_giversOf, cX8_giversOf, 4, some .int)
theorem co_X8_giversOf : CalleeOk mdX8_giversOf 1 := ⟨by decide +kernel, by decide, mem_g (in_t5 (List.mem_of_getElem? (i := 203) rfl)) rfl, ini_RX8⟩
theorem im_X8_giversOf : Cond.instanceMethod yX8_giversOf ∈ gtbl := mem_g (in_t5 (List.mem_of_getElem? (i := 202) (by decide +kernel))) (by decide +kernel)
theorem se_X8_giversOf : Cond.selects yX8_giversOf.cls yX8_giversOf yX8_giversOf ∈ gtbl := in_p4 (List.mem_of_getElem? (i := 0) (by decide +kernel) : (yX8_giversOf, 30) ∈ lw_privs_4)
abbrev mdX8_halves : Md := (yX8_halves, cX8_halves, 10, some .int)
theorem co_X8_halves : CalleeOk mdX8_halves 5 := ⟨by decide +kernel, by decide, mem_g (in_t6 (List.mem_of_getElem? (i := 34) rfl)) rfl, ini_RX8⟩
theorem im_X8_halves : Cond.instanceMethod yX8_halves ∈ gtbl := mem_g (in_t6 (List.mem_of_getElem? (i := 32) (by decide +kernel))) (by decide +kernel)
theorem se_X8_halves : Cond.selects yX8_halves.cls yX8_halves yX8_halves ∈ gtbl := mem_g (in_t6 (List.mem_of_getElem? (i := 33) (by decide +kernel))) (by decide +kernel)
abbrev mdX8_has : Md := (yX8_has, cX8_has, 2, some .boolean)
theorem co_X8_has : CalleeOk mdX8_has 2 := ⟨by decide +kernel, by decide, mem_g (in_t6 (List.mem_of_getElem? (i := 22) rfl)) rfl, ini_RX8⟩
theorem sm_X8_has : Cond.static yX8_has ∈ gtbl := mem_g (in_t6 (List.mem_of_getElem? (i := 21) (by decide +kernel))) (by decide +kernel)
abbrev mdX8_image : Md := (yX8_image, cX8_image, 3, some .int)
theorem co_X8_image : CalleeOk mdX8_image 1 := ⟨by decide +kernel, by decide, mem_g (in_t6 (List.mem_of_getElem? (i := 94) rfl)) rfl, ini_RX8⟩
theorem im_X8_image : Cond.instanceMethod yX8_image ∈ gtbl := mem_g (in_t6 (List.mem_of_getElem? (i := 92) (by decide +kernel))) (by decide +kernel)
theorem se_X8_image : Cond.selects yX8_image.cls yX8_image yX8_image ∈ gtbl := mem_g (in_t6 (List.mem_of_getElem? (i := 93) (by decide +kernel))) (by decide +kernel)
abbrev mdX8_in : Md := (yX8_in, cX8_in, 6, some .boolean)
theorem co_X8_in : CalleeOk mdX8_in 3 := ⟨by decide +kernel, by decide, mem_g (in_t4 (List.mem_of_getElem? (i := 238) rfl)) rfl, ini_RX8⟩
theorem sm_X8_in : Cond.static yX8_in ∈ gtbl := mem_g (in_t4 (List.mem_of_getElem? (i := 237) (by decide +kernel))) (by decide +kernel)
abbrev mdX8_isGift : Md := (yX8_isGift, cX8_isGift, 1, some .boolean)
theorem co_X8_isGift : CalleeOk mdX8_isGift 0 := ⟨by decide +kernel, by decide, mem_g (in_t5 (List.mem_of_getElem? (i := 79) rfl)) rfl, ini_RX8⟩
theorem im_X8_isGift : Cond.instanceMethod yX8_isGift ∈ gtbl := mem_g (in_t5 (List.mem_of_getElem? (i := 78) (by decide +kernel))) (by decide +kernel)
theorem se_X8_isGift : Cond.selects yX8_isGift.cls yX8_isGift yX8_isGift ∈ gtbl := in_p3 (List.mem_of_getElem? (i := 3) (by decide +kernel) : (yX8_isGift, 30) ∈ lw_privs_3)
abbrev mdX8_isGiftAt : Md := (yX8_isGiftAt, cX8_isGiftAt, 2, some .boolean)
theorem co_X8_isGiftAt : CalleeOk mdX8_isGiftAt 1 := ⟨by decide +kernel, by decide, mem_g (in_t5 (List.mem_of_getElem? (i := 128) rfl)) rfl, ini_RX8⟩
theorem im_X8_isGiftAt : Cond.instanceMethod yX8_isGiftAt ∈ gtbl := mem_g (in_t5 (List.mem_of_getElem? (i := 127) (by decide +kernel))) (by decide +kernel)
theorem se_X8_isGiftAt : Cond.selects yX8_isGiftAt.cls yX8_isGiftAt yX8_isGiftAt ∈ gtbl := in_p3 (List.mem_of_getElem? (i := 11) (by decide +kernel) : (yX8_isGiftAt, 30) ∈ lw_privs_3)
abbrev mdX8_isGiver : Md := (yX8_isGiver, cX8_isGiver, 2, some .boolean)
theorem co_X8_isGiver : CalleeOk mdX8_isGiver 1 := ⟨by decide +kernel, by decide, mem_g (in_t5 (List.mem_of_getElem? (i := 106) rfl)) rfl, ini_RX8⟩
theorem im_X8_isGiver : Cond.instanceMethod yX8_isGiver ∈ gtbl := mem_g (in_t5 (List.mem_of_getElem? (i := 105) (by decide +kernel))) (by decide +kernel)
theorem se_X8_isGiver : Cond.selects yX8_isGiver.cls yX8_isGiver yX8_isGiver ∈ gtbl := in_p3 (List.mem_of_getElem? (i := 7) (by decide +kernel) : (yX8_isGiver, 30) ∈ lw_privs_3)
abbrev mdX8_isGiving : Md := (yX8_isGiving, cX8_isGiving, 3, some .boolean)
theorem co_X8_isGiving : CalleeOk mdX8_isGiving 2 := ⟨by decide +kernel, by decide, mem_g (in_t5 (List.mem_of_getElem? (i := 102) rfl)) rfl, ini_RX8⟩
theorem im_X8_isGiving : Cond.instanceMethod yX8_isGiving ∈ gtbl := mem_g (in_t5 (List.mem_of_getElem? (i := 101) (by decide +kernel))) (by decide +kernel)
theorem se_X8_isGiving : Cond.selects yX8_isGiving.cls yX8_isGiving yX8_isGiving ∈ gtbl := in_p3 (List.mem_of_getElem? (i := 6) (by decide +kernel) : (yX8_isGiving, 30) ∈ lw_privs_3)
abbrev mdX8_isLetter : Md := (yX8_isLetter, cX8_isLetter, 2, some .boolean)
theorem co_X8_isLetter : CalleeOk mdX8_isLetter 1 := ⟨by decide +kernel, by decide, mem_g (in_t5 (List.mem_of_getElem? (i := 48) rfl)) rfl, ini_RX8⟩
theorem im_X8_isLetter : Cond.instanceMethod yX8_isLetter ∈ gtbl := mem_g (in_t5 (List.mem_of_getElem? (i := 47) (by decide +kernel))) (by decide +kernel)
theorem se_X8_isLetter : Cond.selects yX8_isLetter.cls yX8_isLetter yX8_isLetter ∈ gtbl := in_p2 (List.mem_of_getElem? (i := 12) (by decide +kernel) : (yX8_isLetter, 30) ∈ lw_privs_2)
abbrev mdX8_isOf : Md := (yX8_isOf, cX8_isOf, 2, some .boolean)
theorem co_X8_isOf : CalleeOk mdX8_isOf 2 := ⟨by decide +kernel, by decide, mem_g (in_t6 (List.mem_of_getElem? (i := 109) rfl)) rfl, ini_RX8⟩
theorem sm_X8_isOf : Cond.static yX8_isOf ∈ gtbl := mem_g (in_t6 (List.mem_of_getElem? (i := 108) (by decide +kernel))) (by decide +kernel)
abbrev mdX8_isPaidSo : Md := (yX8_isPaidSo, cX8_isPaidSo, 4, some .boolean)
theorem co_X8_isPaidSo : CalleeOk mdX8_isPaidSo 1 := ⟨by decide +kernel, by decide, mem_g (in_t6 (List.mem_of_getElem? (i := 65) rfl)) rfl, ini_RX8⟩
theorem im_X8_isPaidSo : Cond.instanceMethod yX8_isPaidSo ∈ gtbl := mem_g (in_t6 (List.mem_of_getElem? (i := 64) (by decide +kernel))) (by decide +kernel)
theorem se_X8_isPaidSo : Cond.selects yX8_isPaidSo.cls yX8_isPaidSo yX8_isPaidSo ∈ gtbl := in_p4 (List.mem_of_getElem? (i := 13) (by decide +kernel) : (yX8_isPaidSo, 30) ∈ lw_privs_4)
abbrev mdX8_isProject : Md := (yX8_isProject, cX8_isProject, 2, some .boolean)
theorem co_X8_isProject : CalleeOk mdX8_isProject 1 := ⟨by decide +kernel, by decide, mem_g (in_t5 (List.mem_of_getElem? (i := 115) rfl)) rfl, ini_RX8⟩
theorem im_X8_isProject : Cond.instanceMethod yX8_isProject ∈ gtbl := mem_g (in_t5 (List.mem_of_getElem? (i := 114) (by decide +kernel))) (by decide +kernel)
theorem se_X8_isProject : Cond.selects yX8_isProject.cls yX8_isProject yX8_isProject ∈ gtbl := in_p3 (List.mem_of_getElem? (i := 9) (by decide +kernel) : (yX8_isProject, 30) ∈ lw_privs_3)
abbrev mdX8_isRow : Md := (yX8_isRow, cX8_isRow, 1, some .boolean)
theorem co_X8_isRow : CalleeOk mdX8_isRow 1 := ⟨by decide +kernel, by decide, mem_g (in_t4 (List.mem_of_getElem? (i := 234) rfl)) rfl, ini_RX8⟩
theorem sm_X8_isRow : Cond.static yX8_isRow ∈ gtbl := mem_g (in_t4 (List.mem_of_getElem? (i := 233) (by decide +kernel))) (by decide +kernel)
abbrev mdX8_isSort : Md := (yX8_isSort, cX8_isSort, 1, some .boolean)
theorem co_X8_isSort : CalleeOk mdX8_isSort 0 := ⟨by decide +kernel, by decide, mem_g (in_t5 (List.mem_of_getElem? (i := 68) rfl)) rfl, ini_RX8⟩
theorem im_X8_isSort : Cond.instanceMethod yX8_isSort ∈ gtbl := mem_g (in_t5 (List.mem_of_getElem? (i := 67) (by decide +kernel))) (by decide +kernel)
theorem se_X8_isSort : Cond.selects yX8_isSort.cls yX8_isSort yX8_isSort ∈ gtbl := in_p3 (List.mem_of_getElem? (i := 1) (by decide +kernel) : (yX8_isSort, 30) ∈ lw_privs_3)
abbrev mdX8_isThere : Md := (yX8_isThere, cX8_isThere, 1, some .boolean)
theorem co_X8_isThere : CalleeOk mdX8_isThere 0 := ⟨by decide +kernel, by decide, mem_g (in_t5 (List.mem_of_getElem? (i := 110) rfl)) rfl, ini_RX8⟩
theorem im_X8_isThere : Cond.instanceMethod yX8_isThere ∈ gtbl := mem_g (in_t5 (List.mem_of_getElem? (i := 109) (by decide +kernel))) (by decide +kernel)
theorem se_X8_isThere : Cond.selects yX8_isThere.cls yX8_isThere yX8_isThere ∈ gtbl := in_p3 (List.mem_of_getElem? (i := 8) (by decide +kernel) : (yX8_isThere, 30) ∈ lw_privs_3)
abbrev mdX8_keep : Md := (yX8_keep, cX8_keep, 2, none)
theorem co_X8_keep : CalleeOk mdX8_keep 0 := ⟨by decide +kernel, by decide, mem_g (in_t5 (List.mem_of_getElem? (i := 120) rfl)) rfl, ini_RX8⟩
theorem im_X8_keep : Cond.instanceMethod yX8_keep ∈ gtbl := mem_g (in_t5 (List.mem_of_getElem? (i := 119) (by decide +kernel))) (by decide +kernel)
theorem se_X8_keep : Cond.selects yX8_keep.cls yX8_keep yX8_keep ∈ gtbl := in_p3 (List.mem_of_getElem? (i := 10) (by decide +kernel) : (yX8_keep, 30) ∈ lw_privs_3)
abbrev mdX8_kind : Md := (yX8_kind, cX8_kind, 2, some .int)
theorem co_X8_kind : CalleeOk mdX8_kind 1 := ⟨by decide +kernel, by decide, mem_g (in_t6 (List.mem_of_getElem? (i := 102) rfl)) rfl, ini_RX8⟩
theorem im_X8_kind : Cond.instanceMethod yX8_kind ∈ gtbl := mem_g (in_t6 (List.mem_of_getElem? (i := 100) (by decide +kernel))) (by decide +kernel)
theorem se_X8_kind : Cond.selects yX8_kind.cls yX8_kind yX8_kind ∈ gtbl := mem_g (in_t6 (List.mem_of_getElem? (i := 101) (by decide +kernel))) (by decide +kernel)
abbrev mdX8_kindBy : Md := (yX8_kindBy, cX8_kindBy, 1, some .int)
theorem co_X8_kindBy : CalleeOk mdX8_kindBy 1 := ⟨by decide +kernel, by decide, mem_g (in_t5 (List.mem_of_getElem? (i := 71) rfl)) rfl, ini_RX8⟩
theorem sm_X8_kindBy : Cond.static yX8_kindBy ∈ gtbl := mem_g (in_t5 (List.mem_of_getElem? (i := 70) (by decide +kernel))) (by decide +kernel)
abbrev mdX8_kindsOf : Md := (yX8_kindsOf, cX8_kindsOf, 5, some .int)
theorem co_X8_kindsOf : CalleeOk mdX8_kindsOf 2 := ⟨by decide +kernel, by decide, mem_g (in_t6 (List.mem_of_getElem? (i := 69) rfl)) rfl, ini_RX8⟩
theorem im_X8_kindsOf : Cond.instanceMethod yX8_kindsOf ∈ gtbl := mem_g (in_t6 (List.mem_of_getElem? (i := 68) (by decide +kernel))) (by decide +kernel)
theorem se_X8_kindsOf : Cond.selects yX8_kindsOf.cls yX8_kindsOf yX8_kindsOf ∈ gtbl := in_p4 (List.mem_of_getElem? (i := 14) (by decide +kernel) : (yX8_kindsOf, 30) ∈ lw_privs_4)
abbrev mdX8_lay : Md := (yX8_lay, cX8_lay, 5, none)
theorem co_X8_lay : CalleeOk mdX8_lay 5 := ⟨by decide +kernel, by decide, mem_g (in_t5 (List.mem_of_getElem? (i := 89) rfl)) rfl, ini_RX8⟩
theorem sm_X8_lay : Cond.static yX8_lay ∈ gtbl := mem_g (in_t5 (List.mem_of_getElem? (i := 88) (by decide +kernel))) (by decide +kernel)
abbrev mdX8_layGift : Md := (yX8_layGift, cX8_layGift, 4, none)
theorem co_X8_layGift : CalleeOk mdX8_layGift 3 := ⟨by decide +kernel, by decide, mem_g (in_t5 (List.mem_of_getElem? (i := 238) rfl)) rfl, ini_RX8⟩
theorem im_X8_layGift : Cond.instanceMethod yX8_layGift ∈ gtbl := mem_g (in_t5 (List.mem_of_getElem? (i := 237) (by decide +kernel))) (by decide +kernel)
theorem se_X8_layGift : Cond.selects yX8_layGift.cls yX8_layGift yX8_layGift ∈ gtbl := in_p4 (List.mem_of_getElem? (i := 6) (by decide +kernel) : (yX8_layGift, 30) ∈ lw_privs_4)
abbrev mdX8_layThen : Md := (yX8_layThen, cX8_layThen, 2, none)
theorem co_X8_layThen : CalleeOk mdX8_layThen 0 := ⟨by decide +kernel, by decide, mem_g (in_t6 (List.mem_of_getElem? (i := 2) rfl)) rfl, ini_RX8⟩
theorem im_X8_layThen : Cond.instanceMethod yX8_layThen ∈ gtbl := mem_g (in_t6 (List.mem_of_getElem? (i := 1) (by decide +kernel))) (by decide +kernel)
theorem se_X8_layThen : Cond.selects yX8_layThen.cls yX8_layThen yX8_layThen ∈ gtbl := in_p4 (List.mem_of_getElem? (i := 7) (by decide +kernel) : (yX8_layThen, 30) ∈ lw_privs_4)
abbrev mdX8_layWithout : Md := (yX8_layWithout, cX8_layWithout, 3, none)
theorem co_X8_layWithout : CalleeOk mdX8_layWithout 1 := ⟨by decide +kernel, by decide, mem_g (in_t6 (List.mem_of_getElem? (i := 26) rfl)) rfl, ini_RX8⟩
theorem im_X8_layWithout : Cond.instanceMethod yX8_layWithout ∈ gtbl := mem_g (in_t6 (List.mem_of_getElem? (i := 25) (by decide +kernel))) (by decide +kernel)
theorem se_X8_layWithout : Cond.selects yX8_layWithout.cls yX8_layWithout yX8_layWithout ∈ gtbl := in_p4 (List.mem_of_getElem? (i := 9) (by decide +kernel) : (yX8_layWithout, 30) ∈ lw_privs_4)
abbrev mdX8_least : Md := (yX8_least, cX8_least, 5, some .int)
theorem co_X8_least : CalleeOk mdX8_least 3 := ⟨by decide +kernel, by decide, mem_g (in_t6 (List.mem_of_getElem? (i := 10) rfl)) rfl, ini_RX8⟩
theorem im_X8_least : Cond.instanceMethod yX8_least ∈ gtbl := mem_g (in_t6 (List.mem_of_getElem? (i := 8) (by decide +kernel))) (by decide +kernel)
theorem se_X8_least : Cond.selects yX8_least.cls yX8_least yX8_least ∈ gtbl := mem_g (in_t6 (List.mem_of_getElem? (i := 9) (by decide +kernel))) (by decide +kernel)
abbrev mdX8_likely : Md := (yX8_likely, cX8_likely, 16, some .long)
theorem co_X8_likely : CalleeOk mdX8_likely 4 := ⟨by decide +kernel, by decide, mem_g (in_t6 (List.mem_of_getElem? (i := 77) rfl)) rfl, ini_RX8⟩
theorem im_X8_likely : Cond.instanceMethod yX8_likely ∈ gtbl := mem_g (in_t6 (List.mem_of_getElem? (i := 75) (by decide +kernel))) (by decide +kernel)
theorem se_X8_likely : Cond.selects yX8_likely.cls yX8_likely yX8_likely ∈ gtbl := mem_g (in_t6 (List.mem_of_getElem? (i := 76) (by decide +kernel))) (by decide +kernel)
abbrev mdX8_lookAt : Md := (yX8_lookAt, cX8_lookAt, 6, none)
theorem co_X8_lookAt : CalleeOk mdX8_lookAt 1 := ⟨by decide +kernel, by decide, mem_g (in_t5 (List.mem_of_getElem? (i := 174) rfl)) rfl, ini_RX8⟩
theorem im_X8_lookAt : Cond.instanceMethod yX8_lookAt ∈ gtbl := mem_g (in_t5 (List.mem_of_getElem? (i := 173) (by decide +kernel))) (by decide +kernel)
theorem se_X8_lookAt : Cond.selects yX8_lookAt.cls yX8_lookAt yX8_lookAt ∈ gtbl := in_p3 (List.mem_of_getElem? (i := 12) (by decide +kernel) : (yX8_lookAt, 30) ∈ lw_privs_3)
abbrev mdX8_markOf : Md := (yX8_markOf, cX8_markOf, 4, some .int)
theorem co_X8_markOf : CalleeOk mdX8_markOf 1 := ⟨by decide +kernel, by decide, mem_g (in_t6 (List.mem_of_getElem? (i := 133) rfl)) rfl, ini_RX8⟩
theorem im_X8_markOf : Cond.instanceMethod yX8_markOf ∈ gtbl := mem_g (in_t6 (List.mem_of_getElem? (i := 132) (by decide +kernel))) (by decide +kernel)
theorem se_X8_markOf : Cond.selects yX8_markOf.cls yX8_markOf yX8_markOf ∈ gtbl := in_p5 (List.mem_of_getElem? (i := 4) (by decide +kernel) : (yX8_markOf, 30) ∈ lw_privs_5)
abbrev mdX8_missed : Md := (yX8_missed, cX8_missed, 7, some .int)
theorem co_X8_missed : CalleeOk mdX8_missed 2 := ⟨by decide +kernel, by decide, mem_g (in_t6 (List.mem_of_getElem? (i := 15) rfl)) rfl, ini_RX8⟩
theorem im_X8_missed : Cond.instanceMethod yX8_missed ∈ gtbl := mem_g (in_t6 (List.mem_of_getElem? (i := 13) (by decide +kernel))) (by decide +kernel)
theorem se_X8_missed : Cond.selects yX8_missed.cls yX8_missed yX8_missed ∈ gtbl := mem_g (in_t6 (List.mem_of_getElem? (i := 14) (by decide +kernel))) (by decide +kernel)
abbrev mdX8_must : Md := (yX8_must, cX8_must, 2, none)
theorem co_X8_must : CalleeOk mdX8_must 1 := ⟨by decide +kernel, by decide, mem_g (in_t5 (List.mem_of_getElem? (i := 52) rfl)) rfl, ini_RX8⟩
theorem im_X8_must : Cond.instanceMethod yX8_must ∈ gtbl := mem_g (in_t5 (List.mem_of_getElem? (i := 51) (by decide +kernel))) (by decide +kernel)
theorem se_X8_must : Cond.selects yX8_must.cls yX8_must yX8_must ∈ gtbl := in_p2 (List.mem_of_getElem? (i := 13) (by decide +kernel) : (yX8_must, 30) ∈ lw_privs_2)
abbrev mdX8_mustSign : Md := (yX8_mustSign, cX8_mustSign, 2, none)
theorem co_X8_mustSign : CalleeOk mdX8_mustSign 1 := ⟨by decide +kernel, by decide, mem_g (in_t5 (List.mem_of_getElem? (i := 64) rfl)) rfl, ini_RX8⟩
theorem im_X8_mustSign : Cond.instanceMethod yX8_mustSign ∈ gtbl := mem_g (in_t5 (List.mem_of_getElem? (i := 63) (by decide +kernel))) (by decide +kernel)
theorem se_X8_mustSign : Cond.selects yX8_mustSign.cls yX8_mustSign yX8_mustSign ∈ gtbl := in_p3 (List.mem_of_getElem? (i := 0) (by decide +kernel) : (yX8_mustSign, 30) ∈ lw_privs_3)
abbrev mdX8_nameOf : Md := (yX8_nameOf, cX8_nameOf, 2, some .int)
theorem co_X8_nameOf : CalleeOk mdX8_nameOf 1 := ⟨by decide +kernel, by decide, mem_g (in_t5 (List.mem_of_getElem? (i := 158) rfl)) rfl, ini_RX8⟩
theorem im_X8_nameOf : Cond.instanceMethod yX8_nameOf ∈ gtbl := mem_g (in_t5 (List.mem_of_getElem? (i := 156) (by decide +kernel))) (by decide +kernel)
theorem se_X8_nameOf : Cond.selects yX8_nameOf.cls yX8_nameOf yX8_nameOf ∈ gtbl := mem_g (in_t5 (List.mem_of_getElem? (i := 157) (by decide +kernel))) (by decide +kernel)
abbrev mdX8_nextToken : Md := (yX8_nextToken, cX8_nextToken, 1, none)
theorem co_X8_nextToken : CalleeOk mdX8_nextToken 0 := ⟨by decide +kernel, by decide, mem_g (in_t5 (List.mem_of_getElem? (i := 39) rfl)) rfl, ini_RX8⟩
theorem im_X8_nextToken : Cond.instanceMethod yX8_nextToken ∈ gtbl := mem_g (in_t5 (List.mem_of_getElem? (i := 38) (by decide +kernel))) (by decide +kernel)
theorem se_X8_nextToken : Cond.selects yX8_nextToken.cls yX8_nextToken yX8_nextToken ∈ gtbl := in_p2 (List.mem_of_getElem? (i := 11) (by decide +kernel) : (yX8_nextToken, 30) ∈ lw_privs_2)
abbrev mdX8_number : Md := (yX8_number, cX8_number, 4, some .int)
theorem co_X8_number : CalleeOk mdX8_number 2 := ⟨by decide +kernel, by decide, mem_g (in_t5 (List.mem_of_getElem? (i := 60) rfl)) rfl, ini_RX8⟩
theorem im_X8_number : Cond.instanceMethod yX8_number ∈ gtbl := mem_g (in_t5 (List.mem_of_getElem? (i := 59) (by decide +kernel))) (by decide +kernel)
theorem se_X8_number : Cond.selects yX8_number.cls yX8_number yX8_number ∈ gtbl := in_p2 (List.mem_of_getElem? (i := 15) (by decide +kernel) : (yX8_number, 30) ∈ lw_privs_2)
abbrev mdX8_of : Md := (yX8_of, cX8_of, 3, some .int)
theorem co_X8_of : CalleeOk mdX8_of 3 := ⟨by decide +kernel, by decide, mem_g (in_t5 (List.mem_of_getElem? (i := 131) rfl)) rfl, ini_RX8⟩
theorem sm_X8_of : Cond.static yX8_of ∈ gtbl := mem_g (in_t5 (List.mem_of_getElem? (i := 130) (by decide +kernel))) (by decide +kernel)
abbrev mdX8_one : Md := (yX8_one, cX8_one, 6, some .int)
theorem co_X8_one : CalleeOk mdX8_one 2 := ⟨by decide +kernel, by decide, mem_g (in_t5 (List.mem_of_getElem? (i := 146) rfl)) rfl, ini_RX8⟩
theorem im_X8_one : Cond.instanceMethod yX8_one ∈ gtbl := mem_g (in_t5 (List.mem_of_getElem? (i := 144) (by decide +kernel))) (by decide +kernel)
theorem se_X8_one : Cond.selects yX8_one.cls yX8_one yX8_one ∈ gtbl := mem_g (in_t5 (List.mem_of_getElem? (i := 145) (by decide +kernel))) (by decide +kernel)
abbrev mdX8_openClaim : Md := (yX8_openClaim, cX8_openClaim, 6, some .int)
theorem co_X8_openClaim : CalleeOk mdX8_openClaim 2 := ⟨by decide +kernel, by decide, mem_g (in_t5 (List.mem_of_getElem? (i := 210) rfl)) rfl, ini_RX8⟩
theorem im_X8_openClaim : Cond.instanceMethod yX8_openClaim ∈ gtbl := mem_g (in_t5 (List.mem_of_getElem? (i := 209) (by decide +kernel))) (by decide +kernel)
theorem se_X8_openClaim : Cond.selects yX8_openClaim.cls yX8_openClaim yX8_openClaim ∈ gtbl := in_p4 (List.mem_of_getElem? (i := 1) (by decide +kernel) : (yX8_openClaim, 30) ∈ lw_privs_4)
abbrev mdX8_overlap : Md := (yX8_overlap, cX8_overlap, 3, some .int)
theorem co_X8_overlap : CalleeOk mdX8_overlap 2 := ⟨by decide +kernel, by decide, mem_g (in_t5 (List.mem_of_getElem? (i := 178) rfl)) rfl, ini_RX8⟩
theorem im_X8_overlap : Cond.instanceMethod yX8_overlap ∈ gtbl := mem_g (in_t5 (List.mem_of_getElem? (i := 176) (by decide +kernel))) (by decide +kernel)
theorem se_X8_overlap : Cond.selects yX8_overlap.cls yX8_overlap yX8_overlap ∈ gtbl := mem_g (in_t5 (List.mem_of_getElem? (i := 177) (by decide +kernel))) (by decide +kernel)
abbrev mdX8_paidIf : Md := (yX8_paidIf, cX8_paidIf, 5, some .int)
theorem co_X8_paidIf : CalleeOk mdX8_paidIf 4 := ⟨by decide +kernel, by decide, mem_g (in_t5 (List.mem_of_getElem? (i := 234) rfl)) rfl, ini_RX8⟩
theorem im_X8_paidIf : Cond.instanceMethod yX8_paidIf ∈ gtbl := mem_g (in_t5 (List.mem_of_getElem? (i := 232) (by decide +kernel))) (by decide +kernel)
theorem se_X8_paidIf : Cond.selects yX8_paidIf.cls yX8_paidIf yX8_paidIf ∈ gtbl := mem_g (in_t5 (List.mem_of_getElem? (i := 233) (by decide +kernel))) (by decide +kernel)
abbrev mdX8_pay : Md := (yX8_pay, cX8_pay, 4, none)
theorem co_X8_pay : CalleeOk mdX8_pay 1 := ⟨by decide +kernel, by decide, mem_g (in_t5 (List.mem_of_getElem? (i := 222) rfl)) rfl, ini_RX8⟩
theorem im_X8_pay : Cond.instanceMethod yX8_pay ∈ gtbl := mem_g (in_t5 (List.mem_of_getElem? (i := 221) (by decide +kernel))) (by decide +kernel)
theorem se_X8_pay : Cond.selects yX8_pay.cls yX8_pay yX8_pay ∈ gtbl := in_p4 (List.mem_of_getElem? (i := 4) (by decide +kernel) : (yX8_pay, 30) ∈ lw_privs_4)
abbrev mdX8_plainSize : Md := (yX8_plainSize, cX8_plainSize, 2, some .int)
theorem co_X8_plainSize : CalleeOk mdX8_plainSize 1 := ⟨by decide +kernel, by decide, mem_g (in_t6 (List.mem_of_getElem? (i := 129) rfl)) rfl, ini_RX8⟩
theorem im_X8_plainSize : Cond.instanceMethod yX8_plainSize ∈ gtbl := mem_g (in_t6 (List.mem_of_getElem? (i := 128) (by decide +kernel))) (by decide +kernel)
theorem se_X8_plainSize : Cond.selects yX8_plainSize.cls yX8_plainSize yX8_plainSize ∈ gtbl := in_p5 (List.mem_of_getElem? (i := 3) (by decide +kernel) : (yX8_plainSize, 30) ∈ lw_privs_5)
abbrev mdX8_pot : Md := (yX8_pot, cX8_pot, 3, some .int)
theorem co_X8_pot : CalleeOk mdX8_pot 1 := ⟨by decide +kernel, by decide, mem_g (in_t5 (List.mem_of_getElem? (i := 135) rfl)) rfl, ini_RX8⟩
theorem im_X8_pot : Cond.instanceMethod yX8_pot ∈ gtbl := mem_g (in_t5 (List.mem_of_getElem? (i := 133) (by decide +kernel))) (by decide +kernel)
theorem se_X8_pot : Cond.selects yX8_pot.cls yX8_pot yX8_pot ∈ gtbl := mem_g (in_t5 (List.mem_of_getElem? (i := 134) (by decide +kernel))) (by decide +kernel)
abbrev mdX8_potsOf : Md := (yX8_potsOf, cX8_potsOf, 6, some .int)
theorem co_X8_potsOf : CalleeOk mdX8_potsOf 2 := ⟨by decide +kernel, by decide, mem_g (in_t6 (List.mem_of_getElem? (i := 61) rfl)) rfl, ini_RX8⟩
theorem im_X8_potsOf : Cond.instanceMethod yX8_potsOf ∈ gtbl := mem_g (in_t6 (List.mem_of_getElem? (i := 60) (by decide +kernel))) (by decide +kernel)
theorem se_X8_potsOf : Cond.selects yX8_potsOf.cls yX8_potsOf yX8_potsOf ∈ gtbl := in_p4 (List.mem_of_getElem? (i := 12) (by decide +kernel) : (yX8_potsOf, 30) ∈ lw_privs_4)
abbrev mdX8_project : Md := (yX8_project, cX8_project, 3, some .int)
theorem co_X8_project : CalleeOk mdX8_project 2 := ⟨by decide +kernel, by decide, mem_g (in_t5 (List.mem_of_getElem? (i := 191) rfl)) rfl, ini_RX8⟩
theorem im_X8_project : Cond.instanceMethod yX8_project ∈ gtbl := mem_g (in_t5 (List.mem_of_getElem? (i := 189) (by decide +kernel))) (by decide +kernel)
theorem se_X8_project : Cond.selects yX8_project.cls yX8_project yX8_project ∈ gtbl := mem_g (in_t5 (List.mem_of_getElem? (i := 190) (by decide +kernel))) (by decide +kernel)
abbrev mdX8_put : Md := (yX8_put, cX8_put, 4, none)
theorem co_X8_put : CalleeOk mdX8_put 4 := ⟨by decide +kernel, by decide, mem_g (in_t5 (List.mem_of_getElem? (i := 86) rfl)) rfl, ini_RX8⟩
theorem sm_X8_put : Cond.static yX8_put ∈ gtbl := mem_g (in_t5 (List.mem_of_getElem? (i := 85) (by decide +kernel))) (by decide +kernel)
abbrev mdX8_readGift : Md := (yX8_readGift, cX8_readGift, 4, none)
theorem co_X8_readGift : CalleeOk mdX8_readGift 0 := ⟨by decide +kernel, by decide, mem_g (in_t5 (List.mem_of_getElem? (i := 83) rfl)) rfl, ini_RX8⟩
theorem im_X8_readGift : Cond.instanceMethod yX8_readGift ∈ gtbl := mem_g (in_t5 (List.mem_of_getElem? (i := 82) (by decide +kernel))) (by decide +kernel)
theorem se_X8_readGift : Cond.selects yX8_readGift.cls yX8_readGift yX8_readGift ∈ gtbl := in_p3 (List.mem_of_getElem? (i := 4) (by decide +kernel) : (yX8_readGift, 30) ∈ lw_privs_3)
abbrev mdX8_readProject : Md := (yX8_readProject, cX8_readProject, 2, none)
theorem co_X8_readProject : CalleeOk mdX8_readProject 0 := ⟨by decide +kernel, by decide, mem_g (in_t5 (List.mem_of_getElem? (i := 75) rfl)) rfl, ini_RX8⟩
theorem im_X8_readProject : Cond.instanceMethod yX8_readProject ∈ gtbl := mem_g (in_t5 (List.mem_of_getElem? (i := 74) (by decide +kernel))) (by decide +kernel)
theorem se_X8_readProject : Cond.selects yX8_readProject.cls yX8_readProject yX8_readProject ∈ gtbl := in_p3 (List.mem_of_getElem? (i := 2) (by decide +kernel) : (yX8_readProject, 30) ∈ lw_privs_3)
abbrev mdX8_reckon : Md := (yX8_reckon, cX8_reckon, 3, none)
theorem co_X8_reckon : CalleeOk mdX8_reckon 1 := ⟨by decide +kernel, by decide, mem_g (in_t5 (List.mem_of_getElem? (i := 195) rfl)) rfl, ini_RX8⟩
theorem im_X8_reckon : Cond.instanceMethod yX8_reckon ∈ gtbl := mem_g (in_t5 (List.mem_of_getElem? (i := 194) (by decide +kernel))) (by decide +kernel)
theorem se_X8_reckon : Cond.selects yX8_reckon.cls yX8_reckon yX8_reckon ∈ gtbl := in_p3 (List.mem_of_getElem? (i := 14) (by decide +kernel) : (yX8_reckon, 30) ∈ lw_privs_3)
abbrev mdX8_restore : Md := (yX8_restore, cX8_restore, 3, some .int)
theorem co_X8_restore : CalleeOk mdX8_restore 1 := ⟨by decide +kernel, by decide, mem_g (in_t6 (List.mem_of_getElem? (i := 98) rfl)) rfl, ini_RX8⟩
theorem im_X8_restore : Cond.instanceMethod yX8_restore ∈ gtbl := mem_g (in_t6 (List.mem_of_getElem? (i := 96) (by decide +kernel))) (by decide +kernel)
theorem se_X8_restore : Cond.selects yX8_restore.cls yX8_restore yX8_restore ∈ gtbl := mem_g (in_t6 (List.mem_of_getElem? (i := 97) (by decide +kernel))) (by decide +kernel)
abbrev mdX8_ring : Md := (yX8_ring, cX8_ring, 7, some .int)
theorem co_X8_ring : CalleeOk mdX8_ring 1 := ⟨by decide +kernel, by decide, mem_g (in_t6 (List.mem_of_getElem? (i := 30) rfl)) rfl, ini_RX8⟩
theorem im_X8_ring : Cond.instanceMethod yX8_ring ∈ gtbl := mem_g (in_t6 (List.mem_of_getElem? (i := 28) (by decide +kernel))) (by decide +kernel)
theorem se_X8_ring : Cond.selects yX8_ring.cls yX8_ring yX8_ring ∈ gtbl := mem_g (in_t6 (List.mem_of_getElem? (i := 29) (by decide +kernel))) (by decide +kernel)
abbrev mdX8_root : Md := (yX8_root, cX8_root, 2, some .int)
theorem co_X8_root : CalleeOk mdX8_root 1 := ⟨by decide +kernel, by decide, mem_g (in_t5 (List.mem_of_getElem? (i := 162) rfl)) rfl, ini_RX8⟩
theorem im_X8_root : Cond.instanceMethod yX8_root ∈ gtbl := mem_g (in_t5 (List.mem_of_getElem? (i := 160) (by decide +kernel))) (by decide +kernel)
theorem se_X8_root : Cond.selects yX8_root.cls yX8_root yX8_root ∈ gtbl := mem_g (in_t5 (List.mem_of_getElem? (i := 161) (by decide +kernel))) (by decide +kernel)
abbrev mdX8_rootOf : Md := (yX8_rootOf, cX8_rootOf, 4, some .int)
theorem co_X8_rootOf : CalleeOk mdX8_rootOf 1 := ⟨by decide +kernel, by decide, mem_g (in_t5 (List.mem_of_getElem? (i := 166) rfl)) rfl, ini_RX8⟩
theorem sm_X8_rootOf : Cond.static yX8_rootOf ∈ gtbl := mem_g (in_t5 (List.mem_of_getElem? (i := 165) (by decide +kernel))) (by decide +kernel)
abbrev mdX8_row : Md := (yX8_row, cX8_row, 5, some .int)
theorem co_X8_row : CalleeOk mdX8_row 3 := ⟨by decide +kernel, by decide, mem_g (in_t4 (List.mem_of_getElem? (i := 231) rfl)) rfl, ini_RX8⟩
theorem im_X8_row : Cond.instanceMethod yX8_row ∈ gtbl := mem_g (in_t4 (List.mem_of_getElem? (i := 229) (by decide +kernel))) (by decide +kernel)
theorem se_X8_row : Cond.selects yX8_row.cls yX8_row yX8_row ∈ gtbl := mem_g (in_t4 (List.mem_of_getElem? (i := 230) (by decide +kernel))) (by decide +kernel)
abbrev mdX8_rowFound : Md := (yX8_rowFound, cX8_rowFound, 4, some .int)
theorem co_X8_rowFound : CalleeOk mdX8_rowFound 3 := ⟨by decide +kernel, by decide, mem_g (in_t6 (List.mem_of_getElem? (i := 57) rfl)) rfl, ini_RX8⟩
theorem im_X8_rowFound : Cond.instanceMethod yX8_rowFound ∈ gtbl := mem_g (in_t6 (List.mem_of_getElem? (i := 56) (by decide +kernel))) (by decide +kernel)
theorem se_X8_rowFound : Cond.selects yX8_rowFound.cls yX8_rowFound yX8_rowFound ∈ gtbl := in_p4 (List.mem_of_getElem? (i := 11) (by decide +kernel) : (yX8_rowFound, 30) ∈ lw_privs_4)
abbrev mdX8_set : Md := (yX8_set, cX8_set, 4, some .int)
theorem co_X8_set : CalleeOk mdX8_set 3 := ⟨by decide +kernel, by decide, mem_g (in_t5 (List.mem_of_getElem? (i := 9) rfl)) rfl, ini_RX8⟩
theorem im_X8_set : Cond.instanceMethod yX8_set ∈ gtbl := mem_g (in_t5 (List.mem_of_getElem? (i := 7) (by decide +kernel))) (by decide +kernel)
theorem se_X8_set : Cond.selects yX8_set.cls yX8_set yX8_set ∈ gtbl := mem_g (in_t5 (List.mem_of_getElem? (i := 8) (by decide +kernel))) (by decide +kernel)
abbrev mdX8_sets : Md := (yX8_sets, cX8_sets, 9, some .int)
theorem co_X8_sets : CalleeOk mdX8_sets 2 := ⟨by decide +kernel, by decide, mem_g (in_t6 (List.mem_of_getElem? (i := 39) rfl)) rfl, ini_RX8⟩
theorem im_X8_sets : Cond.instanceMethod yX8_sets ∈ gtbl := mem_g (in_t6 (List.mem_of_getElem? (i := 37) (by decide +kernel))) (by decide +kernel)
theorem se_X8_sets : Cond.selects yX8_sets.cls yX8_sets yX8_sets ∈ gtbl := mem_g (in_t6 (List.mem_of_getElem? (i := 38) (by decide +kernel))) (by decide +kernel)
abbrev mdX8_sizeOf : Md := (yX8_sizeOf, cX8_sizeOf, 4, some .int)
theorem co_X8_sizeOf : CalleeOk mdX8_sizeOf 1 := ⟨by decide +kernel, by decide, mem_g (in_t6 (List.mem_of_getElem? (i := 117) rfl)) rfl, ini_RX8⟩
theorem im_X8_sizeOf : Cond.instanceMethod yX8_sizeOf ∈ gtbl := mem_g (in_t6 (List.mem_of_getElem? (i := 116) (by decide +kernel))) (by decide +kernel)
theorem se_X8_sizeOf : Cond.selects yX8_sizeOf.cls yX8_sizeOf yX8_sizeOf ∈ gtbl := in_p5 (List.mem_of_getElem? (i := 0) (by decide +kernel) : (yX8_sizeOf, 30) ∈ lw_privs_5)
abbrev mdX8_squareClaim : Md := (yX8_squareClaim, cX8_squareClaim, 5, some .int)
theorem co_X8_squareClaim : CalleeOk mdX8_squareClaim 1 := ⟨by decide +kernel, by decide, mem_g (in_t5 (List.mem_of_getElem? (i := 214) rfl)) rfl, ini_RX8⟩
theorem im_X8_squareClaim : Cond.instanceMethod yX8_squareClaim ∈ gtbl := mem_g (in_t5 (List.mem_of_getElem? (i := 213) (by decide +kernel))) (by decide +kernel)
theorem se_X8_squareClaim : Cond.selects yX8_squareClaim.cls yX8_squareClaim yX8_squareClaim ∈ gtbl := in_p4 (List.mem_of_getElem? (i := 2) (by decide +kernel) : (yX8_squareClaim, 30) ∈ lw_privs_4)
abbrev mdX8_stand : Md := (yX8_stand, cX8_stand, 2, some .int)
theorem co_X8_stand : CalleeOk mdX8_stand 1 := ⟨by decide +kernel, by decide, mem_g (in_t5 (List.mem_of_getElem? (i := 230) rfl)) rfl, ini_RX8⟩
theorem im_X8_stand : Cond.instanceMethod yX8_stand ∈ gtbl := mem_g (in_t5 (List.mem_of_getElem? (i := 228) (by decide +kernel))) (by decide +kernel)
theorem se_X8_stand : Cond.selects yX8_stand.cls yX8_stand yX8_stand ∈ gtbl := mem_g (in_t5 (List.mem_of_getElem? (i := 229) (by decide +kernel))) (by decide +kernel)
abbrev mdX8_status : Md := (yX8_status, cX8_status, 1, some .int)
theorem co_X8_status : CalleeOk mdX8_status 0 := ⟨by decide +kernel, by decide, mem_g (in_t6 (List.mem_of_getElem? (i := 145) rfl)) rfl, ini_RX8⟩
theorem im_X8_status : Cond.instanceMethod yX8_status ∈ gtbl := mem_g (in_t6 (List.mem_of_getElem? (i := 143) (by decide +kernel))) (by decide +kernel)
theorem se_X8_status : Cond.selects yX8_status.cls yX8_status yX8_status ∈ gtbl := mem_g (in_t6 (List.mem_of_getElem? (i := 144) (by decide +kernel))) (by decide +kernel)
abbrev mdX8_sum : Md := (yX8_sum, cX8_sum, 3, some .int)
theorem co_X8_sum : CalleeOk mdX8_sum 2 := ⟨by decide +kernel, by decide, mem_g (in_t5 (List.mem_of_getElem? (i := 170) rfl)) rfl, ini_RX8⟩
theorem im_X8_sum : Cond.instanceMethod yX8_sum ∈ gtbl := mem_g (in_t5 (List.mem_of_getElem? (i := 168) (by decide +kernel))) (by decide +kernel)
theorem se_X8_sum : Cond.selects yX8_sum.cls yX8_sum yX8_sum ∈ gtbl := mem_g (in_t5 (List.mem_of_getElem? (i := 169) (by decide +kernel))) (by decide +kernel)
abbrev mdX8_sumsOf : Md := (yX8_sumsOf, cX8_sumsOf, 4, some .int)
theorem co_X8_sumsOf : CalleeOk mdX8_sumsOf 1 := ⟨by decide +kernel, by decide, mem_g (in_t5 (List.mem_of_getElem? (i := 218) rfl)) rfl, ini_RX8⟩
theorem im_X8_sumsOf : Cond.instanceMethod yX8_sumsOf ∈ gtbl := mem_g (in_t5 (List.mem_of_getElem? (i := 217) (by decide +kernel))) (by decide +kernel)
theorem se_X8_sumsOf : Cond.selects yX8_sumsOf.cls yX8_sumsOf yX8_sumsOf ∈ gtbl := in_p4 (List.mem_of_getElem? (i := 3) (by decide +kernel) : (yX8_sumsOf, 30) ∈ lw_privs_4)
abbrev mdX8_term : Md := (yX8_term, cX8_term, 4, some .int)
theorem co_X8_term : CalleeOk mdX8_term 3 := ⟨by decide +kernel, by decide, mem_g (in_t5 (List.mem_of_getElem? (i := 182) rfl)) rfl, ini_RX8⟩
theorem im_X8_term : Cond.instanceMethod yX8_term ∈ gtbl := mem_g (in_t5 (List.mem_of_getElem? (i := 180) (by decide +kernel))) (by decide +kernel)
theorem se_X8_term : Cond.selects yX8_term.cls yX8_term yX8_term ∈ gtbl := mem_g (in_t5 (List.mem_of_getElem? (i := 181) (by decide +kernel))) (by decide +kernel)
abbrev mdX8_termOf : Md := (yX8_termOf, cX8_termOf, 7, some .int)
theorem co_X8_termOf : CalleeOk mdX8_termOf 4 := ⟨by decide +kernel, by decide, mem_g (in_t5 (List.mem_of_getElem? (i := 186) rfl)) rfl, ini_RX8⟩
theorem im_X8_termOf : Cond.instanceMethod yX8_termOf ∈ gtbl := mem_g (in_t5 (List.mem_of_getElem? (i := 185) (by decide +kernel))) (by decide +kernel)
theorem se_X8_termOf : Cond.selects yX8_termOf.cls yX8_termOf yX8_termOf ∈ gtbl := in_p3 (List.mem_of_getElem? (i := 13) (by decide +kernel) : (yX8_termOf, 30) ∈ lw_privs_3)
abbrev mdX8_trace : Md := (yX8_trace, cX8_trace, 2, some .int)
theorem co_X8_trace : CalleeOk mdX8_trace 1 := ⟨by decide +kernel, by decide, mem_g (in_t6 (List.mem_of_getElem? (i := 137) rfl)) rfl, ini_RX8⟩
theorem im_X8_trace : Cond.instanceMethod yX8_trace ∈ gtbl := mem_g (in_t6 (List.mem_of_getElem? (i := 135) (by decide +kernel))) (by decide +kernel)
theorem se_X8_trace : Cond.selects yX8_trace.cls yX8_trace yX8_trace ∈ gtbl := mem_g (in_t6 (List.mem_of_getElem? (i := 136) (by decide +kernel))) (by decide +kernel)
abbrev mdX8_undo : Md := (yX8_undo, cX8_undo, 2, some .int)
theorem co_X8_undo : CalleeOk mdX8_undo 0 := ⟨by decide +kernel, by decide, mem_g (in_t5 (List.mem_of_getElem? (i := 150) rfl)) rfl, ini_RX8⟩
theorem im_X8_undo : Cond.instanceMethod yX8_undo ∈ gtbl := mem_g (in_t5 (List.mem_of_getElem? (i := 148) (by decide +kernel))) (by decide +kernel)
theorem se_X8_undo : Cond.selects yX8_undo.cls yX8_undo yX8_undo ∈ gtbl := mem_g (in_t5 (List.mem_of_getElem? (i := 149) (by decide +kernel))) (by decide +kernel)
abbrev mdX8_who : Md := (yX8_who, cX8_who, 7, some .int)
theorem co_X8_who : CalleeOk mdX8_who 4 := ⟨by decide +kernel, by decide, mem_g (in_t6 (List.mem_of_getElem? (i := 53) rfl)) rfl, ini_RX8⟩
theorem im_X8_who : Cond.instanceMethod yX8_who ∈ gtbl := mem_g (in_t6 (List.mem_of_getElem? (i := 51) (by decide +kernel))) (by decide +kernel)
theorem se_X8_who : Cond.selects yX8_who.cls yX8_who yX8_who ∈ gtbl := mem_g (in_t6 (List.mem_of_getElem? (i := 52) (by decide +kernel))) (by decide +kernel)
theorem ml_RX0_32 : Cond.methodLink RX0 32 Lib.Math.min.name ∈ gtbl := mem_g (in_t2 (List.mem_of_getElem? (i := 238) (by decide +kernel))) (by decide +kernel)
theorem ml_RX0_43 : Cond.methodLink RX0 43 yX4_takeGift ∈ gtbl := mem_g (in_t2 (List.mem_of_getElem? (i := 213) (by decide +kernel))) (by decide +kernel)
theorem ml_RX0_47 : Cond.methodLink RX0 47 yX4_putGift ∈ gtbl := mem_g (in_t2 (List.mem_of_getElem? (i := 217) (by decide +kernel))) (by decide +kernel)
theorem ml_RX0_57 : Cond.methodLink RX0 57 yX4_rename ∈ gtbl := mem_g (in_t2 (List.mem_of_getElem? (i := 218) (by decide +kernel))) (by decide +kernel)
theorem ml_RX1_26 : Cond.methodLink RX1 26 yX1_size ∈ gtbl := mem_g (in_t4 (List.mem_of_getElem? (i := 80) (by decide +kernel))) (by decide +kernel)
theorem ml_RX1_30 : Cond.methodLink RX1 30 yX1_mark ∈ gtbl := mem_g (in_t4 (List.mem_of_getElem? (i := 99) (by decide +kernel))) (by decide +kernel)
theorem ml_RX1_36 : Cond.methodLink RX1 36 yX1_bodyFor ∈ gtbl := mem_g (in_t4 (List.mem_of_getElem? (i := 86) (by decide +kernel))) (by decide +kernel)
theorem ml_RX1_40 : Cond.methodLink RX1 40 yX1_sizeBy ∈ gtbl := mem_g (in_t4 (List.mem_of_getElem? (i := 91) (by decide +kernel))) (by decide +kernel)
theorem ml_RX1_47 : Cond.methodLink RX1 47 yX1_markBy ∈ gtbl := mem_g (in_t4 (List.mem_of_getElem? (i := 105) (by decide +kernel))) (by decide +kernel)
theorem ml_RX1_58 : Cond.methodLink RX1 58 yX1_leaveNumber ∈ gtbl := mem_g (in_t4 (List.mem_of_getElem? (i := 95) (by decide +kernel))) (by decide +kernel)
theorem ml_RX2_102 : Cond.methodLink RX2 102 yX2_share ∈ gtbl := mem_g (in_t3 (List.mem_of_getElem? (i := 116) (by decide +kernel))) (by decide +kernel)
theorem ml_RX2_105 : Cond.methodLink RX2 105 Lib.Math.max.name ∈ gtbl := mem_g (in_t3 (List.mem_of_getElem? (i := 112) (by decide +kernel))) (by decide +kernel)
theorem ml_RX2_110 : Cond.methodLink RX2 110 Lib.Math.min.name ∈ gtbl := mem_g (in_t3 (List.mem_of_getElem? (i := 115) (by decide +kernel))) (by decide +kernel)
theorem ml_RX2_116 : Cond.methodLink RX2 116 yX2_gives ∈ gtbl := mem_g (in_t3 (List.mem_of_getElem? (i := 93) (by decide +kernel))) (by decide +kernel)
theorem ml_RX2_120 : Cond.methodLink RX2 120 yX2_weighPair ∈ gtbl := mem_g (in_t3 (List.mem_of_getElem? (i := 98) (by decide +kernel))) (by decide +kernel)
theorem ml_RX2_124 : Cond.methodLink RX2 124 yX2_overlapOf ∈ gtbl := mem_g (in_t3 (List.mem_of_getElem? (i := 102) (by decide +kernel))) (by decide +kernel)
theorem ml_RX2_127 : Cond.methodLink RX2 127 yX2_termOf ∈ gtbl := mem_g (in_t3 (List.mem_of_getElem? (i := 103) (by decide +kernel))) (by decide +kernel)
theorem ml_RX2_71 : Cond.methodLink RX2 71 yX2_rootOf ∈ gtbl := mem_g (in_t3 (List.mem_of_getElem? (i := 53) (by decide +kernel))) (by decide +kernel)
theorem ml_RX2_75 : Cond.methodLink RX2 75 yX2_lay ∈ gtbl := mem_g (in_t3 (List.mem_of_getElem? (i := 84) (by decide +kernel))) (by decide +kernel)
theorem ml_RX2_80 : Cond.methodLink RX2 80 yX2_join ∈ gtbl := mem_g (in_t3 (List.mem_of_getElem? (i := 85) (by decide +kernel))) (by decide +kernel)
theorem ml_RX2_84 : Cond.methodLink RX2 84 yX2_weigh ∈ gtbl := mem_g (in_t3 (List.mem_of_getElem? (i := 89) (by decide +kernel))) (by decide +kernel)
theorem ml_RX2_88 : Cond.methodLink RX2 88 yX2_sumFrom ∈ gtbl := mem_g (in_t3 (List.mem_of_getElem? (i := 97) (by decide +kernel))) (by decide +kernel)
theorem ml_RX2_99 : Cond.methodLink RX2 99 yX2_claimOf ∈ gtbl := mem_g (in_t3 (List.mem_of_getElem? (i := 108) (by decide +kernel))) (by decide +kernel)
theorem ml_RX3_104 : Cond.methodLink RX3 104 yX2_share ∈ gtbl := mem_g (in_t3 (List.mem_of_getElem? (i := 239) (by decide +kernel))) (by decide +kernel)
theorem ml_RX3_107 : Cond.methodLink RX3 107 yX3_isAsExpected ∈ gtbl := mem_g (in_t4 (List.mem_of_getElem? (i := 0) (by decide +kernel))) (by decide +kernel)
theorem ml_RX3_123 : Cond.methodLink RX3 123 yX3_casesPaid ∈ gtbl := mem_g (in_t4 (List.mem_of_getElem? (i := 21) (by decide +kernel))) (by decide +kernel)
theorem ml_RX3_129 : Cond.methodLink RX3 129 yX3_greatestCommon ∈ gtbl := mem_g (in_t4 (List.mem_of_getElem? (i := 26) (by decide +kernel))) (by decide +kernel)
theorem ml_RX3_135 : Cond.methodLink RX3 135 yX4_becomeLike ∈ gtbl := mem_g (in_t4 (List.mem_of_getElem? (i := 39) (by decide +kernel))) (by decide +kernel)
theorem ml_RX3_142 : Cond.methodLink RX3 142 yX3_redraw ∈ gtbl := mem_g (in_t4 (List.mem_of_getElem? (i := 42) (by decide +kernel))) (by decide +kernel)
theorem ml_RX3_146 : Cond.methodLink RX3 146 yX2_allPaid ∈ gtbl := mem_g (in_t4 (List.mem_of_getElem? (i := 50) (by decide +kernel))) (by decide +kernel)
theorem ml_RX3_32 : Cond.methodLink RX3 32 yX2_load ∈ gtbl := mem_g (in_t3 (List.mem_of_getElem? (i := 140) (by decide +kernel))) (by decide +kernel)
theorem ml_RX3_41 : Cond.methodLink RX3 41 yX2_add ∈ gtbl := mem_g (in_t3 (List.mem_of_getElem? (i := 141) (by decide +kernel))) (by decide +kernel)
theorem ml_RX3_45 : Cond.methodLink RX3 45 yX2_settle ∈ gtbl := mem_g (in_t3 (List.mem_of_getElem? (i := 145) (by decide +kernel))) (by decide +kernel)
theorem ml_RX3_51 : Cond.methodLink RX3 51 arraycopyName ∈ gtbl := mem_g (in_t3 (List.mem_of_getElem? (i := 154) (by decide +kernel))) (by decide +kernel)
theorem ml_RX3_61 : Cond.methodLink RX3 61 yX2_claimOf ∈ gtbl := mem_g (in_t3 (List.mem_of_getElem? (i := 163) (by decide +kernel))) (by decide +kernel)
theorem ml_RX3_66 : Cond.methodLink RX3 66 yX2_gives ∈ gtbl := mem_g (in_t3 (List.mem_of_getElem? (i := 173) (by decide +kernel))) (by decide +kernel)
theorem ml_RX3_70 : Cond.methodLink RX3 70 yX2_leave ∈ gtbl := mem_g (in_t3 (List.mem_of_getElem? (i := 174) (by decide +kernel))) (by decide +kernel)
theorem ml_RX3_74 : Cond.methodLink RX3 74 yX2_join ∈ gtbl := mem_g (in_t3 (List.mem_of_getElem? (i := 178) (by decide +kernel))) (by decide +kernel)
theorem ml_RX3_77 : Cond.methodLink RX3 77 yX2_lay ∈ gtbl := mem_g (in_t3 (List.mem_of_getElem? (i := 187) (by decide +kernel))) (by decide +kernel)
theorem ml_RX3_80 : Cond.methodLink RX3 80 yX2_overlapOf ∈ gtbl := mem_g (in_t3 (List.mem_of_getElem? (i := 188) (by decide +kernel))) (by decide +kernel)
theorem ml_RX3_84 : Cond.methodLink RX3 84 yX3_paidTogether ∈ gtbl := mem_g (in_t3 (List.mem_of_getElem? (i := 205) (by decide +kernel))) (by decide +kernel)
theorem ml_RX3_87 : Cond.methodLink RX3 87 yX3_turnsFrom ∈ gtbl := mem_g (in_t3 (List.mem_of_getElem? (i := 217) (by decide +kernel))) (by decide +kernel)
theorem ml_RX3_91 : Cond.methodLink RX3 91 Lib.Math.max.name ∈ gtbl := mem_g (in_t3 (List.mem_of_getElem? (i := 221) (by decide +kernel))) (by decide +kernel)
theorem ml_RX3_96 : Cond.methodLink RX3 96 Lib.Math.min.name ∈ gtbl := mem_g (in_t3 (List.mem_of_getElem? (i := 222) (by decide +kernel))) (by decide +kernel)
theorem ml_RX3_99 : Cond.methodLink RX3 99 yX5_itemAt ∈ gtbl := mem_g (in_t3 (List.mem_of_getElem? (i := 231) (by decide +kernel))) (by decide +kernel)
theorem ml_RX4_44 : Cond.methodLink RX4 44 arraycopyName ∈ gtbl := mem_g (in_t2 (List.mem_of_getElem? (i := 195) (by decide +kernel))) (by decide +kernel)
theorem ml_RX5_19 : Cond.methodLink RX5 19 arraycopyName ∈ gtbl := mem_g (in_t2 (List.mem_of_getElem? (i := 115) (by decide +kernel))) (by decide +kernel)
theorem ml_RX5_25 : Cond.methodLink RX5 25 yX5_isMissing ∈ gtbl := mem_g (in_t4 (List.mem_of_getElem? (i := 122) (by decide +kernel))) (by decide +kernel)
theorem ml_RX6_22 : Cond.methodLink RX6 22 yX4_beginAnew ∈ gtbl := mem_g (in_t2 (List.mem_of_getElem? (i := 143) (by decide +kernel))) (by decide +kernel)
theorem ml_RX6_27 : Cond.methodLink RX6 27 yX6_readLaw ∈ gtbl := mem_g (in_t2 (List.mem_of_getElem? (i := 147) (by decide +kernel))) (by decide +kernel)
theorem ml_RX6_31 : Cond.methodLink RX6 31 yX6_readProjects ∈ gtbl := mem_g (in_t2 (List.mem_of_getElem? (i := 171) (by decide +kernel))) (by decide +kernel)
theorem ml_RX6_34 : Cond.methodLink RX6 34 yX6_readGifts ∈ gtbl := mem_g (in_t2 (List.mem_of_getElem? (i := 178) (by decide +kernel))) (by decide +kernel)
theorem ml_RX6_37 : Cond.methodLink RX6 37 yX6_readSign ∈ gtbl := mem_g (in_t2 (List.mem_of_getElem? (i := 151) (by decide +kernel))) (by decide +kernel)
theorem ml_RX6_41 : Cond.methodLink RX6 41 yX6_readNumber ∈ gtbl := mem_g (in_t2 (List.mem_of_getElem? (i := 163) (by decide +kernel))) (by decide +kernel)
theorem ml_RX6_54 : Cond.methodLink RX6 54 yX6_byteHere ∈ gtbl := mem_g (in_t2 (List.mem_of_getElem? (i := 155) (by decide +kernel))) (by decide +kernel)
theorem ml_RX6_58 : Cond.methodLink RX6 58 yX6_kindTold ∈ gtbl := mem_g (in_t2 (List.mem_of_getElem? (i := 175) (by decide +kernel))) (by decide +kernel)
theorem ml_RX6_65 : Cond.methodLink RX6 65 yX6_fails ∈ gtbl := mem_g (in_t2 (List.mem_of_getElem? (i := 159) (by decide +kernel))) (by decide +kernel)
theorem ml_RX6_75 : Cond.methodLink RX6 75 yX6_readGift ∈ gtbl := mem_g (in_t2 (List.mem_of_getElem? (i := 182) (by decide +kernel))) (by decide +kernel)
theorem ml_RX6_78 : Cond.methodLink RX6 78 yX4_putGift ∈ gtbl := mem_g (in_t2 (List.mem_of_getElem? (i := 186) (by decide +kernel))) (by decide +kernel)
theorem ml_RX6_82 : Cond.methodLink RX6 82 yX6_isFigure ∈ gtbl := mem_g (in_t2 (List.mem_of_getElem? (i := 167) (by decide +kernel))) (by decide +kernel)
theorem ml_RX7_103 : Cond.methodLink RX7 103 yX5_move ∈ gtbl := mem_g (in_t2 (List.mem_of_getElem? (i := 111) (by decide +kernel))) (by decide +kernel)
theorem ml_RX7_107 : Cond.methodLink RX7 107 yX5_lose ∈ gtbl := mem_g (in_t2 (List.mem_of_getElem? (i := 122) (by decide +kernel))) (by decide +kernel)
theorem ml_RX7_110 : Cond.methodLink RX7 110 yX6_append ∈ gtbl := mem_g (in_t2 (List.mem_of_getElem? (i := 130) (by decide +kernel))) (by decide +kernel)
theorem ml_RX7_118 : Cond.methodLink RX7 118 yX6_readInto ∈ gtbl := mem_g (in_t2 (List.mem_of_getElem? (i := 139) (by decide +kernel))) (by decide +kernel)
theorem ml_RX7_132 : Cond.methodLink RX7 132 yX4_becomeLike ∈ gtbl := mem_g (in_t2 (List.mem_of_getElem? (i := 191) (by decide +kernel))) (by decide +kernel)
theorem ml_RX7_136 : Cond.methodLink RX7 136 yX0_forgetAll ∈ gtbl := mem_g (in_t2 (List.mem_of_getElem? (i := 196) (by decide +kernel))) (by decide +kernel)
theorem ml_RX7_146 : Cond.methodLink RX7 146 yX0_revertLatest ∈ gtbl := mem_g (in_t2 (List.mem_of_getElem? (i := 209) (by decide +kernel))) (by decide +kernel)
theorem ml_RX7_149 : Cond.methodLink RX7 149 yX7_isGiver ∈ gtbl := mem_g (in_t2 (List.mem_of_getElem? (i := 226) (by decide +kernel))) (by decide +kernel)
theorem ml_RX7_152 : Cond.methodLink RX7 152 yX7_isProject ∈ gtbl := mem_g (in_t2 (List.mem_of_getElem? (i := 229) (by decide +kernel))) (by decide +kernel)
theorem ml_RX7_158 : Cond.methodLink RX7 158 yX4_putGift ∈ gtbl := mem_g (in_t2 (List.mem_of_getElem? (i := 233) (by decide +kernel))) (by decide +kernel)
theorem ml_RX7_162 : Cond.methodLink RX7 162 yX0_keep ∈ gtbl := mem_g (in_t2 (List.mem_of_getElem? (i := 234) (by decide +kernel))) (by decide +kernel)
theorem ml_RX7_165 : Cond.methodLink RX7 165 yX7_isGift ∈ gtbl := mem_g (in_t3 (List.mem_of_getElem? (i := 5) (by decide +kernel))) (by decide +kernel)
theorem ml_RX7_177 : Cond.methodLink RX7 177 yX4_takeGift ∈ gtbl := mem_g (in_t3 (List.mem_of_getElem? (i := 9) (by decide +kernel))) (by decide +kernel)
theorem ml_RX7_191 : Cond.methodLink RX7 191 yX7_areTwoGivers ∈ gtbl := mem_g (in_t3 (List.mem_of_getElem? (i := 22) (by decide +kernel))) (by decide +kernel)
theorem ml_RX7_198 : Cond.methodLink RX7 198 yX4_giversNamed ∈ gtbl := mem_g (in_t3 (List.mem_of_getElem? (i := 25) (by decide +kernel))) (by decide +kernel)
theorem ml_RX7_201 : Cond.methodLink RX7 201 yX4_rename ∈ gtbl := mem_g (in_t3 (List.mem_of_getElem? (i := 29) (by decide +kernel))) (by decide +kernel)
theorem ml_RX7_205 : Cond.methodLink RX7 205 yX2_rootOf ∈ gtbl := mem_g (in_t3 (List.mem_of_getElem? (i := 42) (by decide +kernel))) (by decide +kernel)
theorem ml_RX7_208 : Cond.methodLink RX7 208 yX2_lay ∈ gtbl := mem_g (in_t3 (List.mem_of_getElem? (i := 49) (by decide +kernel))) (by decide +kernel)
theorem ml_RX7_210 : Cond.methodLink RX7 210 yX2_sumFrom ∈ gtbl := mem_g (in_t3 (List.mem_of_getElem? (i := 54) (by decide +kernel))) (by decide +kernel)
theorem ml_RX7_214 : Cond.methodLink RX7 214 yX2_overlapOf ∈ gtbl := mem_g (in_t3 (List.mem_of_getElem? (i := 62) (by decide +kernel))) (by decide +kernel)
theorem ml_RX7_217 : Cond.methodLink RX7 217 yX2_termOf ∈ gtbl := mem_g (in_t3 (List.mem_of_getElem? (i := 70) (by decide +kernel))) (by decide +kernel)
theorem ml_RX7_221 : Cond.methodLink RX7 221 yX2_load ∈ gtbl := mem_g (in_t3 (List.mem_of_getElem? (i := 80) (by decide +kernel))) (by decide +kernel)
theorem ml_RX7_224 : Cond.methodLink RX7 224 yX2_settle ∈ gtbl := mem_g (in_t3 (List.mem_of_getElem? (i := 104) (by decide +kernel))) (by decide +kernel)
theorem ml_RX7_233 : Cond.methodLink RX7 233 yX2_giversTo ∈ gtbl := mem_g (in_t3 (List.mem_of_getElem? (i := 120) (by decide +kernel))) (by decide +kernel)
theorem ml_RX7_239 : Cond.methodLink RX7 239 yX2_allPaid ∈ gtbl := mem_g (in_t3 (List.mem_of_getElem? (i := 128) (by decide +kernel))) (by decide +kernel)
theorem ml_RX7_246 : Cond.methodLink RX7 246 yX3_paidWith ∈ gtbl := mem_g (in_t3 (List.mem_of_getElem? (i := 136) (by decide +kernel))) (by decide +kernel)
theorem ml_RX7_249 : Cond.methodLink RX7 249 yX3_bestTarget ∈ gtbl := mem_g (in_t3 (List.mem_of_getElem? (i := 150) (by decide +kernel))) (by decide +kernel)
theorem ml_RX7_252 : Cond.methodLink RX7 252 yX3_leastCoins ∈ gtbl := mem_g (in_t3 (List.mem_of_getElem? (i := 159) (by decide +kernel))) (by decide +kernel)
theorem ml_RX7_255 : Cond.methodLink RX7 255 yX3_mostMissed ∈ gtbl := mem_g (in_t3 (List.mem_of_getElem? (i := 169) (by decide +kernel))) (by decide +kernel)
theorem ml_RX7_258 : Cond.methodLink RX7 258 yX3_likestRing ∈ gtbl := mem_g (in_t3 (List.mem_of_getElem? (i := 183) (by decide +kernel))) (by decide +kernel)
theorem ml_RX7_261 : Cond.methodLink RX7 261 yX3_bestHalves ∈ gtbl := mem_g (in_t3 (List.mem_of_getElem? (i := 193) (by decide +kernel))) (by decide +kernel)
theorem ml_RX7_265 : Cond.methodLink RX7 265 yX3_setsPaid ∈ gtbl := mem_g (in_t3 (List.mem_of_getElem? (i := 201) (by decide +kernel))) (by decide +kernel)
theorem ml_RX7_268 : Cond.methodLink RX7 268 yX3_outcomeOfTurns ∈ gtbl := mem_g (in_t3 (List.mem_of_getElem? (i := 213) (by decide +kernel))) (by decide +kernel)
theorem ml_RX7_271 : Cond.methodLink RX7 271 yX3_expect ∈ gtbl := mem_g (in_t3 (List.mem_of_getElem? (i := 227) (by decide +kernel))) (by decide +kernel)
theorem ml_RX7_275 : Cond.methodLink RX7 275 yX3_fittingPots ∈ gtbl := mem_g (in_t3 (List.mem_of_getElem? (i := 235) (by decide +kernel))) (by decide +kernel)
theorem ml_RX7_279 : Cond.methodLink RX7 279 yX3_fittingKinds ∈ gtbl := mem_g (in_t4 (List.mem_of_getElem? (i := 4) (by decide +kernel))) (by decide +kernel)
theorem ml_RX7_282 : Cond.methodLink RX7 282 yX3_fittingCoins ∈ gtbl := mem_g (in_t4 (List.mem_of_getElem? (i := 8) (by decide +kernel))) (by decide +kernel)
theorem ml_RX7_288 : Cond.methodLink RX7 288 yX3_chance ∈ gtbl := mem_g (in_t4 (List.mem_of_getElem? (i := 17) (by decide +kernel))) (by decide +kernel)
theorem ml_RX7_293 : Cond.methodLink RX7 293 yX3_years ∈ gtbl := mem_g (in_t4 (List.mem_of_getElem? (i := 35) (by decide +kernel))) (by decide +kernel)
theorem ml_RX7_296 : Cond.methodLink RX7 296 yX7_isOfKind ∈ gtbl := mem_g (in_t4 (List.mem_of_getElem? (i := 67) (by decide +kernel))) (by decide +kernel)
theorem ml_RX7_299 : Cond.methodLink RX7 299 yX1_answer ∈ gtbl := mem_g (in_t4 (List.mem_of_getElem? (i := 76) (by decide +kernel))) (by decide +kernel)
theorem ml_RX7_309 : Cond.methodLink RX7 309 yX5_howMany ∈ gtbl := mem_g (in_t4 (List.mem_of_getElem? (i := 118) (by decide +kernel))) (by decide +kernel)
theorem ml_RX7_312 : Cond.methodLink RX7 312 yX4_allCoins ∈ gtbl := mem_g (in_t4 (List.mem_of_getElem? (i := 123) (by decide +kernel))) (by decide +kernel)
theorem ml_RX7_69 : Cond.methodLink RX7 69 yX5_isRow ∈ gtbl := mem_g (in_t2 (List.mem_of_getElem? (i := 71) (by decide +kernel))) (by decide +kernel)
theorem ml_RX7_73 : Cond.methodLink RX7 73 yX7_within ∈ gtbl := mem_g (in_t2 (List.mem_of_getElem? (i := 74) (by decide +kernel))) (by decide +kernel)
theorem ml_RX7_78 : Cond.methodLink RX7 78 yX7_found ∈ gtbl := mem_g (in_t2 (List.mem_of_getElem? (i := 78) (by decide +kernel))) (by decide +kernel)
theorem ml_RX7_82 : Cond.methodLink RX7 82 yX5_lay ∈ gtbl := mem_g (in_t2 (List.mem_of_getElem? (i := 83) (by decide +kernel))) (by decide +kernel)
theorem ml_RX7_86 : Cond.methodLink RX7 86 yX7_unmarred ∈ gtbl := mem_g (in_t2 (List.mem_of_getElem? (i := 87) (by decide +kernel))) (by decide +kernel)
theorem ml_RX7_89 : Cond.methodLink RX7 89 yX5_isMissing ∈ gtbl := mem_g (in_t2 (List.mem_of_getElem? (i := 95) (by decide +kernel))) (by decide +kernel)
theorem ml_RX7_92 : Cond.methodLink RX7 92 yX5_hasPlaces ∈ gtbl := mem_g (in_t2 (List.mem_of_getElem? (i := 99) (by decide +kernel))) (by decide +kernel)
theorem ml_RX7_95 : Cond.methodLink RX7 95 yX5_store ∈ gtbl := mem_g (in_t2 (List.mem_of_getElem? (i := 103) (by decide +kernel))) (by decide +kernel)
theorem ml_RX8_120 : Cond.methodLink RX8 120 yX8_bad ∈ gtbl := mem_g (in_t5 (List.mem_of_getElem? (i := 53) (by decide +kernel))) (by decide +kernel)
theorem ml_RX8_124 : Cond.methodLink RX8 124 yX8_nextToken ∈ gtbl := mem_g (in_t5 (List.mem_of_getElem? (i := 36) (by decide +kernel))) (by decide +kernel)
theorem ml_RX8_127 : Cond.methodLink RX8 127 yX8_must ∈ gtbl := mem_g (in_t5 (List.mem_of_getElem? (i := 49) (by decide +kernel))) (by decide +kernel)
theorem ml_RX8_134 : Cond.methodLink RX8 134 yX8_kindBy ∈ gtbl := mem_g (in_t5 (List.mem_of_getElem? (i := 69) (by decide +kernel))) (by decide +kernel)
theorem ml_RX8_137 : Cond.methodLink RX8 137 yX8_mustSign ∈ gtbl := mem_g (in_t5 (List.mem_of_getElem? (i := 61) (by decide +kernel))) (by decide +kernel)
theorem ml_RX8_140 : Cond.methodLink RX8 140 yX8_number ∈ gtbl := mem_g (in_t5 (List.mem_of_getElem? (i := 57) (by decide +kernel))) (by decide +kernel)
theorem ml_RX8_144 : Cond.methodLink RX8 144 yX8_put ∈ gtbl := mem_g (in_t5 (List.mem_of_getElem? (i := 84) (by decide +kernel))) (by decide +kernel)
theorem ml_RX8_148 : Cond.methodLink RX8 148 yX8_begin ∈ gtbl := mem_g (in_t5 (List.mem_of_getElem? (i := 32) (by decide +kernel))) (by decide +kernel)
theorem ml_RX8_151 : Cond.methodLink RX8 151 yX8_isLetter ∈ gtbl := mem_g (in_t5 (List.mem_of_getElem? (i := 45) (by decide +kernel))) (by decide +kernel)
theorem ml_RX8_154 : Cond.methodLink RX8 154 yX8_isSort ∈ gtbl := mem_g (in_t5 (List.mem_of_getElem? (i := 65) (by decide +kernel))) (by decide +kernel)
theorem ml_RX8_158 : Cond.methodLink RX8 158 yX8_readProject ∈ gtbl := mem_g (in_t5 (List.mem_of_getElem? (i := 72) (by decide +kernel))) (by decide +kernel)
theorem ml_RX8_161 : Cond.methodLink RX8 161 yX8_isGift ∈ gtbl := mem_g (in_t5 (List.mem_of_getElem? (i := 76) (by decide +kernel))) (by decide +kernel)
theorem ml_RX8_164 : Cond.methodLink RX8 164 yX8_readGift ∈ gtbl := mem_g (in_t5 (List.mem_of_getElem? (i := 80) (by decide +kernel))) (by decide +kernel)
theorem ml_RX8_167 : Cond.methodLink RX8 167 yX8_failed ∈ gtbl := mem_g (in_t5 (List.mem_of_getElem? (i := 90) (by decide +kernel))) (by decide +kernel)
theorem ml_RX8_174 : Cond.methodLink RX8 174 yX8_isThere ∈ gtbl := mem_g (in_t5 (List.mem_of_getElem? (i := 107) (by decide +kernel))) (by decide +kernel)
theorem ml_RX8_179 : Cond.methodLink RX8 179 yX8_lay ∈ gtbl := mem_g (in_t5 (List.mem_of_getElem? (i := 87) (by decide +kernel))) (by decide +kernel)
theorem ml_RX8_183 : Cond.methodLink RX8 183 yX8_of ∈ gtbl := mem_g (in_t5 (List.mem_of_getElem? (i := 129) (by decide +kernel))) (by decide +kernel)
theorem ml_RX8_187 : Cond.methodLink RX8 187 yX8_rootOf ∈ gtbl := mem_g (in_t5 (List.mem_of_getElem? (i := 164) (by decide +kernel))) (by decide +kernel)
theorem ml_RX8_192 : Cond.methodLink RX8 192 yX8_termOf ∈ gtbl := mem_g (in_t5 (List.mem_of_getElem? (i := 183) (by decide +kernel))) (by decide +kernel)
theorem ml_RX8_196 : Cond.methodLink RX8 196 yX8_sumsOf ∈ gtbl := mem_g (in_t5 (List.mem_of_getElem? (i := 215) (by decide +kernel))) (by decide +kernel)
theorem ml_RX8_199 : Cond.methodLink RX8 199 yX8_giversOf ∈ gtbl := mem_g (in_t5 (List.mem_of_getElem? (i := 200) (by decide +kernel))) (by decide +kernel)
theorem ml_RX8_202 : Cond.methodLink RX8 202 yX8_bits ∈ gtbl := mem_g (in_t5 (List.mem_of_getElem? (i := 204) (by decide +kernel))) (by decide +kernel)
theorem ml_RX8_205 : Cond.methodLink RX8 205 yX8_openClaim ∈ gtbl := mem_g (in_t5 (List.mem_of_getElem? (i := 207) (by decide +kernel))) (by decide +kernel)
theorem ml_RX8_209 : Cond.methodLink RX8 209 yX8_squareClaim ∈ gtbl := mem_g (in_t5 (List.mem_of_getElem? (i := 211) (by decide +kernel))) (by decide +kernel)
theorem ml_RX8_212 : Cond.methodLink RX8 212 yX8_claimsTogether ∈ gtbl := mem_g (in_t5 (List.mem_of_getElem? (i := 223) (by decide +kernel))) (by decide +kernel)
theorem ml_RX8_219 : Cond.methodLink RX8 219 yX8_lookAt ∈ gtbl := mem_g (in_t5 (List.mem_of_getElem? (i := 171) (by decide +kernel))) (by decide +kernel)
theorem ml_RX8_223 : Cond.methodLink RX8 223 yX8_claimOf ∈ gtbl := mem_g (in_t5 (List.mem_of_getElem? (i := 196) (by decide +kernel))) (by decide +kernel)
theorem ml_RX8_226 : Cond.methodLink RX8 226 yX8_pay ∈ gtbl := mem_g (in_t5 (List.mem_of_getElem? (i := 219) (by decide +kernel))) (by decide +kernel)
theorem ml_RX8_229 : Cond.methodLink RX8 229 yX8_layThen ∈ gtbl := mem_g (in_t5 (List.mem_of_getElem? (i := 239) (by decide +kernel))) (by decide +kernel)
theorem ml_RX8_232 : Cond.methodLink RX8 232 yX8_reckon ∈ gtbl := mem_g (in_t5 (List.mem_of_getElem? (i := 192) (by decide +kernel))) (by decide +kernel)
theorem ml_RX8_235 : Cond.methodLink RX8 235 yX8_isGiver ∈ gtbl := mem_g (in_t5 (List.mem_of_getElem? (i := 103) (by decide +kernel))) (by decide +kernel)
theorem ml_RX8_238 : Cond.methodLink RX8 238 yX8_isProject ∈ gtbl := mem_g (in_t5 (List.mem_of_getElem? (i := 112) (by decide +kernel))) (by decide +kernel)
theorem ml_RX8_241 : Cond.methodLink RX8 241 yX8_isGiving ∈ gtbl := mem_g (in_t5 (List.mem_of_getElem? (i := 99) (by decide +kernel))) (by decide +kernel)
theorem ml_RX8_247 : Cond.methodLink RX8 247 yX8_keep ∈ gtbl := mem_g (in_t5 (List.mem_of_getElem? (i := 117) (by decide +kernel))) (by decide +kernel)
theorem ml_RX8_250 : Cond.methodLink RX8 250 yX8_isGiftAt ∈ gtbl := mem_g (in_t5 (List.mem_of_getElem? (i := 125) (by decide +kernel))) (by decide +kernel)
theorem ml_RX8_260 : Cond.methodLink RX8 260 yX8_layGift ∈ gtbl := mem_g (in_t5 (List.mem_of_getElem? (i := 235) (by decide +kernel))) (by decide +kernel)
theorem ml_RX8_266 : Cond.methodLink RX8 266 yX8_has ∈ gtbl := mem_g (in_t6 (List.mem_of_getElem? (i := 20) (by decide +kernel))) (by decide +kernel)
theorem ml_RX8_269 : Cond.methodLink RX8 269 yX8_givers ∈ gtbl := mem_g (in_t6 (List.mem_of_getElem? (i := 16) (by decide +kernel))) (by decide +kernel)
theorem ml_RX8_272 : Cond.methodLink RX8 272 yX8_layWithout ∈ gtbl := mem_g (in_t6 (List.mem_of_getElem? (i := 23) (by decide +kernel))) (by decide +kernel)
theorem ml_RX8_281 : Cond.methodLink RX8 281 yX8_afterTurns ∈ gtbl := mem_g (in_t6 (List.mem_of_getElem? (i := 46) (by decide +kernel))) (by decide +kernel)
theorem ml_RX8_285 : Cond.methodLink RX8 285 yX8_isPaidSo ∈ gtbl := mem_g (in_t6 (List.mem_of_getElem? (i := 62) (by decide +kernel))) (by decide +kernel)
theorem ml_RX8_288 : Cond.methodLink RX8 288 yX8_rowFound ∈ gtbl := mem_g (in_t6 (List.mem_of_getElem? (i := 54) (by decide +kernel))) (by decide +kernel)
theorem ml_RX8_292 : Cond.methodLink RX8 292 yX8_potsOf ∈ gtbl := mem_g (in_t6 (List.mem_of_getElem? (i := 58) (by decide +kernel))) (by decide +kernel)
theorem ml_RX8_295 : Cond.methodLink RX8 295 yX8_kindsOf ∈ gtbl := mem_g (in_t6 (List.mem_of_getElem? (i := 66) (by decide +kernel))) (by decide +kernel)
theorem ml_RX8_298 : Cond.methodLink RX8 298 yX8_coinsOf ∈ gtbl := mem_g (in_t6 (List.mem_of_getElem? (i := 70) (by decide +kernel))) (by decide +kernel)
theorem ml_RX8_319 : Cond.methodLink RX8 319 yX8_isOf ∈ gtbl := mem_g (in_t6 (List.mem_of_getElem? (i := 107) (by decide +kernel))) (by decide +kernel)
theorem ml_RX8_325 : Cond.methodLink RX8 325 yX8_began ∈ gtbl := mem_g (in_t6 (List.mem_of_getElem? (i := 122) (by decide +kernel))) (by decide +kernel)
theorem ml_RX8_328 : Cond.methodLink RX8 328 yX8_plainSize ∈ gtbl := mem_g (in_t6 (List.mem_of_getElem? (i := 126) (by decide +kernel))) (by decide +kernel)
theorem ml_RX8_331 : Cond.methodLink RX8 331 yX8_flatSize ∈ gtbl := mem_g (in_t6 (List.mem_of_getElem? (i := 118) (by decide +kernel))) (by decide +kernel)
theorem ml_RX8_334 : Cond.methodLink RX8 334 yX8_markOf ∈ gtbl := mem_g (in_t6 (List.mem_of_getElem? (i := 130) (by decide +kernel))) (by decide +kernel)
theorem ml_RX8_337 : Cond.methodLink RX8 337 yX8_sizeOf ∈ gtbl := mem_g (in_t6 (List.mem_of_getElem? (i := 114) (by decide +kernel))) (by decide +kernel)
theorem ml_RX8_72 : Cond.methodLink RX8 72 yX8_in ∈ gtbl := mem_g (in_t4 (List.mem_of_getElem? (i := 236) (by decide +kernel))) (by decide +kernel)
theorem ml_RX8_76 : Cond.methodLink RX8 76 yX8_isRow ∈ gtbl := mem_g (in_t4 (List.mem_of_getElem? (i := 232) (by decide +kernel))) (by decide +kernel)
theorem ml_RX8_83 : Cond.methodLink RX8 83 yX8_finding ∈ gtbl := mem_g (in_t5 (List.mem_of_getElem? (i := 1) (by decide +kernel))) (by decide +kernel)
/-! what the plain functions are made of -/
def fuel : Nat := 5000
def pf (H : Hp) (c k : Nat) (x : Int32) : Option Hp := some (hset H c k x)
def pz (H : Hp) (c k : Nat) (x : Int32) : Option Hp := if x = 0 ∨ x = 1 then some (hset H c k x) else none
def zr (x : Int32) : Option Int32 := if x = 0 ∨ x = 1 then some x else none
theorem nar01 {x : Int32} (h : x = 0 ∨ x = 1) : vp_nar .boolean x = x := by rcases h with rfl | rfl <;> rfl
theorem nar_fits {x : Int32} (h : vp_nar .boolean x = x) : fits .boolean (.int x) = true := by
  have h1 : x &&& 1 = x := h
  have h2 := pk_and x (m := 1) 1 (by decide)
  rw [h1] at h2
  rcases Nat.mod_two_eq_zero_or_one x.toBitVec.toNat with e | e
  · rw [show (2:Nat)^1 = 2 from rfl, e] at h2; rw [h2]; rfl
  · rw [show (2:Nat)^1 = 2 from rfl, e] at h2; rw [h2]; rfl
theorem pz_some {H H2 : Hp} {c k : Nat} {x : Int32} (h : pz H c k x = some H2) : vp_nar .boolean x = x ∧ hset H c k x = H2 := by
  unfold pz at h
  split at h
  next hx => exact ⟨nar01 hx, Option.some.inj h⟩
  next => cases h
theorem zr_some {x z : Int32} (h : zr x = some z) : x = z ∧ vp_nar .boolean x = x := by
  unfold zr at h
  split at h
  next hx => exact ⟨Option.some.inj h, nar01 hx⟩
  next => cases h
theorem bnd {α β : Type} {o : Option α} {f : α → Option β} {b : β} (h : o.bind f = some b) : ∃ a, o = some a ∧ f a = some b := by
  cases o with
  | none => cases h
  | some a => exact ⟨a, rfl, h⟩
/-- a Fund's cell -/
def FC (b : Nat) : Prop := b = 7 ∨ b = 13 ∨ b = 20 ∨ b = 26 ∨ b = 50
def RC (r : Nat) : Prop := r < 78 ∧ sh r = (1, 80)
theorem FC7 : FC 7 := by unfold FC; omega
theorem FC13 : FC 13 := by unfold FC; omega
theorem FC20 : FC 20 := by unfold FC; omega
theorem FC26 : FC 26 := by unfold FC; omega
theorem FC50 : FC 50 := by unfold FC; omega
theorem RC64 : RC 64 := ⟨by decide, rfl⟩
theorem RC65 : RC 65 := ⟨by decide, rfl⟩
theorem RC66 : RC 66 := ⟨by decide, rfl⟩
theorem FC_0 {b : Nat} (h : FC b) : b < 78 ∧ sh b = (0, 4) := by rcases h with rfl | rfl | rfl | rfl | rfl <;> exact ⟨by decide, rfl⟩
theorem FC_1 {b : Nat} (h : FC b) : b + 1 < 78 ∧ sh (b + 1) = (1, 6) := by rcases h with rfl | rfl | rfl | rfl | rfl <;> exact ⟨by decide, rfl⟩
theorem FC_2 {b : Nat} (h : FC b) : b + 2 < 78 ∧ sh (b + 2) = (1, 10) := by rcases h with rfl | rfl | rfl | rfl | rfl <;> exact ⟨by decide, rfl⟩
theorem FC_3 {b : Nat} (h : FC b) : b + 3 < 78 ∧ sh (b + 3) = (1, 20) := by rcases h with rfl | rfl | rfl | rfl | rfl <;> exact ⟨by decide, rfl⟩
theorem FC_4 {b : Nat} (h : FC b) : b + 4 < 78 ∧ sh (b + 4) = (1, 20) := by rcases h with rfl | rfl | rfl | rfl | rfl <;> exact ⟨by decide, rfl⟩
theorem FC_5 {b : Nat} (h : FC b) : b + 5 < 78 ∧ sh (b + 5) = (1, 20) := by rcases h with rfl | rfl | rfl | rfl | rfl <;> exact ⟨by decide, rfl⟩
theorem FN_0 {b : Nat} (h : FC b) : rf b 0 = none := by rcases h with rfl | rfl | rfl | rfl | rfl <;> rfl
theorem FN_1 {b : Nat} (h : FC b) : rf b 1 = none := by rcases h with rfl | rfl | rfl | rfl | rfl <;> rfl
theorem FN_2 {b : Nat} (h : FC b) : rf b 2 = none := by rcases h with rfl | rfl | rfl | rfl | rfl <;> rfl
theorem FN_3 {b : Nat} (h : FC b) : rf b 3 = none := by rcases h with rfl | rfl | rfl | rfl | rfl <;> rfl
theorem FN_4 {b : Nat} (h : FC b) : rf b 4 = none := by rcases h with rfl | rfl | rfl | rfl | rfl <;> rfl
theorem FR_5 {b : Nat} (h : FC b) : rf b 5 = some (b + 1) := by rcases h with rfl | rfl | rfl | rfl | rfl <;> rfl
theorem FR_6 {b : Nat} (h : FC b) : rf b 6 = some (b + 2) := by rcases h with rfl | rfl | rfl | rfl | rfl <;> rfl
theorem FR_7 {b : Nat} (h : FC b) : rf b 7 = some (b + 3) := by rcases h with rfl | rfl | rfl | rfl | rfl <;> rfl
theorem FR_8 {b : Nat} (h : FC b) : rf b 8 = some (b + 4) := by rcases h with rfl | rfl | rfl | rfl | rfl <;> rfl
theorem FR_9 {b : Nat} (h : FC b) : rf b 9 = some (b + 5) := by rcases h with rfl | rfl | rfl | rfl | rfl <;> rfl
theorem gI0 {D : Nat} {own : String} {M : Md} {pc : Nat} {L S : List Value} {H : Hp} {post : Option Value → Hp → Prop} {c0 n : Nat} (hd : decode M.2.1 pc = .ok (.getfield n, 3)) (hc : c0 < 78) (hs : sh c0 = (0, 0)) (k0 : Nat) (hk : k0 < 7) (hw : Cond.fieldLink own n RX0 (TX0 k0).2.1 (TX0 k0).2.2.1 ∈ gtbl) (hT : (TX0 k0).1 = RX0) (hrf : rf c0 k0 = none) (k : V D own M (pc + 3) L (.int (H c0 k0) :: S) H post) : V D own M pc L (.ref c0 :: S) H post := st_getI hd hc hs rfl rfl inG0 k0 hk hw hT hrf k
theorem gR0 {D : Nat} {own : String} {M : Md} {pc : Nat} {L S : List Value} {H : Hp} {post : Option Value → Hp → Prop} {c0 n : Nat} (hd : decode M.2.1 pc = .ok (.getfield n, 3)) (hc : c0 < 78) (hs : sh c0 = (0, 0)) (k0 : Nat) (hk : k0 < 7) (hw : Cond.fieldLink own n RX0 (TX0 k0).2.1 (TX0 k0).2.2.1 ∈ gtbl) (hT : (TX0 k0).1 = RX0) (r : Nat) (hrf : rf c0 k0 = some r) (k : V D own M (pc + 3) L (.ref r :: S) H post) : V D own M pc L (.ref c0 :: S) H post := st_getR hd hc hs rfl rfl inG0 k0 hk hw hT r hrf k
theorem pI0 {D : Nat} {own : String} {M : Md} {pc : Nat} {L S : List Value} {H : Hp} {post : Option Value → Hp → Prop} {c0 n : Nat} {x : Int32} {H2 : Hp} (hd : decode M.2.1 pc = .ok (.putfield n, 3)) (hc : c0 < 78) (hs : sh c0 = (0, 0)) (k0 : Nat) (hk : k0 < 7) (hw : Cond.fieldLink own n RX0 (TX0 k0).2.1 (TX0 k0).2.2.1 ∈ gtbl) (hT : (TX0 k0).1 = RX0) (hfin : (TX0 k0).2.2.2 = false) (hrf : rf c0 k0 = none) (hty : tyX0 k0 = .int) (hv : pf H c0 k0 x = some H2) (k : V D own M (pc + 3) L S H2 post) : V D own M pc L (.int x :: .ref c0 :: S) H post := by
  obtain rfl := Option.some.inj hv
  exact st_put hd hc hs rfl rfl inG0 tyX0 tyX0_ok nmX0 k0 hk hw hT hfin hrf (by rw [hty]; rfl) (by rw [hty]; rfl) k
theorem gI1 {D : Nat} {own : String} {M : Md} {pc : Nat} {L S : List Value} {H : Hp} {post : Option Value → Hp → Prop} {c0 n : Nat} (hd : decode M.2.1 pc = .ok (.getfield n, 3)) (hc : c0 < 78) (hs : sh c0 = (0, 1)) (k0 : Nat) (hk : k0 < 4) (hw : Cond.fieldLink own n RX1 (TX1 k0).2.1 (TX1 k0).2.2.1 ∈ gtbl) (hT : (TX1 k0).1 = RX1) (hrf : rf c0 k0 = none) (k : V D own M (pc + 3) L (.int (H c0 k0) :: S) H post) : V D own M pc L (.ref c0 :: S) H post := st_getI hd hc hs rfl rfl inG1 k0 hk hw hT hrf k
theorem gR1 {D : Nat} {own : String} {M : Md} {pc : Nat} {L S : List Value} {H : Hp} {post : Option Value → Hp → Prop} {c0 n : Nat} (hd : decode M.2.1 pc = .ok (.getfield n, 3)) (hc : c0 < 78) (hs : sh c0 = (0, 1)) (k0 : Nat) (hk : k0 < 4) (hw : Cond.fieldLink own n RX1 (TX1 k0).2.1 (TX1 k0).2.2.1 ∈ gtbl) (hT : (TX1 k0).1 = RX1) (r : Nat) (hrf : rf c0 k0 = some r) (k : V D own M (pc + 3) L (.ref r :: S) H post) : V D own M pc L (.ref c0 :: S) H post := st_getR hd hc hs rfl rfl inG1 k0 hk hw hT r hrf k
theorem pI1 {D : Nat} {own : String} {M : Md} {pc : Nat} {L S : List Value} {H : Hp} {post : Option Value → Hp → Prop} {c0 n : Nat} {x : Int32} {H2 : Hp} (hd : decode M.2.1 pc = .ok (.putfield n, 3)) (hc : c0 < 78) (hs : sh c0 = (0, 1)) (k0 : Nat) (hk : k0 < 4) (hw : Cond.fieldLink own n RX1 (TX1 k0).2.1 (TX1 k0).2.2.1 ∈ gtbl) (hT : (TX1 k0).1 = RX1) (hfin : (TX1 k0).2.2.2 = false) (hrf : rf c0 k0 = none) (hty : tyX1 k0 = .int) (hv : pf H c0 k0 x = some H2) (k : V D own M (pc + 3) L S H2 post) : V D own M pc L (.int x :: .ref c0 :: S) H post := by
  obtain rfl := Option.some.inj hv
  exact st_put hd hc hs rfl rfl inG1 tyX1 tyX1_ok nmX1 k0 hk hw hT hfin hrf (by rw [hty]; rfl) (by rw [hty]; rfl) k
theorem gI2 {D : Nat} {own : String} {M : Md} {pc : Nat} {L S : List Value} {H : Hp} {post : Option Value → Hp → Prop} {c0 n : Nat} (hd : decode M.2.1 pc = .ok (.getfield n, 3)) (hc : c0 < 78) (hs : sh c0 = (0, 2)) (k0 : Nat) (hk : k0 < 15) (hw : Cond.fieldLink own n RX2 (TX2 k0).2.1 (TX2 k0).2.2.1 ∈ gtbl) (hT : (TX2 k0).1 = RX2) (hrf : rf c0 k0 = none) (k : V D own M (pc + 3) L (.int (H c0 k0) :: S) H post) : V D own M pc L (.ref c0 :: S) H post := st_getI hd hc hs rfl rfl inG2 k0 hk hw hT hrf k
theorem gR2 {D : Nat} {own : String} {M : Md} {pc : Nat} {L S : List Value} {H : Hp} {post : Option Value → Hp → Prop} {c0 n : Nat} (hd : decode M.2.1 pc = .ok (.getfield n, 3)) (hc : c0 < 78) (hs : sh c0 = (0, 2)) (k0 : Nat) (hk : k0 < 15) (hw : Cond.fieldLink own n RX2 (TX2 k0).2.1 (TX2 k0).2.2.1 ∈ gtbl) (hT : (TX2 k0).1 = RX2) (r : Nat) (hrf : rf c0 k0 = some r) (k : V D own M (pc + 3) L (.ref r :: S) H post) : V D own M pc L (.ref c0 :: S) H post := st_getR hd hc hs rfl rfl inG2 k0 hk hw hT r hrf k
theorem pI2 {D : Nat} {own : String} {M : Md} {pc : Nat} {L S : List Value} {H : Hp} {post : Option Value → Hp → Prop} {c0 n : Nat} {x : Int32} {H2 : Hp} (hd : decode M.2.1 pc = .ok (.putfield n, 3)) (hc : c0 < 78) (hs : sh c0 = (0, 2)) (k0 : Nat) (hk : k0 < 15) (hw : Cond.fieldLink own n RX2 (TX2 k0).2.1 (TX2 k0).2.2.1 ∈ gtbl) (hT : (TX2 k0).1 = RX2) (hfin : (TX2 k0).2.2.2 = false) (hrf : rf c0 k0 = none) (hty : tyX2 k0 = .int) (hv : pf H c0 k0 x = some H2) (k : V D own M (pc + 3) L S H2 post) : V D own M pc L (.int x :: .ref c0 :: S) H post := by
  obtain rfl := Option.some.inj hv
  exact st_put hd hc hs rfl rfl inG2 tyX2 tyX2_ok nmX2 k0 hk hw hT hfin hrf (by rw [hty]; rfl) (by rw [hty]; rfl) k
theorem gI3 {D : Nat} {own : String} {M : Md} {pc : Nat} {L S : List Value} {H : Hp} {post : Option Value → Hp → Prop} {c0 n : Nat} (hd : decode M.2.1 pc = .ok (.getfield n, 3)) (hc : c0 < 78) (hs : sh c0 = (0, 3)) (k0 : Nat) (hk : k0 < 5) (hw : Cond.fieldLink own n RX3 (TX3 k0).2.1 (TX3 k0).2.2.1 ∈ gtbl) (hT : (TX3 k0).1 = RX3) (hrf : rf c0 k0 = none) (k : V D own M (pc + 3) L (.int (H c0 k0) :: S) H post) : V D own M pc L (.ref c0 :: S) H post := st_getI hd hc hs rfl rfl inG3 k0 hk hw hT hrf k
theorem gR3 {D : Nat} {own : String} {M : Md} {pc : Nat} {L S : List Value} {H : Hp} {post : Option Value → Hp → Prop} {c0 n : Nat} (hd : decode M.2.1 pc = .ok (.getfield n, 3)) (hc : c0 < 78) (hs : sh c0 = (0, 3)) (k0 : Nat) (hk : k0 < 5) (hw : Cond.fieldLink own n RX3 (TX3 k0).2.1 (TX3 k0).2.2.1 ∈ gtbl) (hT : (TX3 k0).1 = RX3) (r : Nat) (hrf : rf c0 k0 = some r) (k : V D own M (pc + 3) L (.ref r :: S) H post) : V D own M pc L (.ref c0 :: S) H post := st_getR hd hc hs rfl rfl inG3 k0 hk hw hT r hrf k
theorem pI3 {D : Nat} {own : String} {M : Md} {pc : Nat} {L S : List Value} {H : Hp} {post : Option Value → Hp → Prop} {c0 n : Nat} {x : Int32} {H2 : Hp} (hd : decode M.2.1 pc = .ok (.putfield n, 3)) (hc : c0 < 78) (hs : sh c0 = (0, 3)) (k0 : Nat) (hk : k0 < 5) (hw : Cond.fieldLink own n RX3 (TX3 k0).2.1 (TX3 k0).2.2.1 ∈ gtbl) (hT : (TX3 k0).1 = RX3) (hfin : (TX3 k0).2.2.2 = false) (hrf : rf c0 k0 = none) (hty : tyX3 k0 = .int) (hv : pf H c0 k0 x = some H2) (k : V D own M (pc + 3) L S H2 post) : V D own M pc L (.int x :: .ref c0 :: S) H post := by
  obtain rfl := Option.some.inj hv
  exact st_put hd hc hs rfl rfl inG3 tyX3 tyX3_ok nmX3 k0 hk hw hT hfin hrf (by rw [hty]; rfl) (by rw [hty]; rfl) k
theorem gI4 {D : Nat} {own : String} {M : Md} {pc : Nat} {L S : List Value} {H : Hp} {post : Option Value → Hp → Prop} {c0 n : Nat} (hd : decode M.2.1 pc = .ok (.getfield n, 3)) (hc : c0 < 78) (hs : sh c0 = (0, 4)) (k0 : Nat) (hk : k0 < 10) (hw : Cond.fieldLink own n RX4 (TX4 k0).2.1 (TX4 k0).2.2.1 ∈ gtbl) (hT : (TX4 k0).1 = RX4) (hrf : rf c0 k0 = none) (k : V D own M (pc + 3) L (.int (H c0 k0) :: S) H post) : V D own M pc L (.ref c0 :: S) H post := st_getI hd hc hs rfl rfl inG4 k0 hk hw hT hrf k
theorem gR4 {D : Nat} {own : String} {M : Md} {pc : Nat} {L S : List Value} {H : Hp} {post : Option Value → Hp → Prop} {c0 n : Nat} (hd : decode M.2.1 pc = .ok (.getfield n, 3)) (hc : c0 < 78) (hs : sh c0 = (0, 4)) (k0 : Nat) (hk : k0 < 10) (hw : Cond.fieldLink own n RX4 (TX4 k0).2.1 (TX4 k0).2.2.1 ∈ gtbl) (hT : (TX4 k0).1 = RX4) (r : Nat) (hrf : rf c0 k0 = some r) (k : V D own M (pc + 3) L (.ref r :: S) H post) : V D own M pc L (.ref c0 :: S) H post := st_getR hd hc hs rfl rfl inG4 k0 hk hw hT r hrf k
theorem pI4 {D : Nat} {own : String} {M : Md} {pc : Nat} {L S : List Value} {H : Hp} {post : Option Value → Hp → Prop} {c0 n : Nat} {x : Int32} {H2 : Hp} (hd : decode M.2.1 pc = .ok (.putfield n, 3)) (hc : c0 < 78) (hs : sh c0 = (0, 4)) (k0 : Nat) (hk : k0 < 10) (hw : Cond.fieldLink own n RX4 (TX4 k0).2.1 (TX4 k0).2.2.1 ∈ gtbl) (hT : (TX4 k0).1 = RX4) (hfin : (TX4 k0).2.2.2 = false) (hrf : rf c0 k0 = none) (hty : tyX4 k0 = .int) (hv : pf H c0 k0 x = some H2) (k : V D own M (pc + 3) L S H2 post) : V D own M pc L (.int x :: .ref c0 :: S) H post := by
  obtain rfl := Option.some.inj hv
  exact st_put hd hc hs rfl rfl inG4 tyX4 tyX4_ok nmX4 k0 hk hw hT hfin hrf (by rw [hty]; rfl) (by rw [hty]; rfl) k
theorem pB4 {D : Nat} {own : String} {M : Md} {pc : Nat} {L S : List Value} {H : Hp} {post : Option Value → Hp → Prop} {c0 n : Nat} {x : Int32} {H2 : Hp} (hd : decode M.2.1 pc = .ok (.putfield n, 3)) (hc : c0 < 78) (hs : sh c0 = (0, 4)) (k0 : Nat) (hk : k0 < 10) (hw : Cond.fieldLink own n RX4 (TX4 k0).2.1 (TX4 k0).2.2.1 ∈ gtbl) (hT : (TX4 k0).1 = RX4) (hfin : (TX4 k0).2.2.2 = false) (hrf : rf c0 k0 = none) (hty : tyX4 k0 = .boolean) (hn : vp_nar .boolean x = x) (hv : pf H c0 k0 x = some H2) (k : V D own M (pc + 3) L S H2 post) : V D own M pc L (.int x :: .ref c0 :: S) H post := by
  obtain rfl := Option.some.inj hv
  exact st_put hd hc hs rfl rfl inG4 tyX4 tyX4_ok nmX4 k0 hk hw hT hfin hrf (by rw [hty]; exact congrArg Value.int hn) (by rw [hty]; exact nar_fits hn) k
theorem pZ4 {D : Nat} {own : String} {M : Md} {pc : Nat} {L S : List Value} {H : Hp} {post : Option Value → Hp → Prop} {c0 n : Nat} {x : Int32} {H2 : Hp} (hd : decode M.2.1 pc = .ok (.putfield n, 3)) (hc : c0 < 78) (hs : sh c0 = (0, 4)) (k0 : Nat) (hk : k0 < 10) (hw : Cond.fieldLink own n RX4 (TX4 k0).2.1 (TX4 k0).2.2.1 ∈ gtbl) (hT : (TX4 k0).1 = RX4) (hfin : (TX4 k0).2.2.2 = false) (hrf : rf c0 k0 = none) (hty : tyX4 k0 = .boolean) (hv : pz H c0 k0 x = some H2) (k : V D own M (pc + 3) L S H2 post) : V D own M pc L (.int x :: .ref c0 :: S) H post := by
  obtain ⟨hn, rfl⟩ := pz_some hv
  exact pB4 hd hc hs k0 hk hw hT hfin hrf hty hn rfl k
theorem gI5 {D : Nat} {own : String} {M : Md} {pc : Nat} {L S : List Value} {H : Hp} {post : Option Value → Hp → Prop} {c0 n : Nat} (hd : decode M.2.1 pc = .ok (.getfield n, 3)) (hc : c0 < 78) (hs : sh c0 = (0, 5)) (k0 : Nat) (hk : k0 < 3) (hw : Cond.fieldLink own n RX5 (TX5 k0).2.1 (TX5 k0).2.2.1 ∈ gtbl) (hT : (TX5 k0).1 = RX5) (hrf : rf c0 k0 = none) (k : V D own M (pc + 3) L (.int (H c0 k0) :: S) H post) : V D own M pc L (.ref c0 :: S) H post := st_getI hd hc hs rfl rfl inG5 k0 hk hw hT hrf k
theorem gR5 {D : Nat} {own : String} {M : Md} {pc : Nat} {L S : List Value} {H : Hp} {post : Option Value → Hp → Prop} {c0 n : Nat} (hd : decode M.2.1 pc = .ok (.getfield n, 3)) (hc : c0 < 78) (hs : sh c0 = (0, 5)) (k0 : Nat) (hk : k0 < 3) (hw : Cond.fieldLink own n RX5 (TX5 k0).2.1 (TX5 k0).2.2.1 ∈ gtbl) (hT : (TX5 k0).1 = RX5) (r : Nat) (hrf : rf c0 k0 = some r) (k : V D own M (pc + 3) L (.ref r :: S) H post) : V D own M pc L (.ref c0 :: S) H post := st_getR hd hc hs rfl rfl inG5 k0 hk hw hT r hrf k
theorem pI5 {D : Nat} {own : String} {M : Md} {pc : Nat} {L S : List Value} {H : Hp} {post : Option Value → Hp → Prop} {c0 n : Nat} {x : Int32} {H2 : Hp} (hd : decode M.2.1 pc = .ok (.putfield n, 3)) (hc : c0 < 78) (hs : sh c0 = (0, 5)) (k0 : Nat) (hk : k0 < 3) (hw : Cond.fieldLink own n RX5 (TX5 k0).2.1 (TX5 k0).2.2.1 ∈ gtbl) (hT : (TX5 k0).1 = RX5) (hfin : (TX5 k0).2.2.2 = false) (hrf : rf c0 k0 = none) (hty : tyX5 k0 = .int) (hv : pf H c0 k0 x = some H2) (k : V D own M (pc + 3) L S H2 post) : V D own M pc L (.int x :: .ref c0 :: S) H post := by
  obtain rfl := Option.some.inj hv
  exact st_put hd hc hs rfl rfl inG5 tyX5 tyX5_ok nmX5 k0 hk hw hT hfin hrf (by rw [hty]; rfl) (by rw [hty]; rfl) k
theorem gI6 {D : Nat} {own : String} {M : Md} {pc : Nat} {L S : List Value} {H : Hp} {post : Option Value → Hp → Prop} {c0 n : Nat} (hd : decode M.2.1 pc = .ok (.getfield n, 3)) (hc : c0 < 78) (hs : sh c0 = (0, 6)) (k0 : Nat) (hk : k0 < 6) (hw : Cond.fieldLink own n RX6 (TX6 k0).2.1 (TX6 k0).2.2.1 ∈ gtbl) (hT : (TX6 k0).1 = RX6) (hrf : rf c0 k0 = none) (k : V D own M (pc + 3) L (.int (H c0 k0) :: S) H post) : V D own M pc L (.ref c0 :: S) H post := st_getI hd hc hs rfl rfl inG6 k0 hk hw hT hrf k
theorem gR6 {D : Nat} {own : String} {M : Md} {pc : Nat} {L S : List Value} {H : Hp} {post : Option Value → Hp → Prop} {c0 n : Nat} (hd : decode M.2.1 pc = .ok (.getfield n, 3)) (hc : c0 < 78) (hs : sh c0 = (0, 6)) (k0 : Nat) (hk : k0 < 6) (hw : Cond.fieldLink own n RX6 (TX6 k0).2.1 (TX6 k0).2.2.1 ∈ gtbl) (hT : (TX6 k0).1 = RX6) (r : Nat) (hrf : rf c0 k0 = some r) (k : V D own M (pc + 3) L (.ref r :: S) H post) : V D own M pc L (.ref c0 :: S) H post := st_getR hd hc hs rfl rfl inG6 k0 hk hw hT r hrf k
theorem pI6 {D : Nat} {own : String} {M : Md} {pc : Nat} {L S : List Value} {H : Hp} {post : Option Value → Hp → Prop} {c0 n : Nat} {x : Int32} {H2 : Hp} (hd : decode M.2.1 pc = .ok (.putfield n, 3)) (hc : c0 < 78) (hs : sh c0 = (0, 6)) (k0 : Nat) (hk : k0 < 6) (hw : Cond.fieldLink own n RX6 (TX6 k0).2.1 (TX6 k0).2.2.1 ∈ gtbl) (hT : (TX6 k0).1 = RX6) (hfin : (TX6 k0).2.2.2 = false) (hrf : rf c0 k0 = none) (hty : tyX6 k0 = .int) (hv : pf H c0 k0 x = some H2) (k : V D own M (pc + 3) L S H2 post) : V D own M pc L (.int x :: .ref c0 :: S) H post := by
  obtain rfl := Option.some.inj hv
  exact st_put hd hc hs rfl rfl inG6 tyX6 tyX6_ok nmX6 k0 hk hw hT hfin hrf (by rw [hty]; rfl) (by rw [hty]; rfl) k
theorem gI7 {D : Nat} {own : String} {M : Md} {pc : Nat} {L S : List Value} {H : Hp} {post : Option Value → Hp → Prop} {c0 n : Nat} (hd : decode M.2.1 pc = .ok (.getfield n, 3)) (hc : c0 < 78) (hs : sh c0 = (0, 7)) (k0 : Nat) (hk : k0 < 11) (hw : Cond.fieldLink own n RX7 (TX7 k0).2.1 (TX7 k0).2.2.1 ∈ gtbl) (hT : (TX7 k0).1 = RX7) (hrf : rf c0 k0 = none) (k : V D own M (pc + 3) L (.int (H c0 k0) :: S) H post) : V D own M pc L (.ref c0 :: S) H post := st_getI hd hc hs rfl rfl inG7 k0 hk hw hT hrf k
theorem gR7 {D : Nat} {own : String} {M : Md} {pc : Nat} {L S : List Value} {H : Hp} {post : Option Value → Hp → Prop} {c0 n : Nat} (hd : decode M.2.1 pc = .ok (.getfield n, 3)) (hc : c0 < 78) (hs : sh c0 = (0, 7)) (k0 : Nat) (hk : k0 < 11) (hw : Cond.fieldLink own n RX7 (TX7 k0).2.1 (TX7 k0).2.2.1 ∈ gtbl) (hT : (TX7 k0).1 = RX7) (r : Nat) (hrf : rf c0 k0 = some r) (k : V D own M (pc + 3) L (.ref r :: S) H post) : V D own M pc L (.ref c0 :: S) H post := st_getR hd hc hs rfl rfl inG7 k0 hk hw hT r hrf k
theorem pI7 {D : Nat} {own : String} {M : Md} {pc : Nat} {L S : List Value} {H : Hp} {post : Option Value → Hp → Prop} {c0 n : Nat} {x : Int32} {H2 : Hp} (hd : decode M.2.1 pc = .ok (.putfield n, 3)) (hc : c0 < 78) (hs : sh c0 = (0, 7)) (k0 : Nat) (hk : k0 < 11) (hw : Cond.fieldLink own n RX7 (TX7 k0).2.1 (TX7 k0).2.2.1 ∈ gtbl) (hT : (TX7 k0).1 = RX7) (hfin : (TX7 k0).2.2.2 = false) (hrf : rf c0 k0 = none) (hty : tyX7 k0 = .int) (hv : pf H c0 k0 x = some H2) (k : V D own M (pc + 3) L S H2 post) : V D own M pc L (.int x :: .ref c0 :: S) H post := by
  obtain rfl := Option.some.inj hv
  exact st_put hd hc hs rfl rfl inG7 tyX7 tyX7_ok nmX7 k0 hk hw hT hfin hrf (by rw [hty]; rfl) (by rw [hty]; rfl) k
theorem gI8 {D : Nat} {own : String} {M : Md} {pc : Nat} {L S : List Value} {H : Hp} {post : Option Value → Hp → Prop} {c0 n : Nat} (hd : decode M.2.1 pc = .ok (.getfield n, 3)) (hc : c0 < 78) (hs : sh c0 = (0, 8)) (k0 : Nat) (hk : k0 < 30) (hw : Cond.fieldLink own n RX8 (TX8 k0).2.1 (TX8 k0).2.2.1 ∈ gtbl) (hT : (TX8 k0).1 = RX8) (hrf : rf c0 k0 = none) (k : V D own M (pc + 3) L (.int (H c0 k0) :: S) H post) : V D own M pc L (.ref c0 :: S) H post := st_getI hd hc hs rfl rfl inG8 k0 hk hw hT hrf k
theorem gR8 {D : Nat} {own : String} {M : Md} {pc : Nat} {L S : List Value} {H : Hp} {post : Option Value → Hp → Prop} {c0 n : Nat} (hd : decode M.2.1 pc = .ok (.getfield n, 3)) (hc : c0 < 78) (hs : sh c0 = (0, 8)) (k0 : Nat) (hk : k0 < 30) (hw : Cond.fieldLink own n RX8 (TX8 k0).2.1 (TX8 k0).2.2.1 ∈ gtbl) (hT : (TX8 k0).1 = RX8) (r : Nat) (hrf : rf c0 k0 = some r) (k : V D own M (pc + 3) L (.ref r :: S) H post) : V D own M pc L (.ref c0 :: S) H post := st_getR hd hc hs rfl rfl inG8 k0 hk hw hT r hrf k
theorem pI8 {D : Nat} {own : String} {M : Md} {pc : Nat} {L S : List Value} {H : Hp} {post : Option Value → Hp → Prop} {c0 n : Nat} {x : Int32} {H2 : Hp} (hd : decode M.2.1 pc = .ok (.putfield n, 3)) (hc : c0 < 78) (hs : sh c0 = (0, 8)) (k0 : Nat) (hk : k0 < 30) (hw : Cond.fieldLink own n RX8 (TX8 k0).2.1 (TX8 k0).2.2.1 ∈ gtbl) (hT : (TX8 k0).1 = RX8) (hfin : (TX8 k0).2.2.2 = false) (hrf : rf c0 k0 = none) (hty : tyX8 k0 = .int) (hv : pf H c0 k0 x = some H2) (k : V D own M (pc + 3) L S H2 post) : V D own M pc L (.int x :: .ref c0 :: S) H post := by
  obtain rfl := Option.some.inj hv
  exact st_put hd hc hs rfl rfl inG8 tyX8 tyX8_ok nmX8 k0 hk hw hT hfin hrf (by rw [hty]; rfl) (by rw [hty]; rfl) k
