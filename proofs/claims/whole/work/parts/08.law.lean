def R_law : String := "MatchFundLaw"
def lw_P (b : Addr) (xs : List Int32) (args : Array Value) (s : State) : Prop := args = #[.ref b] ∧ s.IntsAt b xs ∧ xs.length ≤ 3072 ∧ (Jvm.Cond.and given_1 narrow_1).before args s = true
def lw_Q (_ : Array Value) (s : State) (o : Outcome) (t : State) : Prop := o = .returned (some (.int 1)) ∧ Framed s o t [] 600000 7302249
def lw_Z (below : List Frame) (a : Array Value) (s : State) : State → Prop := fun t => ∃ o, t.status = .running ∧ Ended t below o ∧ lw_Q a s o t
/-- the law's own end, with 1 on the stack, nothing written that was there before, its room as the claim has it -/
theorem lw_ret {p : Program} {l : Launch} {e : Env} {s : State} {m : MethodId} {below : List Frame} {meth : Method} {c : Code} {b : Nat} (hx : p.tables.exec = Jvm.exec) (hb : c.code = code) (hr : meth.sig.returnType = ret) (hlocks : meth.locks = false) {pc : Nat} {H : Heap} {ls : Array Slot} (hdg : decode code pc = .ok (.ireturn, 1)) : W p l e room_1 s m #[Value.ref b] below meth c H [] 600000 7302249 (lw_Z below #[Value.ref b] s) (F0 m pc ls [.int 1]) := by
  intro T hT X
  obtain ⟨fs, hret, hrun, hended, hW, hframe⟩ := X.leave (v := some (.int 1)) (hlocks := hlocks) (fun h => by rw [hr] at h; cases h)
  have hmeth' : T.vm.method? m = some meth := X.method'
  refine ⟨T.setFrames fs, ?_, .returned (some (.int 1)), hrun, hended, rfl, ⟨_, rfl⟩, hW, hframe⟩
  jvm_step X.here [X.here.top, hx, hb, hdg, hmeth', hr, ret, narrow_b1]
  (try refine ⟨rfl, ?_⟩); (try refine ⟨rfl, ?_⟩)
  first | (intro acts; rw [hret _ acts rfl rfl rfl]) | rw [hret _ _ rfl rfl rfl]
  exact Steps.refl _
/-- what holds at the law's entry: the machine, the code, the tables' words (any of lw_tbl by 'hts w (by decide +kernel)'), the script of L ints xs at the cell b, what the Statement gives of the start (any of its parts by flat_of_before) -/
def lw_At (p : Program) (s : State) (m : MethodId) (meth : Method) (c : Code) (b L : Nat) (xs : Nat → Int32) : Prop :=
  p.tables.exec = Jvm.exec ∧ c.code = code ∧ meth.sig.returnType = ret ∧ c.maxLocals = 4 ∧ s.vm.findClass R_law = some m.cls ∧ (∀ w ∈ lw_tbl, w.before #[Value.ref b] s = true) ∧ va_X b L xs s s.heap ∧ b < s.heap.size ∧ meth.locks = false ∧ (Jvm.Cond.and given_1 narrow_1).before #[Value.ref b] s = true
/-! THE LAW: its own judgement VL; cell 81 is the script -/
def LC (p : Program) (s : State) (m : MethodId) (meth : Method) (c : Code) (b L : Nat) (xs : Nat → Int32) (K : GC) : Prop :=
  p.tables.exec = Jvm.exec ∧ c.code = code ∧ meth.sig.returnType = ret ∧ c.maxLocals = 4 ∧ s.vm.findClass RL = some m.cls ∧ (∀ w ∈ gtbl, w.before #[Value.ref b] s = true) ∧ va_X b L xs s s.heap ∧ b < s.heap.size ∧ meth.locks = false ∧ va_D (fun q : Nat => s.heap.size ≤ q) (wsOf K (fun _ _ => 0)) ∧ KS K (fun q : Nat => s.heap.size ≤ q) s s.heap ∧ K.2.2 81 = b
def VL (p : Program) (l : Launch) (e : Env) (s : State) (m : MethodId) (below : List Frame) (meth : Method) (c : Code) (b : Nat) (K : GC) (pc : Nat) (Lv S : List Value) (H : Hp) : Prop :=
  ∀ (Hm : Heap) (locs : List Loc) (ls : Array Slot), va_P K.1 classes (wsOf K H) Hm → va_S (fun q : Nat => s.heap.size ≤ q) s.heap Hm locs → LH K ls 4 Lv →
    W p l e room_1 s m #[Value.ref b] below meth c Hm locs 78 4416 (lw_Z below #[Value.ref b] s) (F0 m pc ls (S.map (mv K)))
section VLrows
variable {p : Program} {l : Launch} {e : Env} {s : State} {m : MethodId} {below : List Frame} {meth : Method} {c : Code} {b L : Nat} {xs : Nat → Int32} {K : GC} {pc : Nat} {Lv S : List Value} {H : Hp}
theorem vl_aload_n (C0 : LC p s m meth c b L xs K) {i : Fin 4} {j x : Nat} (hd : decode code pc = .ok (.aload_n i, 1)) (hi : (i : Nat) = j) (hl : Lv[j]? = some (.ref x)) (k : VL p l e s m below meth c b K (pc + 1) Lv (.ref x :: S) H) : VL p l e s m below meth c b K pc Lv S H :=
  fun Hm locs ls hP hS hL => lv_aload_n C0.1 C0.2.1 hd hi (hL.2.2 j _ hl (by simp)) (k Hm locs ls hP hS hL)
theorem vl_iload_n (C0 : LC p s m meth c b L xs K) {i : Fin 4} {j : Nat} {x : Int32} (hd : decode code pc = .ok (.iload_n i, 1)) (hi : (i : Nat) = j) (hl : Lv[j]? = some (.int x)) (k : VL p l e s m below meth c b K (pc + 1) Lv (.int x :: S) H) : VL p l e s m below meth c b K pc Lv S H :=
  fun Hm locs ls hP hS hL => lv_iload_n C0.1 C0.2.1 hd hi (hL.2.2 j _ hl (by simp)) (k Hm locs ls hP hS hL)
theorem vl_iconst (C0 : LC p s m meth c b L xs K) {n : Int} {v : Int32} (hd : decode code pc = .ok (.iconst n, 1)) (hv : Int32.ofInt n = v) (k : VL p l e s m below meth c b K (pc + 1) Lv (.int v :: S) H) : VL p l e s m below meth c b K pc Lv S H :=
  fun Hm locs ls hP hS hL => lv_iconst C0.1 C0.2.1 hd hv (k Hm locs ls hP hS hL)
theorem vl_bipush (C0 : LC p s m meth c b L xs K) {n : Int} {v : Int32} (hd : decode code pc = .ok (.bipush n, 2)) (hv : (Int8.ofInt n).toInt32 = v) (k : VL p l e s m below meth c b K (pc + 2) Lv (.int v :: S) H) : VL p l e s m below meth c b K pc Lv S H :=
  fun Hm locs ls hP hS hL => lv_bipush C0.1 C0.2.1 hd hv (k Hm locs ls hP hS hL)
theorem vl_iadd (C0 : LC p s m meth c b L xs K) {x y : Int32} (hd : decode code pc = .ok (.iadd, 1)) (k : VL p l e s m below meth c b K (pc + 1) Lv (.int (x + y) :: S) H) : VL p l e s m below meth c b K pc Lv (.int y :: .int x :: S) H :=
  fun Hm locs ls hP hS hL => lv_iadd C0.1 C0.2.1 hd (k Hm locs ls hP hS hL)
theorem vl_isub (C0 : LC p s m meth c b L xs K) {x y : Int32} (hd : decode code pc = .ok (.isub, 1)) (k : VL p l e s m below meth c b K (pc + 1) Lv (.int (x - y) :: S) H) : VL p l e s m below meth c b K pc Lv (.int y :: .int x :: S) H :=
  fun Hm locs ls hP hS hL => lv_isub C0.1 C0.2.1 hd (k Hm locs ls hP hS hL)
theorem vl_iand (C0 : LC p s m meth c b L xs K) {x y : Int32} (hd : decode code pc = .ok (.iand, 1)) (k : VL p l e s m below meth c b K (pc + 1) Lv (.int (x &&& y) :: S) H) : VL p l e s m below meth c b K pc Lv (.int y :: .int x :: S) H :=
  fun Hm locs ls hP hS hL => lv_iand C0.1 C0.2.1 hd (k Hm locs ls hP hS hL)
theorem vl_lcmp (C0 : LC p s m meth c b L xs K) {x y : Int64} (hd : decode code pc = .ok (.lcmp, 1)) (k : VL p l e s m below meth c b K (pc + 1) Lv (.int (lg_cmp x y) :: S) H) : VL p l e s m below meth c b K pc Lv (.long y :: .long x :: S) H :=
  fun Hm locs ls hP hS hL => W.lcmp C0.1 C0.2.1 hd (k Hm locs ls hP hS hL)
theorem vl_goto (C0 : LC p s m meth c b L xs K) {off : Int} (hd : decode code pc = .ok (.goto off, 3)) (tgt : Nat) (ht : (pc : Int) + off = (tgt : Int)) (k : VL p l e s m below meth c b K tgt Lv S H) : VL p l e s m below meth c b K pc Lv S H :=
  fun Hm locs ls hP hS hL => lv_goto C0.1 C0.2.1 hd ht (k Hm locs ls hP hS hL)
theorem vl_if_eq (C0 : LC p s m meth c b L xs K) {x : Int32} {off : Int} (hd : decode code pc = .ok (.ifCond .eq off, 3)) (tgt : Nat) (ht : (pc : Int) + off = (tgt : Int)) (kt : x = 0 → VL p l e s m below meth c b K tgt Lv S H) (kf : ¬ x = 0 → VL p l e s m below meth c b K (pc + 3) Lv S H) : VL p l e s m below meth c b K pc Lv (.int x :: S) H :=
  fun Hm locs ls hP hS hL => lv_if_eq C0.1 C0.2.1 hd ht (fun z => kt z Hm locs ls hP hS hL) (fun z => kf z Hm locs ls hP hS hL)
theorem vl_icmp_eq (C0 : LC p s m meth c b L xs K) {x y : Int32} {off : Int} (hd : decode code pc = .ok (.if_icmp .eq off, 3)) (tgt : Nat) (ht : (pc : Int) + off = (tgt : Int)) (kt : x = y → VL p l e s m below meth c b K tgt Lv S H) (kf : ¬ x = y → VL p l e s m below meth c b K (pc + 3) Lv S H) : VL p l e s m below meth c b K pc Lv (.int y :: .int x :: S) H :=
  fun Hm locs ls hP hS hL => lv_icmp_eq C0.1 C0.2.1 hd ht (fun z => kt z Hm locs ls hP hS hL) (fun z => kf z Hm locs ls hP hS hL)
theorem vl_icmp_gt (C0 : LC p s m meth c b L xs K) {x y : Int32} {off : Int} (hd : decode code pc = .ok (.if_icmp .gt off, 3)) (tgt : Nat) (ht : (pc : Int) + off = (tgt : Int)) (kt : y < x → VL p l e s m below meth c b K tgt Lv S H) (kf : ¬ y < x → VL p l e s m below meth c b K (pc + 3) Lv S H) : VL p l e s m below meth c b K pc Lv (.int y :: .int x :: S) H :=
  fun Hm locs ls hP hS hL => lv_icmp_gt C0.1 C0.2.1 hd ht (fun z => kt z Hm locs ls hP hS hL) (fun z => kf z Hm locs ls hP hS hL)
theorem vl_tabIn (C0 : LC p s m meth c b L xs K) {x : Int32} {dflt lo hi off : Int} {offs : Array Int} {len : Nat} (hd : decode code pc = .ok (.tableswitch dflt lo hi offs, len)) (h1 : ¬ x.toInt < lo) (h2 : ¬ hi < x.toInt) (ho : offs[(x.toInt - lo).toNat]? = some off) (tgt : Nat) (ht : (pc : Int) + off = (tgt : Int)) (k : VL p l e s m below meth c b K tgt Lv S H) : VL p l e s m below meth c b K pc Lv (.int x :: S) H :=
  fun Hm locs ls hP hS hL => lv_tableIn C0.1 C0.2.1 hd h1 h2 ho ht (k Hm locs ls hP hS hL)
theorem vl_tabOut (C0 : LC p s m meth c b L xs K) {x : Int32} {dflt lo hi : Int} {offs : Array Int} {len : Nat} (hd : decode code pc = .ok (.tableswitch dflt lo hi offs, len)) (h : x.toInt < lo ∨ hi < x.toInt) (tgt : Nat) (ht : (pc : Int) + dflt = (tgt : Int)) (k : VL p l e s m below meth c b K tgt Lv S H) : VL p l e s m below meth c b K pc Lv (.int x :: S) H :=
  fun Hm locs ls hP hS hL => lv_tableOut C0.1 C0.2.1 hd h ht (k Hm locs ls hP hS hL)
theorem vl_iinc3 (C0 : LC p s m meth c b L xs K) {x : Int32} {n : Int} (hd : decode code pc = .ok (.iinc 3 n, 3)) (v : Int32) (hv : x + Int32.ofInt n = v) (k : VL p l e s m below meth c b K (pc + 3) [.ref 81, .ref 0, .ref 60, .int v] S H) : VL p l e s m below meth c b K pc [.ref 81, .ref 0, .ref 60, .int x] S H := by
  intro Hm locs ls hP hS hL
  obtain ⟨k0, hk0⟩ := hL.at (i := 3) rfl (by simp)
  exact lv_iinc C0.1 C0.2.1 hd hL.has hk0 hv (by decide) rfl (fun ls2 h2 => k Hm locs ls2 hP hS (hL.st1 (x := .int v) h2))
theorem vl_sld (C0 : LC p s m meth c b L xs K) {i : Int32} (hd : decode code pc = .ok (.iaload, 1)) (hin : vp_in i L) (k : VL p l e s m below meth c b K (pc + 1) Lv (.int (xs i.toNatClampNeg) :: S) H) : VL p l e s m below meth c b K pc Lv (.int i :: .ref 81 :: S) H := by
  intro Hm locs ls hP hS hL
  obtain ⟨hx, hb, hr, hml, hown, hts, hX, hbl, hlocks, hD, hK, h81⟩ := C0
  have h := va_sld (A := fun q : Nat => s.heap.size ≤ q) hx hb hX hbl (Nat.not_le.mpr hbl) hS hin hd (k Hm locs ls hP hS hL)
  rw [← h81] at h ⊢
  exact h
theorem vl_slen (C0 : LC p s m meth c b L xs K) (hd : decode code pc = .ok (.arraylength, 1)) (k : VL p l e s m below meth c b K (pc + 1) Lv (.int (Int32.ofNat L) :: S) H) : VL p l e s m below meth c b K pc Lv (.ref 81 :: S) H := by
  intro Hm locs ls hP hS hL
  obtain ⟨hx, hb, hr, hml, hown, hts, hX, hbl, hlocks, hD, hK, h81⟩ := C0
  have h := va_slen (A := fun q : Nat => s.heap.size ≤ q) hx hb hX hbl (Nat.not_le.mpr hbl) hS hd (k Hm locs ls hP hS hL)
  rw [← h81] at h ⊢
  exact h
theorem vl_ret (C0 : LC p s m meth c b L xs K) (hd : decode code pc = .ok (.ireturn, 1)) : VL p l e s m below meth c b K pc Lv [.int 1] H := by
  intro Hm locs ls hP hS hL
  obtain ⟨hx, hb, hr, hml, hown, hts, hX, hbl, hlocks, hD, hK, h81⟩ := C0
  refine va_forget (fun q hq => hS.2.2 q hq) ?_
  refine W.widen (k := 600000) (n := 7302249) (Nat.le_of_ble_eq_true rfl) (Nat.le_of_ble_eq_true rfl) ?_
  exact lw_ret hx hb hr hlocks hd
theorem gGl {M2 : Md} (h : mcode M2 ∈ gtbl) : GoodIn gtbl (mcode M2 :: gtbl) := fun w hw => by
  have h2 : w ∈ gtbl := (List.mem_cons.mp hw).elim (fun e => e ▸ h) (fun q => q)
  exact ⟨h2, good_of_word (List.mem_filter.mp h2).2⟩
theorem vl_callV (C0 : LC p s m meth c b L xs K) {St : List Value} {M2 : Md} {idx n c0 ci : Nat} {r : vw_C} (av : List Value)
    (hd : decode code pc = .ok (.invokevirtual idx, 3)) (hk : CalleeOk M2 n) (hinst : Cond.instanceMethod M2.1 ∈ gtbl) (hsel : Cond.selects M2.1.cls M2.1 M2.1 ∈ gtbl) (hw : Cond.methodLink RL idx M2.1 ∈ gtbl) (hn : av.length = n) (hc : c0 < 78) (hs : sh c0 = (0, ci)) (hq : classes[ci]? = some r) (hr0 : r.1 = M2.1.cls) (hst : St = av.reverse ++ .ref c0 :: S) (hsum : (S.map fun v => v.category).sum ≤ 8)
    (k : Sem 60 M2 (.ref c0 :: av) H (fun r H2 => VL p l e s m below meth c b K (pc + 3) Lv (r.toList ++ S) H2)) : VL p l e s m below meth c b K pc Lv St H := by
  obtain ⟨hdd, hmx, hcd, hini⟩ := hk
  subst hst
  intro Hm locs ls hP hS hL T hT X
  obtain ⟨hx, hb, hr, hml, hown, hts, hX, hbl, hlocks, hD, hK, h81⟩ := id C0
  have hz : s.heap.size ≤ Hm.size := hS.1
  have hAG : ∀ q, AG K Hm.size q → s.heap.size ≤ q := by
    intro q h
    rcases h with ⟨i, hi, rfl⟩ | h
    · exact hD.2 i _ (ws_at hi rfl)
    · exact Nat.le_trans hz h
  have hpre : ∀ U : State, U.heap = Hm → s.WarmedH U.vm → PcG K (.ref c0 :: av) H Hm.size ((Value.ref c0 :: av).map (mv K)).toArray U := by
    intro U hU hW
    refine ⟨rfl, by rw [hU], by rw [hU]; exact hP, ?_, ?_⟩
    · have h1 : va_D (fun q : Nat => s.heap.size ≤ q) (wsOf K H) := vD hD
      refine ⟨h1.1, fun i q hq => ?_⟩
      by_cases hi : i < 78
      · rw [ws_at hi rfl] at hq
        obtain rfl := Option.some.inj hq
        exact Or.inl ⟨i, hi, rfl⟩
      · have : (wsOf K H)[i]? = none := by unfold wsOf; simp; omega
        rw [this] at hq
        cases hq
    · rw [hU]
      exact (KS.moved hW (hK.kept (fun a h1 h2 => hS.2.1 a h1 h2))).narrow hAG
  have hG : GoodIn gtbl (wsV RL idx M2.1.cls M2.1 (mcode M2 :: gtbl)) := fun w hw2 => by
    have h2 : w ∈ gtbl := by
      unfold wsV at hw2
      rcases List.mem_append.mp hw2 with h | h
      · simp only [List.mem_cons, List.not_mem_nil, or_false] at h
        rcases h with rfl | rfl | rfl | rfl
        · exact hw
        · exact hinst
        · exact hsel
        · exact hini
      · exact (List.mem_cons.mp h).elim (fun e => e ▸ hcd) (fun q => q)
    exact ⟨h2, good_of_word (List.mem_filter.mp h2).2⟩
  have cw := cwV (R := room_1) (rm := rmD 60) (mc := 0) (ms := 0) (C := M2.1.cls) (own := RL) (index := idx) (bytes := M2.2.1) (maxL := M2.2.2.1) (ret := M2.2.2.2) n hts hG rfl rfl rfl ⟨rfl, hdd⟩ ⟨Nat.le_of_ble_eq_true rfl, by show 8 + (M2.2.2.1 + 11) + 64 * 60 ≤ 84000; omega⟩
  have hrc := va_recv hK.1 hP hq (ws_obj hc hs)
  rw [hr0] at hrc
  have run := va_runV (As := av.map (mv K)) (rest := S.map (mv K)) (b := K.2.2 c0) (g := F0 m pc ls ((av.reverse ++ .ref c0 :: S).map (mv K))) (cells := 78) (slots := 4416) (locs := locs) (below := below) (meth := meth) (e := e) ⟨hx, hb, hml, hown, hts⟩ (k l K Hm.size) cw ⟨PcG.blind K _ H _, hrc, hpre⟩ rfl (by rw [List.length_map]; exact hn) hL.1 (by rw [map_rev]; rfl) (lv_room (by rw [mv_sum]; exact hsum)) hd ⟨Nat.le_of_ble_eq_true rfl, Nat.le_of_ble_eq_true rfl⟩
  obtain ⟨v, st0, t, T2, L2, h0, X2, hL2, e1, e2, ⟨⟨r2, H2, hv, hk2, hP2⟩, hF⟩, st⟩ := run T hT X
  have hv2 : v = r2.map (mv K) := Outcome.returned.inj hv
  subst hv2
  have hF1 : Hm.size ≤ t.heap.size := by rw [← h0]; exact hF.1
  have hF2 : ∀ q : Nat, q < Hm.size → ¬ AG K Hm.size q → t.heap[q]? = Hm[q]? := by
    intro q h1 h2
    have h3 := hF.2 q (by rw [h0]; exact h1) h2
    rw [h0] at h3
    exact h3
  have hS2 : va_S (fun q : Nat => s.heap.size ≤ q) s.heap T2.heap (locs ++ L2) := by
    refine ⟨Nat.le_trans hz (by rw [e1]; exact hF1), fun q h1 h2 => ?_, fun q hq => ?_⟩
    · have h3 : q < Hm.size := Nat.lt_of_lt_of_le h1 hz
      rw [e1, hF2 q h3 (fun z => h2 (hAG q z))]
      exact hS.2.1 q h1 h2
    · rcases List.mem_append.mp hq with h | h
      · exact hS.2.2 q h
      · exact hAG _ (hL2 q h)
  obtain ⟨t2, a1, b1⟩ := hk2 T2.heap (locs ++ L2) ls (by rw [e1]; exact hP2) hS2 hL T2 rfl X2
  refine ⟨t2, st t2 ?_, b1⟩
  have e3 : (r2.toList ++ S).map (mv K) = (r2.map (mv K)).toList ++ S.map (mv K) := by cases r2 <;> simp
  rw [e3] at a1
  exact a1
theorem iinc6 (i : Nat) : nI (6 * i) + Int32.ofInt 6 = nI (6 * (i + 1)) := by
  rw [show Int32.ofInt 6 = nI 6 from rfl, nI_add]
  rfl
theorem vin1 {i : Nat} (h : 6 * i + 6 ≤ L) (hL : L ≤ 3072) : vp_in (nI (6 * i) + 1) L := by rw [show (1 : Int32) = nI 1 from rfl, nI_add]; exact vp_in_nI (by omega) (by omega)
theorem vin2 {i : Nat} (h : 6 * i + 6 ≤ L) (hL : L ≤ 3072) : vp_in (nI (6 * i) + 2) L := by rw [show (2 : Int32) = nI 2 from rfl, nI_add]; exact vp_in_nI (by omega) (by omega)
theorem vin3 {i : Nat} (h : 6 * i + 6 ≤ L) (hL : L ≤ 3072) : vp_in (nI (6 * i) + 3) L := by rw [show (3 : Int32) = nI 3 from rfl, nI_add]; exact vp_in_nI (by omega) (by omega)
theorem vin4 {i : Nat} (h : 6 * i + 6 ≤ L) (hL : L ≤ 3072) : vp_in (nI (6 * i) + 4) L := by rw [show (4 : Int32) = nI 4 from rfl, nI_add]; exact vp_in_nI (by omega) (by omega)
theorem vin5 {i : Nat} (h : 6 * i + 6 ≤ L) (hL : L ≤ 3072) : vp_in (nI (6 * i) + 5) L := by rw [show (5 : Int32) = nI 5 from rfl, nI_add]; exact vp_in_nI (by omega) (by omega)
theorem lsub {L : Nat} (hL : L ≤ 3072) {i : Nat} (h2 : 6 * i ≤ L + 6) : (Int32.ofNat L - 6 < nI (6 * i)) ↔ L < 6 * i + 6 := by
  have e : (nI L - nI 6).toInt = (L : Int) - 6 := pk_sub_toInt (by omega) (by omega)
  rw [show Int32.ofNat L - 6 = nI L - nI 6 from rfl, Int32.lt_iff_toInt_lt, e, nI_toInt (by omega)]
  omega
theorem law_out (C0 : LC p s m meth c b L xs K) (hL : L ≤ 3072) {i : Nat} (hi : L < 6 * i + 6) (h2 : 6 * i ≤ L + 6) : VL p l e s m below meth c b K 18 [.ref 81, .ref 0, .ref 60, .int (nI (6 * i))] [] H := by
  refine vl_iload_n C0 dL_law_18 rfl rfl ?_
  refine vl_aload_n C0 dL_law_19 rfl rfl ?_
  refine vl_slen C0 dL_law_20 ?_
  refine vl_bipush C0 dL_law_21 (v := 6) (by decide) ?_
  refine vl_isub C0 dL_law_23 ?_
  refine vl_icmp_gt C0 dL_law_24 1535 (by decide) (fun _ => ?_) (fun z => absurd ((lsub hL h2).mpr hi) z)
  refine vl_iconst C0 dL_law_1535 (v := 1) rfl ?_
  exact vl_ret C0 dL_law_1536
theorem law_in (C0 : LC p s m meth c b L xs K) (hL : L ≤ 3072) {i : Nat} (hi : 6 * i + 6 ≤ L) (k : VL p l e s m below meth c b K 33 [.ref 81, .ref 0, .ref 60, .int (nI (6 * i))] [.int (xs (nI (6 * i)).toNatClampNeg &&& 63)] H) : VL p l e s m below meth c b K 18 [.ref 81, .ref 0, .ref 60, .int (nI (6 * i))] [] H := by
  refine vl_iload_n C0 dL_law_18 rfl rfl ?_
  refine vl_aload_n C0 dL_law_19 rfl rfl ?_
  refine vl_slen C0 dL_law_20 ?_
  refine vl_bipush C0 dL_law_21 (v := 6) (by decide) ?_
  refine vl_isub C0 dL_law_23 ?_
  refine vl_icmp_gt C0 dL_law_24 1535 (by decide) (fun z => absurd ((lsub hL (by omega)).mp z) (by omega)) (fun _ => ?_)
  refine vl_aload_n C0 dL_law_27 rfl rfl ?_
  refine vl_iload_n C0 dL_law_28 rfl rfl ?_
  refine vl_sld C0 dL_law_29 (vp_in_nI (by omega) (by omega)) ?_
  refine vl_bipush C0 dL_law_30 (v := 63) (by decide) ?_
  exact vl_iand C0 dL_law_32 k
end VLrows
/-! the start: classes, array classes, statics -/
theorem start_K {b : Nat} {s : State} (hts : ∀ w ∈ lw_tbl, w.before #[Value.ref b] s = true) : ∃ (D : va_G) (cI cZ cF : ClassId), va_K D classes (tys3 cI cZ cF) s ∧ CW s := by
  have hg : ∀ w ∈ gtbl, w.before #[Value.ref b] s = true := fun w h => hts w (List.mem_filter.mp h).1
  obtain ⟨c0, i0, k0⟩ := u_known (C := RX0) (T := TX0) (N := 7) (n := 7) hg inG0 (hg _ ins_0)
  obtain ⟨c1, i1, k1⟩ := u_known (C := RX1) (T := TX1) (N := 4) (n := 4) hg inG1 (hg _ ins_1)
  obtain ⟨c2, i2, k2⟩ := u_known (C := RX2) (T := TX2) (N := 15) (n := 15) hg inG2 (hg _ ins_2)
  obtain ⟨c3, i3, k3⟩ := u_known (C := RX3) (T := TX3) (N := 5) (n := 5) hg inG3 (hg _ ins_3)
  obtain ⟨c4, i4, k4⟩ := u_known (C := RX4) (T := TX4) (N := 10) (n := 10) hg inG4 (hg _ ins_4)
  obtain ⟨c5, i5, k5⟩ := u_known (C := RX5) (T := TX5) (N := 3) (n := 3) hg inG5 (hg _ ins_5)
  obtain ⟨c6, i6, k6⟩ := u_known (C := RX6) (T := TX6) (N := 6) (n := 6) hg inG6 (hg _ ins_6)
  obtain ⟨c7, i7, k7⟩ := u_known (C := RX7) (T := TX7) (N := 11) (n := 11) hg inG7 (hg _ ins_7)
  obtain ⟨c8, i8, k8⟩ := u_known (C := RX8) (T := TX8) (N := 30) (n := 30) hg inG8 (hg _ ins_8)
  obtain ⟨cI, kI, pI, fI, gI, eI⟩ := Cond.arrayClass_spec (hg _ w_arr_int)
  obtain ⟨cZ, kZ, pZ, fZ, gZ, eZ⟩ := Cond.arrayClass_spec (hg _ w_arr_boolean)
  have hO : (Cond.arrayOver (.object RX4)).before #[Value.ref b] s = true := hts _ (in_t1 (List.mem_of_getElem? (i := 135) (by decide +kernel)))
  obtain ⟨pF, cF, kF, fF, -, gF, eF, nF⟩ := Cond.arrayOver_spec hO
  refine ⟨(fun k => if k = 0 then c0 else if k = 1 then c1 else if k = 2 then c2 else if k = 3 then c3 else if k = 4 then c4 else if k = 5 then c5 else if k = 6 then c6 else if k = 7 then c7 else c8, fun k => if k = 0 then i0 else if k = 1 then i1 else if k = 2 then i2 else if k = 3 then i3 else if k = 4 then i4 else if k = 5 then i5 else if k = 6 then i6 else if k = 7 then i7 else i8), cI, cZ, cF, ⟨?_, ?_⟩, ?_⟩
  · intro k q hq
    match k, hq with
    | 0, hq => cases hq; exact k0
    | 1, hq => cases hq; exact k1
    | 2, hq => cases hq; exact k2
    | 3, hq => cases hq; exact k3
    | 4, hq => cases hq; exact k4
    | 5, hq => cases hq; exact k5
    | 6, hq => cases hq; exact k6
    | 7, hq => cases hq; exact k7
    | 8, hq => cases hq; exact k8
    | k + 9, hq => simp at hq
  · intro k q hq
    match k, hq with
    | 0, hq => cases hq; exact ⟨fun n z => ⟨fun k h => (by cases h), kI, gI, pI, eI⟩, fI⟩
    | 1, hq => cases hq; exact ⟨fun n z => ⟨fun k h => (by cases h), kZ, gZ, pZ, eZ⟩, fZ⟩
    | 2, hq => cases hq; exact ⟨fun n z => ⟨fun k h => (by cases h), kF, gF, pF, eF⟩, kF, pF, gF, eF, fF, nF⟩
    | k + 3, hq => simp at hq
  · exact ⟨va_Nw.of rfl (hts _ (in_t1 (List.mem_of_getElem? (i := 22) (by decide +kernel)))), va_Nw.of rfl (hts _ (in_t1 (List.mem_of_getElem? (i := 40) (by decide +kernel)))), va_Nw.of rfl (hts _ (in_t1 (List.mem_of_getElem? (i := 68) (by decide +kernel)))), va_Nw.of rfl (hts _ (in_t1 (List.mem_of_getElem? (i := 138) (by decide +kernel)))), va_Nw.of rfl (hts _ (in_t1 (List.mem_of_getElem? (i := 167) (by decide +kernel)))), va_Nw.of rfl (hts _ (in_t1 (List.mem_of_getElem? (i := 235) (by decide +kernel)))), va_AO.of hO⟩
theorem start_S {b : Nat} {s : State} (hts : ∀ w ∈ lw_tbl, w.before #[Value.ref b] s = true) (hgv : (Jvm.Cond.and given_1 narrow_1).before #[Value.ref b] s = true) : ∃ t0 t1 t2 : Nat,
    (va_Z "MatchFund" "KIND_ABOVE" "[I" (.ref t0) (fun q : Nat => s.heap.size ≤ q) s s.heap ∧ va_T .int t0 6 (fun j => .int (stH 78 j)) (fun q : Nat => s.heap.size ≤ q) s s.heap) ∧
    (va_Z "MatchFund$Asks" "SIZE_BODIES" "[I" (.ref t1) (fun q : Nat => s.heap.size ≤ q) s s.heap ∧ va_T .int t1 6 (fun j => .int (stH 79 j)) (fun q : Nat => s.heap.size ≤ q) s s.heap) ∧
    (va_Z "MatchFund$Asks" "MARK_BODIES" "[I" (.ref t2) (fun q : Nat => s.heap.size ≤ q) s s.heap ∧ va_T .int t2 6 (fun j => .int (stH 80 j)) (fun q : Nat => s.heap.size ≤ q) s s.heap) ∧
    va_Nw (.methodLinkNest "MatchFund$Tape" 85 yX7_within "MatchFund") s ∧ va_Nw (.fieldLinkNest "MatchFund$Asks" 55 "MatchFund" "KIND_ABOVE" "[I" "MatchFund") s := by
  have hs := flat_of_before _ hgv
  have hA : ∀ a : Nat, a < s.heap.size → ¬ (fun q : Nat => s.heap.size ≤ q) a := fun a h => Nat.not_le.mpr h
  obtain ⟨t0, ev0, hT0⟩ := va_Tof (tm := .static "MatchFund" "KIND_ABOVE" "[I") (ty := .int) (N := 6) (f := fun j => .int (stH 78 j)) (A := fun q : Nat => s.heap.size ≤ q) (by decide) (hs (.arrayOf (.static "MatchFund" "KIND_ABOVE" "[I") .int) (by decide +kernel)) (va_eqt (z := 6) (hs (.eq (.length (.static "MatchFund" "KIND_ABOVE" "[I")) (.int 6)) (by decide +kernel)))
    (fun j hj => by
      match j, hj with
      | 0, _ => exact va_eqt (z := (-1)) (hs (.eq (.elem (.static "MatchFund" "KIND_ABOVE" "[I") (.int 0)) (.int (-1))) (by decide +kernel))
      | 1, _ => exact va_eqt (z := 0) (hs (.eq (.elem (.static "MatchFund" "KIND_ABOVE" "[I") (.int 1)) (.int 0)) (by decide +kernel))
      | 2, _ => exact va_eqt (z := 1) (hs (.eq (.elem (.static "MatchFund" "KIND_ABOVE" "[I") (.int 2)) (.int 1)) (by decide +kernel))
      | 3, _ => exact va_eqt (z := 1) (hs (.eq (.elem (.static "MatchFund" "KIND_ABOVE" "[I") (.int 3)) (.int 1)) (by decide +kernel))
      | 4, _ => exact va_eqt (z := 0) (hs (.eq (.elem (.static "MatchFund" "KIND_ABOVE" "[I") (.int 4)) (.int 0)) (by decide +kernel))
      | 5, _ => exact va_eqt (z := 4) (hs (.eq (.elem (.static "MatchFund" "KIND_ABOVE" "[I") (.int 5)) (.int 4)) (by decide +kernel))
      | k + 6, hk => exact absurd hk (by omega)) hA
  have hZ0 := va_Zref (C := "MatchFund") (n := "KIND_ABOVE") (d := "[I") (hts _ (in_t4 (List.mem_of_getElem? (i := 71) (by decide +kernel)))) (hts _ (in_t1 (List.mem_of_getElem? (i := 1) (by decide +kernel)))) ev0 hA
  obtain ⟨t1, ev1, hT1⟩ := va_Tof (tm := .static "MatchFund$Asks" "SIZE_BODIES" "[I") (ty := .int) (N := 6) (f := fun j => .int (stH 79 j)) (A := fun q : Nat => s.heap.size ≤ q) (by decide) (hs (.arrayOf (.static "MatchFund$Asks" "SIZE_BODIES" "[I") .int) (by decide +kernel)) (va_eqt (z := 6) (hs (.eq (.length (.static "MatchFund$Asks" "SIZE_BODIES" "[I")) (.int 6)) (by decide +kernel)))
    (fun j hj => by
      match j, hj with
      | 0, _ => exact va_eqt (z := 10) (hs (.eq (.elem (.static "MatchFund$Asks" "SIZE_BODIES" "[I") (.int 0)) (.int 10)) (by decide +kernel))
      | 1, _ => exact va_eqt (z := 11) (hs (.eq (.elem (.static "MatchFund$Asks" "SIZE_BODIES" "[I") (.int 1)) (.int 11)) (by decide +kernel))
      | 2, _ => exact va_eqt (z := 12) (hs (.eq (.elem (.static "MatchFund$Asks" "SIZE_BODIES" "[I") (.int 2)) (.int 12)) (by decide +kernel))
      | 3, _ => exact va_eqt (z := 0) (hs (.eq (.elem (.static "MatchFund$Asks" "SIZE_BODIES" "[I") (.int 3)) (.int 0)) (by decide +kernel))
      | 4, _ => exact va_eqt (z := 13) (hs (.eq (.elem (.static "MatchFund$Asks" "SIZE_BODIES" "[I") (.int 4)) (.int 13)) (by decide +kernel))
      | 5, _ => exact va_eqt (z := 14) (hs (.eq (.elem (.static "MatchFund$Asks" "SIZE_BODIES" "[I") (.int 5)) (.int 14)) (by decide +kernel))
      | k + 6, hk => exact absurd hk (by omega)) hA
  have hZ1 := va_Zref (C := "MatchFund$Asks") (n := "SIZE_BODIES") (d := "[I") (hts _ (in_t4 (List.mem_of_getElem? (i := 85) (by decide +kernel)))) (hts _ (in_t1 (List.mem_of_getElem? (i := 8) (by decide +kernel)))) ev1 hA
  obtain ⟨t2, ev2, hT2⟩ := va_Tof (tm := .static "MatchFund$Asks" "MARK_BODIES" "[I") (ty := .int) (N := 6) (f := fun j => .int (stH 80 j)) (A := fun q : Nat => s.heap.size ≤ q) (by decide) (hs (.arrayOf (.static "MatchFund$Asks" "MARK_BODIES" "[I") .int) (by decide +kernel)) (va_eqt (z := 6) (hs (.eq (.length (.static "MatchFund$Asks" "MARK_BODIES" "[I")) (.int 6)) (by decide +kernel)))
    (fun j hj => by
      match j, hj with
      | 0, _ => exact va_eqt (z := 20) (hs (.eq (.elem (.static "MatchFund$Asks" "MARK_BODIES" "[I") (.int 0)) (.int 20)) (by decide +kernel))
      | 1, _ => exact va_eqt (z := 21) (hs (.eq (.elem (.static "MatchFund$Asks" "MARK_BODIES" "[I") (.int 1)) (.int 21)) (by decide +kernel))
      | 2, _ => exact va_eqt (z := 24) (hs (.eq (.elem (.static "MatchFund$Asks" "MARK_BODIES" "[I") (.int 2)) (.int 24)) (by decide +kernel))
      | 3, _ => exact va_eqt (z := 22) (hs (.eq (.elem (.static "MatchFund$Asks" "MARK_BODIES" "[I") (.int 3)) (.int 22)) (by decide +kernel))
      | 4, _ => exact va_eqt (z := 23) (hs (.eq (.elem (.static "MatchFund$Asks" "MARK_BODIES" "[I") (.int 4)) (.int 23)) (by decide +kernel))
      | 5, _ => exact va_eqt (z := 0) (hs (.eq (.elem (.static "MatchFund$Asks" "MARK_BODIES" "[I") (.int 5)) (.int 0)) (by decide +kernel))
      | k + 6, hk => exact absurd hk (by omega)) hA
  have hZ2 := va_Zref (C := "MatchFund$Asks") (n := "MARK_BODIES") (d := "[I") (hts _ (in_t4 (List.mem_of_getElem? (i := 104) (by decide +kernel)))) (hts _ (in_t1 (List.mem_of_getElem? (i := 8) (by decide +kernel)))) ev2 hA
  exact ⟨t0, t1, t2, ⟨hZ0, hT0⟩, ⟨hZ1, hT1⟩, ⟨hZ2, hT2⟩, va_Nw.of rfl (hts _ (in_t2 (List.mem_of_getElem? (i := 170) (by decide +kernel)))), va_Nw.of rfl (hts _ (in_t4 (List.mem_of_getElem? (i := 90) (by decide +kernel))))⟩

def PR_row (J : Hp → Prop) : Prop := ∀ H : Hp, J H → ∀ x1 x2 x3 : Int32, ∃ (r : Int32) (H1 H2 : Hp), f_X7_row x1 x2 x3 H = some (r, H1) ∧ f_X8_row x1 x2 x3 H1 = some (r, H2) ∧ J H2
def PR_set (J : Hp → Prop) : Prop := ∀ H : Hp, J H → ∀ x1 x2 x3 : Int32, ∃ (r : Int32) (H1 H2 : Hp), f_X7_set x1 x2 x3 H = some (r, H1) ∧ f_X8_set x1 x2 x3 H1 = some (r, H2) ∧ J H2
def PR_copy (J : Hp → Prop) : Prop := ∀ H : Hp, J H → ∀ x1 x2 x3 x4 x5 : Int32, ∃ (r : Int32) (H1 H2 : Hp), f_X7_copy x1 x2 x3 x4 x5 H = some (r, H1) ∧ f_X8_copy x1 x2 x3 x4 x5 H1 = some (r, H2) ∧ J H2
def PR_drop (J : Hp → Prop) : Prop := ∀ H : Hp, J H → ∀ x1 : Int32, ∃ (r : Int32) (H1 H2 : Hp), f_X7_drop x1 H = some (r, H1) ∧ f_X8_drop x1 H1 = some (r, H2) ∧ J H2
def PR_feed (J : Hp → Prop) : Prop := ∀ H : Hp, J H → ∀ x1 : Int32, ∃ (r : Int32) (H1 H2 : Hp), f_X7_feed x1 H = some (r, H1) ∧ f_X8_feed x1 H1 = some (r, H2) ∧ J H2
def PR_fund (J : Hp → Prop) : Prop := ∀ H : Hp, J H → ∃ (r : Int32) (H1 H2 : Hp), f_X7_fund H = some (r, H1) ∧ f_X8_fund H1 = some (r, H2) ∧ J H2
def PR_fault (J : Hp → Prop) : Prop := ∀ H : Hp, J H → ∃ (r : Int32) (H2 : Hp), f_X7_fault H = some r ∧ f_X8_fault H = some (r, H2) ∧ J H2
def PR_undo (J : Hp → Prop) : Prop := ∀ H : Hp, J H → ∃ (r : Int32) (H1 H2 : Hp), f_X7_undo H = some (r, H1) ∧ f_X8_undo H1 = some (r, H2) ∧ J H2
def PR_give (J : Hp → Prop) : Prop := ∀ H : Hp, J H → ∀ x1 x2 x3 : Int32, ∃ (r : Int32) (H1 H2 : Hp), f_X7_give x1 x2 x3 H = some (r, H1) ∧ f_X8_give x1 x2 x3 H1 = some (r, H2) ∧ J H2
def PR_back (J : Hp → Prop) : Prop := ∀ H : Hp, J H → ∀ x1 : Int32, ∃ (r : Int32) (H1 H2 : Hp), f_X7_back x1 H = some (r, H1) ∧ f_X8_back x1 H1 = some (r, H2) ∧ J H2
def PR_pot (J : Hp → Prop) : Prop := ∀ H : Hp, J H → ∀ x1 : Int32, ∃ (r : Int32) (H1 H2 : Hp), f_X7_pot x1 H = some (r, H1) ∧ f_X8_pot x1 H1 = some (r, H2) ∧ J H2
def PR_become (J : Hp → Prop) : Prop := ∀ H : Hp, J H → ∀ x1 x2 : Int32, ∃ (r : Int32) (H1 H2 : Hp), f_X7_become x1 x2 H = some (r, H1) ∧ f_X8_become x1 x2 H1 = some (r, H2) ∧ J H2
def PR_one (J : Hp → Prop) : Prop := ∀ H : Hp, J H → ∀ x1 x2 : Int32, ∃ (r : Int32) (H1 H2 : Hp), f_X7_one x1 x2 H = some (r, H1) ∧ f_X8_one x1 x2 H1 = some (r, H2) ∧ J H2
def PR_gift (J : Hp → Prop) : Prop := ∀ H : Hp, J H → ∀ x1 x2 : Int32, ∃ (r : Int32) (H2 : Hp), f_X7_gift x1 x2 H = some r ∧ f_X8_gift x1 x2 H = some (r, H2) ∧ J H2
def PR_nameOf (J : Hp → Prop) : Prop := ∀ H : Hp, J H → ∀ x1 : Int32, ∃ (r : Int32) (H2 : Hp), f_X7_nameOf x1 H = some r ∧ f_X8_nameOf x1 H = some (r, H2) ∧ J H2
def PR_root (J : Hp → Prop) : Prop := ∀ H : Hp, J H → ∀ x1 : Int32, ∃ (r : Int32) (H2 : Hp), f_X7_root x1 = some r ∧ f_X8_root x1 H = some (r, H2) ∧ J H2
def PR_sum (J : Hp → Prop) : Prop := ∀ H : Hp, J H → ∀ x1 x2 : Int32, ∃ (r : Int32) (H1 H2 : Hp), f_X7_sum x1 x2 H = some (r, H1) ∧ f_X8_sum x1 x2 H1 = some (r, H2) ∧ J H2
def PR_overlap (J : Hp → Prop) : Prop := ∀ H : Hp, J H → ∀ x1 x2 : Int32, ∃ (r : Int32) (H1 H2 : Hp), f_X7_overlap x1 x2 H = some (r, H1) ∧ f_X8_overlap x1 x2 H1 = some (r, H2) ∧ J H2
def PR_term (J : Hp → Prop) : Prop := ∀ H : Hp, J H → ∀ x1 x2 x3 : Int32, ∃ (r : Int32) (H1 H2 : Hp), f_X7_term x1 x2 x3 H = some (r, H1) ∧ f_X8_term x1 x2 x3 H1 = some (r, H2) ∧ J H2
def PR_project (J : Hp → Prop) : Prop := ∀ H : Hp, J H → ∀ x1 x2 : Int32, ∃ (r : Int32) (H1 H2 : Hp), f_X7_project x1 x2 H = some (r, H1) ∧ f_X8_project x1 x2 H1 = some (r, H2) ∧ J H2
def PR_stand (J : Hp → Prop) : Prop := ∀ H : Hp, J H → ∀ x1 : Int32, ∃ (r : Int32) (H1 H2 : Hp), f_X7_stand x1 H = some (r, H1) ∧ f_X8_stand x1 H1 = some (r, H2) ∧ J H2
def PR_paidIf (J : Hp → Prop) : Prop := ∀ H : Hp, J H → ∀ x1 x2 x3 x4 : Int32, ∃ (r : Int32) (H1 H2 : Hp), f_X7_paidIf x1 x2 x3 x4 H = some (r, H1) ∧ f_X8_paidIf x1 x2 x3 x4 H1 = some (r, H2) ∧ J H2
def PR_best (J : Hp → Prop) : Prop := ∀ H : Hp, J H → ∀ x1 x2 x3 : Int32, ∃ (r : Int32) (H1 H2 : Hp), f_X7_best x1 x2 x3 H = some (r, H1) ∧ f_X8_best x1 x2 x3 H1 = some (r, H2) ∧ J H2
def PR_least (J : Hp → Prop) : Prop := ∀ H : Hp, J H → ∀ x1 x2 x3 : Int32, ∃ (r : Int32) (H1 H2 : Hp), f_X7_least x1 x2 x3 H = some (r, H1) ∧ f_X8_least x1 x2 x3 H1 = some (r, H2) ∧ J H2
def PR_missed (J : Hp → Prop) : Prop := ∀ H : Hp, J H → ∀ x1 x2 : Int32, ∃ (r : Int32) (H1 H2 : Hp), f_X7_missed x1 x2 H = some (r, H1) ∧ f_X8_missed x1 x2 H1 = some (r, H2) ∧ J H2
def PR_ring (J : Hp → Prop) : Prop := ∀ H : Hp, J H → ∀ x1 : Int32, ∃ (r : Int32) (H1 H2 : Hp), f_X7_ring x1 H = some (r, H1) ∧ f_X8_ring x1 H1 = some (r, H2) ∧ J H2
def PR_halves (J : Hp → Prop) : Prop := ∀ H : Hp, J H → ∀ x1 x2 x3 x4 x5 : Int32, ∃ (r : Int32) (H1 H2 : Hp), f_X7_halves x1 x2 x3 x4 x5 H = some (r, H1) ∧ f_X8_halves x1 x2 x3 x4 x5 H1 = some (r, H2) ∧ J H2
def PR_sets (J : Hp → Prop) : Prop := ∀ H : Hp, J H → ∀ x1 x2 : Int32, ∃ (r : Int32) (H1 H2 : Hp), f_X7_sets x1 x2 H = some (r, H1) ∧ f_X8_sets x1 x2 H1 = some (r, H2) ∧ J H2
def PR_byTurns (J : Hp → Prop) : Prop := ∀ H : Hp, J H → ∀ x1 x2 x3 x4 : Int32, ∃ (r : Int32) (H1 H2 : Hp), f_X7_byTurns x1 x2 x3 x4 H = some (r, H1) ∧ f_X8_byTurns x1 x2 x3 x4 H1 = some (r, H2) ∧ J H2
def PR_who (J : Hp → Prop) : Prop := ∀ H : Hp, J H → ∀ x1 x2 x3 x4 : Int32, ∃ (r : Int32) (H1 H2 : Hp), f_X7_who x1 x2 x3 x4 H = some (r, H1) ∧ f_X8_who x1 x2 x3 x4 H1 = some (r, H2) ∧ J H2
def PR_likely (J : Hp → Prop) : Prop := ∀ H : Hp, J H → ∀ x1 x2 x3 x4 : Int32, ∃ (r : Int64) (H1 H2 : Hp), f_X7_likely x1 x2 x3 x4 H = some (r, H1) ∧ f_X8_likely x1 x2 x3 x4 H1 = some (r, H2) ∧ J H2
def PR_drawn (J : Hp → Prop) : Prop := ∀ H : Hp, J H → ∀ x1 x2 x3 : Int32, ∃ (r : Int32) (H1 H2 : Hp), f_X7_drawn x1 x2 x3 H = some (r, H1) ∧ f_X8_drawn x1 x2 x3 H1 = some (r, H2) ∧ J H2
def PR_image (J : Hp → Prop) : Prop := ∀ H : Hp, J H → ∀ x1 : Int32, ∃ (r : Int32) (H1 H2 : Hp), f_X7_image x1 H = some (r, H1) ∧ f_X8_image x1 H1 = some (r, H2) ∧ J H2
def PR_restore (J : Hp → Prop) : Prop := ∀ H : Hp, J H → ∀ x1 : Int32, ∃ (r : Int32) (H1 H2 : Hp), f_X7_restore x1 H = some (r, H1) ∧ f_X8_restore x1 H1 = some (r, H2) ∧ J H2
def PR_kind (J : Hp → Prop) : Prop := ∀ H : Hp, J H → ∀ x1 : Int32, ∃ (r : Int32) (H2 : Hp), f_X7_kind x1 H = some r ∧ f_X8_kind x1 H = some (r, H2) ∧ J H2
def PR_as (J : Hp → Prop) : Prop := ∀ H : Hp, J H → ∀ x1 x2 : Int32, ∃ (r : Int32) (H1 H2 : Hp), f_X7_as x1 x2 H = some (r, H1) ∧ f_X8_as x1 x2 H1 = some (r, H2) ∧ J H2
def PR_ask (J : Hp → Prop) : Prop := ∀ H : Hp, J H → ∀ x1 x2 : Int32, ∃ (r : Int32) (H1 H2 : Hp), f_X7_ask x1 x2 H = some (r, H1) ∧ f_X8_ask x1 x2 H1 = some (r, H2) ∧ J H2
def PR_trace (J : Hp → Prop) : Prop := ∀ H : Hp, J H → ∀ x1 : Int32, ∃ (r : Int32) (H2 : Hp), f_X7_trace x1 H = some r ∧ f_X8_trace x1 H = some (r, H2) ∧ J H2
def PR_count (J : Hp → Prop) : Prop := ∀ H : Hp, J H → ∀ x1 : Int32, ∃ (r : Int32) (H2 : Hp), f_X7_count x1 H = some r ∧ f_X8_count x1 H = some (r, H2) ∧ J H2
def PR_status (J : Hp → Prop) : Prop := ∀ H : Hp, J H → ∃ (r : Int32) (H2 : Hp), f_X7_status H = some r ∧ f_X8_status H = some (r, H2) ∧ J H2
theorem mlL_13 : Cond.methodLink RL 13 yX7_row ∈ gtbl := mem_g (in_t2 (List.mem_of_getElem? (i := 67) (by decide +kernel))) (by decide +kernel)
theorem mlL_17 : Cond.methodLink RL 17 yX8_row ∈ gtbl := mem_g (in_t4 (List.mem_of_getElem? (i := 228) (by decide +kernel))) (by decide +kernel)
theorem mlL_18 : Cond.methodLink RL 18 yX7_set ∈ gtbl := mem_g (in_t2 (List.mem_of_getElem? (i := 91) (by decide +kernel))) (by decide +kernel)
theorem mlL_21 : Cond.methodLink RL 21 yX8_set ∈ gtbl := mem_g (in_t5 (List.mem_of_getElem? (i := 6) (by decide +kernel))) (by decide +kernel)
theorem mlL_22 : Cond.methodLink RL 22 yX7_copy ∈ gtbl := mem_g (in_t2 (List.mem_of_getElem? (i := 107) (by decide +kernel))) (by decide +kernel)
theorem mlL_26 : Cond.methodLink RL 26 yX8_copy ∈ gtbl := mem_g (in_t5 (List.mem_of_getElem? (i := 10) (by decide +kernel))) (by decide +kernel)
theorem mlL_27 : Cond.methodLink RL 27 yX7_drop ∈ gtbl := mem_g (in_t2 (List.mem_of_getElem? (i := 118) (by decide +kernel))) (by decide +kernel)
theorem mlL_31 : Cond.methodLink RL 31 yX8_drop ∈ gtbl := mem_g (in_t5 (List.mem_of_getElem? (i := 14) (by decide +kernel))) (by decide +kernel)
theorem mlL_32 : Cond.methodLink RL 32 yX7_feed ∈ gtbl := mem_g (in_t2 (List.mem_of_getElem? (i := 126) (by decide +kernel))) (by decide +kernel)
theorem mlL_35 : Cond.methodLink RL 35 yX8_feed ∈ gtbl := mem_g (in_t5 (List.mem_of_getElem? (i := 18) (by decide +kernel))) (by decide +kernel)
theorem mlL_36 : Cond.methodLink RL 36 yX7_fund ∈ gtbl := mem_g (in_t2 (List.mem_of_getElem? (i := 135) (by decide +kernel))) (by decide +kernel)
theorem mlL_40 : Cond.methodLink RL 40 yX8_fund ∈ gtbl := mem_g (in_t5 (List.mem_of_getElem? (i := 28) (by decide +kernel))) (by decide +kernel)
theorem mlL_41 : Cond.methodLink RL 41 yX7_fault ∈ gtbl := mem_g (in_t2 (List.mem_of_getElem? (i := 200) (by decide +kernel))) (by decide +kernel)
theorem mlL_44 : Cond.methodLink RL 44 yX8_fault ∈ gtbl := mem_g (in_t5 (List.mem_of_getElem? (i := 24) (by decide +kernel))) (by decide +kernel)
theorem mlL_45 : Cond.methodLink RL 45 yX7_undo ∈ gtbl := mem_g (in_t2 (List.mem_of_getElem? (i := 204) (by decide +kernel))) (by decide +kernel)
theorem mlL_48 : Cond.methodLink RL 48 yX8_undo ∈ gtbl := mem_g (in_t5 (List.mem_of_getElem? (i := 147) (by decide +kernel))) (by decide +kernel)
theorem mlL_49 : Cond.methodLink RL 49 yX7_give ∈ gtbl := mem_g (in_t2 (List.mem_of_getElem? (i := 222) (by decide +kernel))) (by decide +kernel)
theorem mlL_52 : Cond.methodLink RL 52 yX8_give ∈ gtbl := mem_g (in_t5 (List.mem_of_getElem? (i := 95) (by decide +kernel))) (by decide +kernel)
theorem mlL_53 : Cond.methodLink RL 53 yX7_back ∈ gtbl := mem_g (in_t3 (List.mem_of_getElem? (i := 1) (by decide +kernel))) (by decide +kernel)
theorem mlL_56 : Cond.methodLink RL 56 yX8_back ∈ gtbl := mem_g (in_t5 (List.mem_of_getElem? (i := 121) (by decide +kernel))) (by decide +kernel)
theorem mlL_57 : Cond.methodLink RL 57 yX7_pot ∈ gtbl := mem_g (in_t3 (List.mem_of_getElem? (i := 10) (by decide +kernel))) (by decide +kernel)
theorem mlL_60 : Cond.methodLink RL 60 yX8_pot ∈ gtbl := mem_g (in_t5 (List.mem_of_getElem? (i := 132) (by decide +kernel))) (by decide +kernel)
theorem mlL_61 : Cond.methodLink RL 61 yX7_become ∈ gtbl := mem_g (in_t3 (List.mem_of_getElem? (i := 14) (by decide +kernel))) (by decide +kernel)
theorem mlL_65 : Cond.methodLink RL 65 yX8_become ∈ gtbl := mem_g (in_t5 (List.mem_of_getElem? (i := 138) (by decide +kernel))) (by decide +kernel)
theorem mlL_66 : Cond.methodLink RL 66 yX7_one ∈ gtbl := mem_g (in_t3 (List.mem_of_getElem? (i := 18) (by decide +kernel))) (by decide +kernel)
theorem mlL_69 : Cond.methodLink RL 69 yX8_one ∈ gtbl := mem_g (in_t5 (List.mem_of_getElem? (i := 143) (by decide +kernel))) (by decide +kernel)
theorem mlL_70 : Cond.methodLink RL 70 yX7_gift ∈ gtbl := mem_g (in_t3 (List.mem_of_getElem? (i := 30) (by decide +kernel))) (by decide +kernel)
theorem mlL_73 : Cond.methodLink RL 73 yX8_gift ∈ gtbl := mem_g (in_t5 (List.mem_of_getElem? (i := 151) (by decide +kernel))) (by decide +kernel)
theorem mlL_74 : Cond.methodLink RL 74 yX7_nameOf ∈ gtbl := mem_g (in_t3 (List.mem_of_getElem? (i := 34) (by decide +kernel))) (by decide +kernel)
theorem mlL_77 : Cond.methodLink RL 77 yX8_nameOf ∈ gtbl := mem_g (in_t5 (List.mem_of_getElem? (i := 155) (by decide +kernel))) (by decide +kernel)
theorem mlL_78 : Cond.methodLink RL 78 yX7_root ∈ gtbl := mem_g (in_t3 (List.mem_of_getElem? (i := 38) (by decide +kernel))) (by decide +kernel)
theorem mlL_81 : Cond.methodLink RL 81 yX8_root ∈ gtbl := mem_g (in_t5 (List.mem_of_getElem? (i := 159) (by decide +kernel))) (by decide +kernel)
theorem mlL_82 : Cond.methodLink RL 82 yX7_sum ∈ gtbl := mem_g (in_t3 (List.mem_of_getElem? (i := 45) (by decide +kernel))) (by decide +kernel)
theorem mlL_85 : Cond.methodLink RL 85 yX8_sum ∈ gtbl := mem_g (in_t5 (List.mem_of_getElem? (i := 167) (by decide +kernel))) (by decide +kernel)
theorem mlL_86 : Cond.methodLink RL 86 yX7_overlap ∈ gtbl := mem_g (in_t3 (List.mem_of_getElem? (i := 58) (by decide +kernel))) (by decide +kernel)
theorem mlL_89 : Cond.methodLink RL 89 yX8_overlap ∈ gtbl := mem_g (in_t5 (List.mem_of_getElem? (i := 175) (by decide +kernel))) (by decide +kernel)
theorem mlL_90 : Cond.methodLink RL 90 yX7_term ∈ gtbl := mem_g (in_t3 (List.mem_of_getElem? (i := 66) (by decide +kernel))) (by decide +kernel)
theorem mlL_93 : Cond.methodLink RL 93 yX8_term ∈ gtbl := mem_g (in_t5 (List.mem_of_getElem? (i := 179) (by decide +kernel))) (by decide +kernel)
theorem mlL_94 : Cond.methodLink RL 94 yX7_project ∈ gtbl := mem_g (in_t3 (List.mem_of_getElem? (i := 76) (by decide +kernel))) (by decide +kernel)
theorem mlL_97 : Cond.methodLink RL 97 yX8_project ∈ gtbl := mem_g (in_t5 (List.mem_of_getElem? (i := 188) (by decide +kernel))) (by decide +kernel)
theorem mlL_98 : Cond.methodLink RL 98 yX7_stand ∈ gtbl := mem_g (in_t3 (List.mem_of_getElem? (i := 124) (by decide +kernel))) (by decide +kernel)
theorem mlL_101 : Cond.methodLink RL 101 yX8_stand ∈ gtbl := mem_g (in_t5 (List.mem_of_getElem? (i := 227) (by decide +kernel))) (by decide +kernel)
theorem mlL_102 : Cond.methodLink RL 102 yX7_paidIf ∈ gtbl := mem_g (in_t3 (List.mem_of_getElem? (i := 132) (by decide +kernel))) (by decide +kernel)
theorem mlL_106 : Cond.methodLink RL 106 yX8_paidIf ∈ gtbl := mem_g (in_t5 (List.mem_of_getElem? (i := 231) (by decide +kernel))) (by decide +kernel)
theorem mlL_107 : Cond.methodLink RL 107 yX7_best ∈ gtbl := mem_g (in_t3 (List.mem_of_getElem? (i := 146) (by decide +kernel))) (by decide +kernel)
theorem mlL_110 : Cond.methodLink RL 110 yX8_best ∈ gtbl := mem_g (in_t6 (List.mem_of_getElem? (i := 3) (by decide +kernel))) (by decide +kernel)
theorem mlL_111 : Cond.methodLink RL 111 yX7_least ∈ gtbl := mem_g (in_t3 (List.mem_of_getElem? (i := 155) (by decide +kernel))) (by decide +kernel)
theorem mlL_114 : Cond.methodLink RL 114 yX8_least ∈ gtbl := mem_g (in_t6 (List.mem_of_getElem? (i := 7) (by decide +kernel))) (by decide +kernel)
theorem mlL_115 : Cond.methodLink RL 115 yX7_missed ∈ gtbl := mem_g (in_t3 (List.mem_of_getElem? (i := 165) (by decide +kernel))) (by decide +kernel)
theorem mlL_118 : Cond.methodLink RL 118 yX8_missed ∈ gtbl := mem_g (in_t6 (List.mem_of_getElem? (i := 12) (by decide +kernel))) (by decide +kernel)
theorem mlL_119 : Cond.methodLink RL 119 yX7_ring ∈ gtbl := mem_g (in_t3 (List.mem_of_getElem? (i := 179) (by decide +kernel))) (by decide +kernel)
theorem mlL_122 : Cond.methodLink RL 122 yX8_ring ∈ gtbl := mem_g (in_t6 (List.mem_of_getElem? (i := 27) (by decide +kernel))) (by decide +kernel)
theorem mlL_123 : Cond.methodLink RL 123 yX7_halves ∈ gtbl := mem_g (in_t3 (List.mem_of_getElem? (i := 189) (by decide +kernel))) (by decide +kernel)
theorem mlL_126 : Cond.methodLink RL 126 yX8_halves ∈ gtbl := mem_g (in_t6 (List.mem_of_getElem? (i := 31) (by decide +kernel))) (by decide +kernel)
theorem mlL_127 : Cond.methodLink RL 127 yX7_sets ∈ gtbl := mem_g (in_t3 (List.mem_of_getElem? (i := 197) (by decide +kernel))) (by decide +kernel)
theorem mlL_130 : Cond.methodLink RL 130 yX8_sets ∈ gtbl := mem_g (in_t6 (List.mem_of_getElem? (i := 36) (by decide +kernel))) (by decide +kernel)
theorem mlL_131 : Cond.methodLink RL 131 yX7_byTurns ∈ gtbl := mem_g (in_t3 (List.mem_of_getElem? (i := 209) (by decide +kernel))) (by decide +kernel)
theorem mlL_134 : Cond.methodLink RL 134 yX8_byTurns ∈ gtbl := mem_g (in_t6 (List.mem_of_getElem? (i := 40) (by decide +kernel))) (by decide +kernel)
theorem mlL_135 : Cond.methodLink RL 135 yX7_who ∈ gtbl := mem_g (in_t3 (List.mem_of_getElem? (i := 223) (by decide +kernel))) (by decide +kernel)
theorem mlL_138 : Cond.methodLink RL 138 yX8_who ∈ gtbl := mem_g (in_t6 (List.mem_of_getElem? (i := 50) (by decide +kernel))) (by decide +kernel)
theorem mlL_139 : Cond.methodLink RL 139 yX7_likely ∈ gtbl := mem_g (in_t4 (List.mem_of_getElem? (i := 12) (by decide +kernel))) (by decide +kernel)
theorem mlL_143 : Cond.methodLink RL 143 yX8_likely ∈ gtbl := mem_g (in_t6 (List.mem_of_getElem? (i := 74) (by decide +kernel))) (by decide +kernel)
theorem mlL_144 : Cond.methodLink RL 144 yX7_drawn ∈ gtbl := mem_g (in_t4 (List.mem_of_getElem? (i := 30) (by decide +kernel))) (by decide +kernel)
theorem mlL_147 : Cond.methodLink RL 147 yX8_drawn ∈ gtbl := mem_g (in_t6 (List.mem_of_getElem? (i := 80) (by decide +kernel))) (by decide +kernel)
theorem mlL_148 : Cond.methodLink RL 148 yX7_image ∈ gtbl := mem_g (in_t4 (List.mem_of_getElem? (i := 51) (by decide +kernel))) (by decide +kernel)
theorem mlL_151 : Cond.methodLink RL 151 yX8_image ∈ gtbl := mem_g (in_t6 (List.mem_of_getElem? (i := 91) (by decide +kernel))) (by decide +kernel)
theorem mlL_152 : Cond.methodLink RL 152 yX7_restore ∈ gtbl := mem_g (in_t4 (List.mem_of_getElem? (i := 55) (by decide +kernel))) (by decide +kernel)
theorem mlL_155 : Cond.methodLink RL 155 yX8_restore ∈ gtbl := mem_g (in_t6 (List.mem_of_getElem? (i := 95) (by decide +kernel))) (by decide +kernel)
theorem mlL_156 : Cond.methodLink RL 156 yX7_kind ∈ gtbl := mem_g (in_t4 (List.mem_of_getElem? (i := 59) (by decide +kernel))) (by decide +kernel)
theorem mlL_159 : Cond.methodLink RL 159 yX8_kind ∈ gtbl := mem_g (in_t6 (List.mem_of_getElem? (i := 99) (by decide +kernel))) (by decide +kernel)
theorem mlL_160 : Cond.methodLink RL 160 yX7_as ∈ gtbl := mem_g (in_t4 (List.mem_of_getElem? (i := 63) (by decide +kernel))) (by decide +kernel)
theorem mlL_163 : Cond.methodLink RL 163 yX8_as ∈ gtbl := mem_g (in_t6 (List.mem_of_getElem? (i := 103) (by decide +kernel))) (by decide +kernel)
theorem mlL_164 : Cond.methodLink RL 164 yX7_ask ∈ gtbl := mem_g (in_t4 (List.mem_of_getElem? (i := 72) (by decide +kernel))) (by decide +kernel)
theorem mlL_167 : Cond.methodLink RL 167 yX8_ask ∈ gtbl := mem_g (in_t6 (List.mem_of_getElem? (i := 110) (by decide +kernel))) (by decide +kernel)
theorem mlL_168 : Cond.methodLink RL 168 yX7_trace ∈ gtbl := mem_g (in_t4 (List.mem_of_getElem? (i := 109) (by decide +kernel))) (by decide +kernel)
theorem mlL_171 : Cond.methodLink RL 171 yX8_trace ∈ gtbl := mem_g (in_t6 (List.mem_of_getElem? (i := 134) (by decide +kernel))) (by decide +kernel)
theorem mlL_172 : Cond.methodLink RL 172 yX7_count ∈ gtbl := mem_g (in_t4 (List.mem_of_getElem? (i := 114) (by decide +kernel))) (by decide +kernel)
theorem mlL_175 : Cond.methodLink RL 175 yX8_count ∈ gtbl := mem_g (in_t6 (List.mem_of_getElem? (i := 138) (by decide +kernel))) (by decide +kernel)
theorem mlL_176 : Cond.methodLink RL 176 yX7_status ∈ gtbl := mem_g (in_t4 (List.mem_of_getElem? (i := 127) (by decide +kernel))) (by decide +kernel)
theorem mlL_179 : Cond.methodLink RL 179 yX8_status ∈ gtbl := mem_g (in_t6 (List.mem_of_getElem? (i := 142) (by decide +kernel))) (by decide +kernel)
theorem claL_7 : Cond.classLink RL 7 RX7 ∈ gtbl := mem_g (in_t1 (List.mem_of_getElem? (i := 12) (by decide +kernel))) (by decide +kernel)
theorem claL_10 : Cond.classLink RL 10 RX8 ∈ gtbl := mem_g (in_t4 (List.mem_of_getElem? (i := 131) (by decide +kernel))) (by decide +kernel)
theorem mlL_9 : Cond.methodLink RL 9 yX7_init ∈ gtbl := mem_g (in_t1 (List.mem_of_getElem? (i := 14) (by decide +kernel))) (by decide +kernel)
theorem mlL_12 : Cond.methodLink RL 12 yX8_init ∈ gtbl := mem_g (in_t4 (List.mem_of_getElem? (i := 133) (by decide +kernel))) (by decide +kernel)
set_option maxHeartbeats 4000000 in
set_option maxRecDepth 100000 in
theorem lc_row {p : Program} {l : Launch} {e : Env} {s : State} {m : MethodId} {below : List Frame} {meth : Method} {c : Code} {b L : Nat} {xs : Nat → Int32} {K : GC} (C0 : LC p s m meth c b L xs K) (hL : L ≤ 3072) {J : Hp → Prop} (hp : PR_row J) {i : Nat} (hi : 6 * i + 6 ≤ L) {H : Hp} (hJ : J H) (nx : ∀ H2, J H2 → VL p l e s m below meth c b K 1529 [.ref 81, .ref 0, .ref 60, .int (nI (6 * i))] [] H2) : VL p l e s m below meth c b K 208 [.ref 81, .ref 0, .ref 60, .int (nI (6 * i))] [] H := by
  obtain ⟨r, H1, H2, e1, e2, hJ2⟩ := hp H hJ (xs (nI (6 * i) + 1).toNatClampNeg) (xs (nI (6 * i) + 2).toNatClampNeg) (xs (nI (6 * i) + 3).toNatClampNeg)
  refine vl_aload_n C0 dL_law_208 rfl rfl ?_
  refine vl_aload_n C0 dL_law_209 rfl rfl ?_
  refine vl_iload_n C0 dL_law_210 rfl rfl ?_
  refine vl_iconst C0 dL_law_211 (v := 1) rfl ?_
  refine vl_iadd C0 dL_law_212 ?_
  refine vl_sld C0 dL_law_213 (vin1 hi hL) ?_
  refine vl_aload_n C0 dL_law_214 rfl rfl ?_
  refine vl_iload_n C0 dL_law_215 rfl rfl ?_
  refine vl_iconst C0 dL_law_216 (v := 2) rfl ?_
  refine vl_iadd C0 dL_law_217 ?_
  refine vl_sld C0 dL_law_218 (vin2 hi hL) ?_
  refine vl_aload_n C0 dL_law_219 rfl rfl ?_
  refine vl_iload_n C0 dL_law_220 rfl rfl ?_
  refine vl_iconst C0 dL_law_221 (v := 3) rfl ?_
  refine vl_iadd C0 dL_law_222 ?_
  refine vl_sld C0 dL_law_223 (vin3 hi hL) ?_
  refine vl_callV C0 [.int (xs (nI (6 * i) + 1).toNatClampNeg), .int (xs (nI (6 * i) + 2).toNatClampNeg), .int (xs (nI (6 * i) + 3).toNatClampNeg)] dL_law_224 co_X7_row im_X7_row se_X7_row mlL_13 rfl (c0 := 0) (by decide) (rfl : sh 0 = (0, 7)) (rfl : classes[7]? = some (RX7, TX7, 11)) rfl (S := []) rfl (Nat.le_of_ble_eq_true rfl) (k_X7_row (D := 60) (by omega) (xs (nI (6 * i) + 1).toNatClampNeg) (xs (nI (6 * i) + 2).toNatClampNeg) (xs (nI (6 * i) + 3).toNatClampNeg) H _ e1 ?_)
  show VL p l e s m below meth c b K 227 [.ref 81, .ref 0, .ref 60, .int (nI (6 * i))] [.int r] H1
  refine vl_aload_n C0 dL_law_227 rfl rfl ?_
  refine vl_aload_n C0 dL_law_228 rfl rfl ?_
  refine vl_iload_n C0 dL_law_229 rfl rfl ?_
  refine vl_iconst C0 dL_law_230 (v := 1) rfl ?_
  refine vl_iadd C0 dL_law_231 ?_
  refine vl_sld C0 dL_law_232 (vin1 hi hL) ?_
  refine vl_aload_n C0 dL_law_233 rfl rfl ?_
  refine vl_iload_n C0 dL_law_234 rfl rfl ?_
  refine vl_iconst C0 dL_law_235 (v := 2) rfl ?_
  refine vl_iadd C0 dL_law_236 ?_
  refine vl_sld C0 dL_law_237 (vin2 hi hL) ?_
  refine vl_aload_n C0 dL_law_238 rfl rfl ?_
  refine vl_iload_n C0 dL_law_239 rfl rfl ?_
  refine vl_iconst C0 dL_law_240 (v := 3) rfl ?_
  refine vl_iadd C0 dL_law_241 ?_
  refine vl_sld C0 dL_law_242 (vin3 hi hL) ?_
  refine vl_callV C0 [.int (xs (nI (6 * i) + 1).toNatClampNeg), .int (xs (nI (6 * i) + 2).toNatClampNeg), .int (xs (nI (6 * i) + 3).toNatClampNeg)] dL_law_243 co_X8_row im_X8_row se_X8_row mlL_17 rfl (c0 := 60) (by decide) (rfl : sh 60 = (0, 8)) (rfl : classes[8]? = some (RX8, TX8, 30)) rfl (S := [.int r]) rfl (Nat.le_of_ble_eq_true rfl) (k_X8_row (D := 60) (by omega) (xs (nI (6 * i) + 1).toNatClampNeg) (xs (nI (6 * i) + 2).toNatClampNeg) (xs (nI (6 * i) + 3).toNatClampNeg) H1 _ e2 ?_)
  show VL p l e s m below meth c b K 246 [.ref 81, .ref 0, .ref 60, .int (nI (6 * i))] [.int r, .int r] H2
  refine vl_icmp_eq C0 dL_law_246 1529 (by decide) (fun _ => nx H2 hJ2) (fun z => absurd rfl z)
set_option maxHeartbeats 4000000 in
set_option maxRecDepth 100000 in
theorem lc_set {p : Program} {l : Launch} {e : Env} {s : State} {m : MethodId} {below : List Frame} {meth : Method} {c : Code} {b L : Nat} {xs : Nat → Int32} {K : GC} (C0 : LC p s m meth c b L xs K) (hL : L ≤ 3072) {J : Hp → Prop} (hp : PR_set J) {i : Nat} (hi : 6 * i + 6 ≤ L) {H : Hp} (hJ : J H) (nx : ∀ H2, J H2 → VL p l e s m below meth c b K 1529 [.ref 81, .ref 0, .ref 60, .int (nI (6 * i))] [] H2) : VL p l e s m below meth c b K 251 [.ref 81, .ref 0, .ref 60, .int (nI (6 * i))] [] H := by
  obtain ⟨r, H1, H2, e1, e2, hJ2⟩ := hp H hJ (xs (nI (6 * i) + 1).toNatClampNeg) (xs (nI (6 * i) + 2).toNatClampNeg) (xs (nI (6 * i) + 3).toNatClampNeg)
  refine vl_aload_n C0 dL_law_251 rfl rfl ?_
  refine vl_aload_n C0 dL_law_252 rfl rfl ?_
  refine vl_iload_n C0 dL_law_253 rfl rfl ?_
  refine vl_iconst C0 dL_law_254 (v := 1) rfl ?_
  refine vl_iadd C0 dL_law_255 ?_
  refine vl_sld C0 dL_law_256 (vin1 hi hL) ?_
  refine vl_aload_n C0 dL_law_257 rfl rfl ?_
  refine vl_iload_n C0 dL_law_258 rfl rfl ?_
  refine vl_iconst C0 dL_law_259 (v := 2) rfl ?_
  refine vl_iadd C0 dL_law_260 ?_
  refine vl_sld C0 dL_law_261 (vin2 hi hL) ?_
  refine vl_aload_n C0 dL_law_262 rfl rfl ?_
  refine vl_iload_n C0 dL_law_263 rfl rfl ?_
  refine vl_iconst C0 dL_law_264 (v := 3) rfl ?_
  refine vl_iadd C0 dL_law_265 ?_
  refine vl_sld C0 dL_law_266 (vin3 hi hL) ?_
  refine vl_callV C0 [.int (xs (nI (6 * i) + 1).toNatClampNeg), .int (xs (nI (6 * i) + 2).toNatClampNeg), .int (xs (nI (6 * i) + 3).toNatClampNeg)] dL_law_267 co_X7_set im_X7_set se_X7_set mlL_18 rfl (c0 := 0) (by decide) (rfl : sh 0 = (0, 7)) (rfl : classes[7]? = some (RX7, TX7, 11)) rfl (S := []) rfl (Nat.le_of_ble_eq_true rfl) (k_X7_set (D := 60) (by omega) (xs (nI (6 * i) + 1).toNatClampNeg) (xs (nI (6 * i) + 2).toNatClampNeg) (xs (nI (6 * i) + 3).toNatClampNeg) H _ e1 ?_)
  show VL p l e s m below meth c b K 270 [.ref 81, .ref 0, .ref 60, .int (nI (6 * i))] [.int r] H1
  refine vl_aload_n C0 dL_law_270 rfl rfl ?_
  refine vl_aload_n C0 dL_law_271 rfl rfl ?_
  refine vl_iload_n C0 dL_law_272 rfl rfl ?_
  refine vl_iconst C0 dL_law_273 (v := 1) rfl ?_
  refine vl_iadd C0 dL_law_274 ?_
  refine vl_sld C0 dL_law_275 (vin1 hi hL) ?_
  refine vl_aload_n C0 dL_law_276 rfl rfl ?_
  refine vl_iload_n C0 dL_law_277 rfl rfl ?_
  refine vl_iconst C0 dL_law_278 (v := 2) rfl ?_
  refine vl_iadd C0 dL_law_279 ?_
  refine vl_sld C0 dL_law_280 (vin2 hi hL) ?_
  refine vl_aload_n C0 dL_law_281 rfl rfl ?_
  refine vl_iload_n C0 dL_law_282 rfl rfl ?_
  refine vl_iconst C0 dL_law_283 (v := 3) rfl ?_
  refine vl_iadd C0 dL_law_284 ?_
  refine vl_sld C0 dL_law_285 (vin3 hi hL) ?_
  refine vl_callV C0 [.int (xs (nI (6 * i) + 1).toNatClampNeg), .int (xs (nI (6 * i) + 2).toNatClampNeg), .int (xs (nI (6 * i) + 3).toNatClampNeg)] dL_law_286 co_X8_set im_X8_set se_X8_set mlL_21 rfl (c0 := 60) (by decide) (rfl : sh 60 = (0, 8)) (rfl : classes[8]? = some (RX8, TX8, 30)) rfl (S := [.int r]) rfl (Nat.le_of_ble_eq_true rfl) (k_X8_set (D := 60) (by omega) (xs (nI (6 * i) + 1).toNatClampNeg) (xs (nI (6 * i) + 2).toNatClampNeg) (xs (nI (6 * i) + 3).toNatClampNeg) H1 _ e2 ?_)
  show VL p l e s m below meth c b K 289 [.ref 81, .ref 0, .ref 60, .int (nI (6 * i))] [.int r, .int r] H2
  refine vl_icmp_eq C0 dL_law_289 1529 (by decide) (fun _ => nx H2 hJ2) (fun z => absurd rfl z)
set_option maxHeartbeats 4000000 in
set_option maxRecDepth 100000 in
theorem lc_copy {p : Program} {l : Launch} {e : Env} {s : State} {m : MethodId} {below : List Frame} {meth : Method} {c : Code} {b L : Nat} {xs : Nat → Int32} {K : GC} (C0 : LC p s m meth c b L xs K) (hL : L ≤ 3072) {J : Hp → Prop} (hp : PR_copy J) {i : Nat} (hi : 6 * i + 6 ≤ L) {H : Hp} (hJ : J H) (nx : ∀ H2, J H2 → VL p l e s m below meth c b K 1529 [.ref 81, .ref 0, .ref 60, .int (nI (6 * i))] [] H2) : VL p l e s m below meth c b K 294 [.ref 81, .ref 0, .ref 60, .int (nI (6 * i))] [] H := by
  obtain ⟨r, H1, H2, e1, e2, hJ2⟩ := hp H hJ (xs (nI (6 * i) + 1).toNatClampNeg) (xs (nI (6 * i) + 2).toNatClampNeg) (xs (nI (6 * i) + 3).toNatClampNeg) (xs (nI (6 * i) + 4).toNatClampNeg) (xs (nI (6 * i) + 5).toNatClampNeg)
  refine vl_aload_n C0 dL_law_294 rfl rfl ?_
  refine vl_aload_n C0 dL_law_295 rfl rfl ?_
  refine vl_iload_n C0 dL_law_296 rfl rfl ?_
  refine vl_iconst C0 dL_law_297 (v := 1) rfl ?_
  refine vl_iadd C0 dL_law_298 ?_
  refine vl_sld C0 dL_law_299 (vin1 hi hL) ?_
  refine vl_aload_n C0 dL_law_300 rfl rfl ?_
  refine vl_iload_n C0 dL_law_301 rfl rfl ?_
  refine vl_iconst C0 dL_law_302 (v := 2) rfl ?_
  refine vl_iadd C0 dL_law_303 ?_
  refine vl_sld C0 dL_law_304 (vin2 hi hL) ?_
  refine vl_aload_n C0 dL_law_305 rfl rfl ?_
  refine vl_iload_n C0 dL_law_306 rfl rfl ?_
  refine vl_iconst C0 dL_law_307 (v := 3) rfl ?_
  refine vl_iadd C0 dL_law_308 ?_
  refine vl_sld C0 dL_law_309 (vin3 hi hL) ?_
  refine vl_aload_n C0 dL_law_310 rfl rfl ?_
  refine vl_iload_n C0 dL_law_311 rfl rfl ?_
  refine vl_iconst C0 dL_law_312 (v := 4) rfl ?_
  refine vl_iadd C0 dL_law_313 ?_
  refine vl_sld C0 dL_law_314 (vin4 hi hL) ?_
  refine vl_aload_n C0 dL_law_315 rfl rfl ?_
  refine vl_iload_n C0 dL_law_316 rfl rfl ?_
  refine vl_iconst C0 dL_law_317 (v := 5) rfl ?_
  refine vl_iadd C0 dL_law_318 ?_
  refine vl_sld C0 dL_law_319 (vin5 hi hL) ?_
  refine vl_callV C0 [.int (xs (nI (6 * i) + 1).toNatClampNeg), .int (xs (nI (6 * i) + 2).toNatClampNeg), .int (xs (nI (6 * i) + 3).toNatClampNeg), .int (xs (nI (6 * i) + 4).toNatClampNeg), .int (xs (nI (6 * i) + 5).toNatClampNeg)] dL_law_320 co_X7_copy im_X7_copy se_X7_copy mlL_22 rfl (c0 := 0) (by decide) (rfl : sh 0 = (0, 7)) (rfl : classes[7]? = some (RX7, TX7, 11)) rfl (S := []) rfl (Nat.le_of_ble_eq_true rfl) (k_X7_copy (D := 60) (by omega) (xs (nI (6 * i) + 1).toNatClampNeg) (xs (nI (6 * i) + 2).toNatClampNeg) (xs (nI (6 * i) + 3).toNatClampNeg) (xs (nI (6 * i) + 4).toNatClampNeg) (xs (nI (6 * i) + 5).toNatClampNeg) H _ e1 ?_)
  show VL p l e s m below meth c b K 323 [.ref 81, .ref 0, .ref 60, .int (nI (6 * i))] [.int r] H1
  refine vl_aload_n C0 dL_law_323 rfl rfl ?_
  refine vl_aload_n C0 dL_law_324 rfl rfl ?_
  refine vl_iload_n C0 dL_law_325 rfl rfl ?_
  refine vl_iconst C0 dL_law_326 (v := 1) rfl ?_
  refine vl_iadd C0 dL_law_327 ?_
  refine vl_sld C0 dL_law_328 (vin1 hi hL) ?_
  refine vl_aload_n C0 dL_law_329 rfl rfl ?_
  refine vl_iload_n C0 dL_law_330 rfl rfl ?_
  refine vl_iconst C0 dL_law_331 (v := 2) rfl ?_
  refine vl_iadd C0 dL_law_332 ?_
  refine vl_sld C0 dL_law_333 (vin2 hi hL) ?_
  refine vl_aload_n C0 dL_law_334 rfl rfl ?_
  refine vl_iload_n C0 dL_law_335 rfl rfl ?_
  refine vl_iconst C0 dL_law_336 (v := 3) rfl ?_
  refine vl_iadd C0 dL_law_337 ?_
  refine vl_sld C0 dL_law_338 (vin3 hi hL) ?_
  refine vl_aload_n C0 dL_law_339 rfl rfl ?_
  refine vl_iload_n C0 dL_law_340 rfl rfl ?_
  refine vl_iconst C0 dL_law_341 (v := 4) rfl ?_
  refine vl_iadd C0 dL_law_342 ?_
  refine vl_sld C0 dL_law_343 (vin4 hi hL) ?_
  refine vl_aload_n C0 dL_law_344 rfl rfl ?_
  refine vl_iload_n C0 dL_law_345 rfl rfl ?_
  refine vl_iconst C0 dL_law_346 (v := 5) rfl ?_
  refine vl_iadd C0 dL_law_347 ?_
  refine vl_sld C0 dL_law_348 (vin5 hi hL) ?_
  refine vl_callV C0 [.int (xs (nI (6 * i) + 1).toNatClampNeg), .int (xs (nI (6 * i) + 2).toNatClampNeg), .int (xs (nI (6 * i) + 3).toNatClampNeg), .int (xs (nI (6 * i) + 4).toNatClampNeg), .int (xs (nI (6 * i) + 5).toNatClampNeg)] dL_law_349 co_X8_copy im_X8_copy se_X8_copy mlL_26 rfl (c0 := 60) (by decide) (rfl : sh 60 = (0, 8)) (rfl : classes[8]? = some (RX8, TX8, 30)) rfl (S := [.int r]) rfl (Nat.le_of_ble_eq_true rfl) (k_X8_copy (D := 60) (by omega) (xs (nI (6 * i) + 1).toNatClampNeg) (xs (nI (6 * i) + 2).toNatClampNeg) (xs (nI (6 * i) + 3).toNatClampNeg) (xs (nI (6 * i) + 4).toNatClampNeg) (xs (nI (6 * i) + 5).toNatClampNeg) H1 _ e2 ?_)
  show VL p l e s m below meth c b K 352 [.ref 81, .ref 0, .ref 60, .int (nI (6 * i))] [.int r, .int r] H2
  refine vl_icmp_eq C0 dL_law_352 1529 (by decide) (fun _ => nx H2 hJ2) (fun z => absurd rfl z)
set_option maxHeartbeats 4000000 in
set_option maxRecDepth 100000 in
theorem lc_drop {p : Program} {l : Launch} {e : Env} {s : State} {m : MethodId} {below : List Frame} {meth : Method} {c : Code} {b L : Nat} {xs : Nat → Int32} {K : GC} (C0 : LC p s m meth c b L xs K) (hL : L ≤ 3072) {J : Hp → Prop} (hp : PR_drop J) {i : Nat} (hi : 6 * i + 6 ≤ L) {H : Hp} (hJ : J H) (nx : ∀ H2, J H2 → VL p l e s m below meth c b K 1529 [.ref 81, .ref 0, .ref 60, .int (nI (6 * i))] [] H2) : VL p l e s m below meth c b K 357 [.ref 81, .ref 0, .ref 60, .int (nI (6 * i))] [] H := by
  obtain ⟨r, H1, H2, e1, e2, hJ2⟩ := hp H hJ (xs (nI (6 * i) + 1).toNatClampNeg)
  refine vl_aload_n C0 dL_law_357 rfl rfl ?_
  refine vl_aload_n C0 dL_law_358 rfl rfl ?_
  refine vl_iload_n C0 dL_law_359 rfl rfl ?_
  refine vl_iconst C0 dL_law_360 (v := 1) rfl ?_
  refine vl_iadd C0 dL_law_361 ?_
  refine vl_sld C0 dL_law_362 (vin1 hi hL) ?_
  refine vl_callV C0 [.int (xs (nI (6 * i) + 1).toNatClampNeg)] dL_law_363 co_X7_drop im_X7_drop se_X7_drop mlL_27 rfl (c0 := 0) (by decide) (rfl : sh 0 = (0, 7)) (rfl : classes[7]? = some (RX7, TX7, 11)) rfl (S := []) rfl (Nat.le_of_ble_eq_true rfl) (k_X7_drop (D := 60) (by omega) (xs (nI (6 * i) + 1).toNatClampNeg) H _ e1 ?_)
  show VL p l e s m below meth c b K 366 [.ref 81, .ref 0, .ref 60, .int (nI (6 * i))] [.int r] H1
  refine vl_aload_n C0 dL_law_366 rfl rfl ?_
  refine vl_aload_n C0 dL_law_367 rfl rfl ?_
  refine vl_iload_n C0 dL_law_368 rfl rfl ?_
  refine vl_iconst C0 dL_law_369 (v := 1) rfl ?_
  refine vl_iadd C0 dL_law_370 ?_
  refine vl_sld C0 dL_law_371 (vin1 hi hL) ?_
  refine vl_callV C0 [.int (xs (nI (6 * i) + 1).toNatClampNeg)] dL_law_372 co_X8_drop im_X8_drop se_X8_drop mlL_31 rfl (c0 := 60) (by decide) (rfl : sh 60 = (0, 8)) (rfl : classes[8]? = some (RX8, TX8, 30)) rfl (S := [.int r]) rfl (Nat.le_of_ble_eq_true rfl) (k_X8_drop (D := 60) (by omega) (xs (nI (6 * i) + 1).toNatClampNeg) H1 _ e2 ?_)
  show VL p l e s m below meth c b K 375 [.ref 81, .ref 0, .ref 60, .int (nI (6 * i))] [.int r, .int r] H2
  refine vl_icmp_eq C0 dL_law_375 1529 (by decide) (fun _ => nx H2 hJ2) (fun z => absurd rfl z)
set_option maxHeartbeats 4000000 in
set_option maxRecDepth 100000 in
theorem lc_feed {p : Program} {l : Launch} {e : Env} {s : State} {m : MethodId} {below : List Frame} {meth : Method} {c : Code} {b L : Nat} {xs : Nat → Int32} {K : GC} (C0 : LC p s m meth c b L xs K) (hL : L ≤ 3072) {J : Hp → Prop} (hp : PR_feed J) {i : Nat} (hi : 6 * i + 6 ≤ L) {H : Hp} (hJ : J H) (nx : ∀ H2, J H2 → VL p l e s m below meth c b K 1529 [.ref 81, .ref 0, .ref 60, .int (nI (6 * i))] [] H2) : VL p l e s m below meth c b K 380 [.ref 81, .ref 0, .ref 60, .int (nI (6 * i))] [] H := by
  obtain ⟨r, H1, H2, e1, e2, hJ2⟩ := hp H hJ (xs (nI (6 * i) + 1).toNatClampNeg)
  refine vl_aload_n C0 dL_law_380 rfl rfl ?_
  refine vl_aload_n C0 dL_law_381 rfl rfl ?_
  refine vl_iload_n C0 dL_law_382 rfl rfl ?_
  refine vl_iconst C0 dL_law_383 (v := 1) rfl ?_
  refine vl_iadd C0 dL_law_384 ?_
  refine vl_sld C0 dL_law_385 (vin1 hi hL) ?_
  refine vl_callV C0 [.int (xs (nI (6 * i) + 1).toNatClampNeg)] dL_law_386 co_X7_feed im_X7_feed se_X7_feed mlL_32 rfl (c0 := 0) (by decide) (rfl : sh 0 = (0, 7)) (rfl : classes[7]? = some (RX7, TX7, 11)) rfl (S := []) rfl (Nat.le_of_ble_eq_true rfl) (k_X7_feed (D := 60) (by omega) (xs (nI (6 * i) + 1).toNatClampNeg) H _ e1 ?_)
  show VL p l e s m below meth c b K 389 [.ref 81, .ref 0, .ref 60, .int (nI (6 * i))] [.int r] H1
  refine vl_aload_n C0 dL_law_389 rfl rfl ?_
  refine vl_aload_n C0 dL_law_390 rfl rfl ?_
  refine vl_iload_n C0 dL_law_391 rfl rfl ?_
  refine vl_iconst C0 dL_law_392 (v := 1) rfl ?_
  refine vl_iadd C0 dL_law_393 ?_
  refine vl_sld C0 dL_law_394 (vin1 hi hL) ?_
  refine vl_callV C0 [.int (xs (nI (6 * i) + 1).toNatClampNeg)] dL_law_395 co_X8_feed im_X8_feed se_X8_feed mlL_35 rfl (c0 := 60) (by decide) (rfl : sh 60 = (0, 8)) (rfl : classes[8]? = some (RX8, TX8, 30)) rfl (S := [.int r]) rfl (Nat.le_of_ble_eq_true rfl) (k_X8_feed (D := 60) (by omega) (xs (nI (6 * i) + 1).toNatClampNeg) H1 _ e2 ?_)
  show VL p l e s m below meth c b K 398 [.ref 81, .ref 0, .ref 60, .int (nI (6 * i))] [.int r, .int r] H2
  refine vl_icmp_eq C0 dL_law_398 1529 (by decide) (fun _ => nx H2 hJ2) (fun z => absurd rfl z)
set_option maxHeartbeats 4000000 in
set_option maxRecDepth 100000 in
theorem lc_fund {p : Program} {l : Launch} {e : Env} {s : State} {m : MethodId} {below : List Frame} {meth : Method} {c : Code} {b L : Nat} {xs : Nat → Int32} {K : GC} (C0 : LC p s m meth c b L xs K) (hL : L ≤ 3072) {J : Hp → Prop} (hp : PR_fund J) {i : Nat} (hi : 6 * i + 6 ≤ L) {H : Hp} (hJ : J H) (nx : ∀ H2, J H2 → VL p l e s m below meth c b K 1529 [.ref 81, .ref 0, .ref 60, .int (nI (6 * i))] [] H2) : VL p l e s m below meth c b K 403 [.ref 81, .ref 0, .ref 60, .int (nI (6 * i))] [] H := by
  obtain ⟨r, H1, H2, e1, e2, hJ2⟩ := hp H hJ
  refine vl_aload_n C0 dL_law_403 rfl rfl ?_
  refine vl_callV C0 [] dL_law_404 co_X7_fund im_X7_fund se_X7_fund mlL_36 rfl (c0 := 0) (by decide) (rfl : sh 0 = (0, 7)) (rfl : classes[7]? = some (RX7, TX7, 11)) rfl (S := []) rfl (Nat.le_of_ble_eq_true rfl) (k_X7_fund (D := 60) (by omega) H _ e1 ?_)
  show VL p l e s m below meth c b K 407 [.ref 81, .ref 0, .ref 60, .int (nI (6 * i))] [.int r] H1
  refine vl_aload_n C0 dL_law_407 rfl rfl ?_
  refine vl_callV C0 [] dL_law_408 co_X8_fund im_X8_fund se_X8_fund mlL_40 rfl (c0 := 60) (by decide) (rfl : sh 60 = (0, 8)) (rfl : classes[8]? = some (RX8, TX8, 30)) rfl (S := [.int r]) rfl (Nat.le_of_ble_eq_true rfl) (k_X8_fund (D := 60) (by omega) H1 _ e2 ?_)
  show VL p l e s m below meth c b K 411 [.ref 81, .ref 0, .ref 60, .int (nI (6 * i))] [.int r, .int r] H2
  refine vl_icmp_eq C0 dL_law_411 1529 (by decide) (fun _ => nx H2 hJ2) (fun z => absurd rfl z)
set_option maxHeartbeats 4000000 in
set_option maxRecDepth 100000 in
theorem lc_fault {p : Program} {l : Launch} {e : Env} {s : State} {m : MethodId} {below : List Frame} {meth : Method} {c : Code} {b L : Nat} {xs : Nat → Int32} {K : GC} (C0 : LC p s m meth c b L xs K) (hL : L ≤ 3072) {J : Hp → Prop} (hp : PR_fault J) {i : Nat} (hi : 6 * i + 6 ≤ L) {H : Hp} (hJ : J H) (nx : ∀ H2, J H2 → VL p l e s m below meth c b K 1529 [.ref 81, .ref 0, .ref 60, .int (nI (6 * i))] [] H2) : VL p l e s m below meth c b K 416 [.ref 81, .ref 0, .ref 60, .int (nI (6 * i))] [] H := by
  obtain ⟨r, H2, e1, e2, hJ2⟩ := hp H hJ
  refine vl_aload_n C0 dL_law_416 rfl rfl ?_
  refine vl_callV C0 [] dL_law_417 co_X7_fault im_X7_fault se_X7_fault mlL_41 rfl (c0 := 0) (by decide) (rfl : sh 0 = (0, 7)) (rfl : classes[7]? = some (RX7, TX7, 11)) rfl (S := []) rfl (Nat.le_of_ble_eq_true rfl) (k_X7_fault (D := 60) (by omega) H _ e1 ?_)
  show VL p l e s m below meth c b K 420 [.ref 81, .ref 0, .ref 60, .int (nI (6 * i))] [.int r] H
  refine vl_aload_n C0 dL_law_420 rfl rfl ?_
  refine vl_callV C0 [] dL_law_421 co_X8_fault im_X8_fault se_X8_fault mlL_44 rfl (c0 := 60) (by decide) (rfl : sh 60 = (0, 8)) (rfl : classes[8]? = some (RX8, TX8, 30)) rfl (S := [.int r]) rfl (Nat.le_of_ble_eq_true rfl) (k_X8_fault (D := 60) (by omega) H _ e2 ?_)
  show VL p l e s m below meth c b K 424 [.ref 81, .ref 0, .ref 60, .int (nI (6 * i))] [.int r, .int r] H2
  refine vl_icmp_eq C0 dL_law_424 1529 (by decide) (fun _ => nx H2 hJ2) (fun z => absurd rfl z)
set_option maxHeartbeats 4000000 in
set_option maxRecDepth 100000 in
theorem lc_undo {p : Program} {l : Launch} {e : Env} {s : State} {m : MethodId} {below : List Frame} {meth : Method} {c : Code} {b L : Nat} {xs : Nat → Int32} {K : GC} (C0 : LC p s m meth c b L xs K) (hL : L ≤ 3072) {J : Hp → Prop} (hp : PR_undo J) {i : Nat} (hi : 6 * i + 6 ≤ L) {H : Hp} (hJ : J H) (nx : ∀ H2, J H2 → VL p l e s m below meth c b K 1529 [.ref 81, .ref 0, .ref 60, .int (nI (6 * i))] [] H2) : VL p l e s m below meth c b K 429 [.ref 81, .ref 0, .ref 60, .int (nI (6 * i))] [] H := by
  obtain ⟨r, H1, H2, e1, e2, hJ2⟩ := hp H hJ
  refine vl_aload_n C0 dL_law_429 rfl rfl ?_
  refine vl_callV C0 [] dL_law_430 co_X7_undo im_X7_undo se_X7_undo mlL_45 rfl (c0 := 0) (by decide) (rfl : sh 0 = (0, 7)) (rfl : classes[7]? = some (RX7, TX7, 11)) rfl (S := []) rfl (Nat.le_of_ble_eq_true rfl) (k_X7_undo (D := 60) (by omega) H _ e1 ?_)
  show VL p l e s m below meth c b K 433 [.ref 81, .ref 0, .ref 60, .int (nI (6 * i))] [.int r] H1
  refine vl_aload_n C0 dL_law_433 rfl rfl ?_
  refine vl_callV C0 [] dL_law_434 co_X8_undo im_X8_undo se_X8_undo mlL_48 rfl (c0 := 60) (by decide) (rfl : sh 60 = (0, 8)) (rfl : classes[8]? = some (RX8, TX8, 30)) rfl (S := [.int r]) rfl (Nat.le_of_ble_eq_true rfl) (k_X8_undo (D := 60) (by omega) H1 _ e2 ?_)
  show VL p l e s m below meth c b K 437 [.ref 81, .ref 0, .ref 60, .int (nI (6 * i))] [.int r, .int r] H2
  refine vl_icmp_eq C0 dL_law_437 1529 (by decide) (fun _ => nx H2 hJ2) (fun z => absurd rfl z)
set_option maxHeartbeats 4000000 in
set_option maxRecDepth 100000 in
theorem lc_give {p : Program} {l : Launch} {e : Env} {s : State} {m : MethodId} {below : List Frame} {meth : Method} {c : Code} {b L : Nat} {xs : Nat → Int32} {K : GC} (C0 : LC p s m meth c b L xs K) (hL : L ≤ 3072) {J : Hp → Prop} (hp : PR_give J) {i : Nat} (hi : 6 * i + 6 ≤ L) {H : Hp} (hJ : J H) (nx : ∀ H2, J H2 → VL p l e s m below meth c b K 1529 [.ref 81, .ref 0, .ref 60, .int (nI (6 * i))] [] H2) : VL p l e s m below meth c b K 442 [.ref 81, .ref 0, .ref 60, .int (nI (6 * i))] [] H := by
  obtain ⟨r, H1, H2, e1, e2, hJ2⟩ := hp H hJ (xs (nI (6 * i) + 1).toNatClampNeg) (xs (nI (6 * i) + 2).toNatClampNeg) (xs (nI (6 * i) + 3).toNatClampNeg)
  refine vl_aload_n C0 dL_law_442 rfl rfl ?_
  refine vl_aload_n C0 dL_law_443 rfl rfl ?_
  refine vl_iload_n C0 dL_law_444 rfl rfl ?_
  refine vl_iconst C0 dL_law_445 (v := 1) rfl ?_
  refine vl_iadd C0 dL_law_446 ?_
  refine vl_sld C0 dL_law_447 (vin1 hi hL) ?_
  refine vl_aload_n C0 dL_law_448 rfl rfl ?_
  refine vl_iload_n C0 dL_law_449 rfl rfl ?_
  refine vl_iconst C0 dL_law_450 (v := 2) rfl ?_
  refine vl_iadd C0 dL_law_451 ?_
  refine vl_sld C0 dL_law_452 (vin2 hi hL) ?_
  refine vl_aload_n C0 dL_law_453 rfl rfl ?_
  refine vl_iload_n C0 dL_law_454 rfl rfl ?_
  refine vl_iconst C0 dL_law_455 (v := 3) rfl ?_
  refine vl_iadd C0 dL_law_456 ?_
  refine vl_sld C0 dL_law_457 (vin3 hi hL) ?_
  refine vl_callV C0 [.int (xs (nI (6 * i) + 1).toNatClampNeg), .int (xs (nI (6 * i) + 2).toNatClampNeg), .int (xs (nI (6 * i) + 3).toNatClampNeg)] dL_law_458 co_X7_give im_X7_give se_X7_give mlL_49 rfl (c0 := 0) (by decide) (rfl : sh 0 = (0, 7)) (rfl : classes[7]? = some (RX7, TX7, 11)) rfl (S := []) rfl (Nat.le_of_ble_eq_true rfl) (k_X7_give (D := 60) (by omega) (xs (nI (6 * i) + 1).toNatClampNeg) (xs (nI (6 * i) + 2).toNatClampNeg) (xs (nI (6 * i) + 3).toNatClampNeg) H _ e1 ?_)
  show VL p l e s m below meth c b K 461 [.ref 81, .ref 0, .ref 60, .int (nI (6 * i))] [.int r] H1
  refine vl_aload_n C0 dL_law_461 rfl rfl ?_
  refine vl_aload_n C0 dL_law_462 rfl rfl ?_
  refine vl_iload_n C0 dL_law_463 rfl rfl ?_
  refine vl_iconst C0 dL_law_464 (v := 1) rfl ?_
  refine vl_iadd C0 dL_law_465 ?_
  refine vl_sld C0 dL_law_466 (vin1 hi hL) ?_
  refine vl_aload_n C0 dL_law_467 rfl rfl ?_
  refine vl_iload_n C0 dL_law_468 rfl rfl ?_
  refine vl_iconst C0 dL_law_469 (v := 2) rfl ?_
  refine vl_iadd C0 dL_law_470 ?_
  refine vl_sld C0 dL_law_471 (vin2 hi hL) ?_
  refine vl_aload_n C0 dL_law_472 rfl rfl ?_
  refine vl_iload_n C0 dL_law_473 rfl rfl ?_
  refine vl_iconst C0 dL_law_474 (v := 3) rfl ?_
  refine vl_iadd C0 dL_law_475 ?_
  refine vl_sld C0 dL_law_476 (vin3 hi hL) ?_
  refine vl_callV C0 [.int (xs (nI (6 * i) + 1).toNatClampNeg), .int (xs (nI (6 * i) + 2).toNatClampNeg), .int (xs (nI (6 * i) + 3).toNatClampNeg)] dL_law_477 co_X8_give im_X8_give se_X8_give mlL_52 rfl (c0 := 60) (by decide) (rfl : sh 60 = (0, 8)) (rfl : classes[8]? = some (RX8, TX8, 30)) rfl (S := [.int r]) rfl (Nat.le_of_ble_eq_true rfl) (k_X8_give (D := 60) (by omega) (xs (nI (6 * i) + 1).toNatClampNeg) (xs (nI (6 * i) + 2).toNatClampNeg) (xs (nI (6 * i) + 3).toNatClampNeg) H1 _ e2 ?_)
  show VL p l e s m below meth c b K 480 [.ref 81, .ref 0, .ref 60, .int (nI (6 * i))] [.int r, .int r] H2
  refine vl_icmp_eq C0 dL_law_480 1529 (by decide) (fun _ => nx H2 hJ2) (fun z => absurd rfl z)
set_option maxHeartbeats 4000000 in
set_option maxRecDepth 100000 in
theorem lc_back {p : Program} {l : Launch} {e : Env} {s : State} {m : MethodId} {below : List Frame} {meth : Method} {c : Code} {b L : Nat} {xs : Nat → Int32} {K : GC} (C0 : LC p s m meth c b L xs K) (hL : L ≤ 3072) {J : Hp → Prop} (hp : PR_back J) {i : Nat} (hi : 6 * i + 6 ≤ L) {H : Hp} (hJ : J H) (nx : ∀ H2, J H2 → VL p l e s m below meth c b K 1529 [.ref 81, .ref 0, .ref 60, .int (nI (6 * i))] [] H2) : VL p l e s m below meth c b K 485 [.ref 81, .ref 0, .ref 60, .int (nI (6 * i))] [] H := by
  obtain ⟨r, H1, H2, e1, e2, hJ2⟩ := hp H hJ (xs (nI (6 * i) + 1).toNatClampNeg)
  refine vl_aload_n C0 dL_law_485 rfl rfl ?_
  refine vl_aload_n C0 dL_law_486 rfl rfl ?_
  refine vl_iload_n C0 dL_law_487 rfl rfl ?_
  refine vl_iconst C0 dL_law_488 (v := 1) rfl ?_
  refine vl_iadd C0 dL_law_489 ?_
  refine vl_sld C0 dL_law_490 (vin1 hi hL) ?_
  refine vl_callV C0 [.int (xs (nI (6 * i) + 1).toNatClampNeg)] dL_law_491 co_X7_back im_X7_back se_X7_back mlL_53 rfl (c0 := 0) (by decide) (rfl : sh 0 = (0, 7)) (rfl : classes[7]? = some (RX7, TX7, 11)) rfl (S := []) rfl (Nat.le_of_ble_eq_true rfl) (k_X7_back (D := 60) (by omega) (xs (nI (6 * i) + 1).toNatClampNeg) H _ e1 ?_)
  show VL p l e s m below meth c b K 494 [.ref 81, .ref 0, .ref 60, .int (nI (6 * i))] [.int r] H1
  refine vl_aload_n C0 dL_law_494 rfl rfl ?_
  refine vl_aload_n C0 dL_law_495 rfl rfl ?_
  refine vl_iload_n C0 dL_law_496 rfl rfl ?_
  refine vl_iconst C0 dL_law_497 (v := 1) rfl ?_
  refine vl_iadd C0 dL_law_498 ?_
  refine vl_sld C0 dL_law_499 (vin1 hi hL) ?_
  refine vl_callV C0 [.int (xs (nI (6 * i) + 1).toNatClampNeg)] dL_law_500 co_X8_back im_X8_back se_X8_back mlL_56 rfl (c0 := 60) (by decide) (rfl : sh 60 = (0, 8)) (rfl : classes[8]? = some (RX8, TX8, 30)) rfl (S := [.int r]) rfl (Nat.le_of_ble_eq_true rfl) (k_X8_back (D := 60) (by omega) (xs (nI (6 * i) + 1).toNatClampNeg) H1 _ e2 ?_)
  show VL p l e s m below meth c b K 503 [.ref 81, .ref 0, .ref 60, .int (nI (6 * i))] [.int r, .int r] H2
  refine vl_icmp_eq C0 dL_law_503 1529 (by decide) (fun _ => nx H2 hJ2) (fun z => absurd rfl z)
set_option maxHeartbeats 4000000 in
set_option maxRecDepth 100000 in
theorem lc_pot {p : Program} {l : Launch} {e : Env} {s : State} {m : MethodId} {below : List Frame} {meth : Method} {c : Code} {b L : Nat} {xs : Nat → Int32} {K : GC} (C0 : LC p s m meth c b L xs K) (hL : L ≤ 3072) {J : Hp → Prop} (hp : PR_pot J) {i : Nat} (hi : 6 * i + 6 ≤ L) {H : Hp} (hJ : J H) (nx : ∀ H2, J H2 → VL p l e s m below meth c b K 1529 [.ref 81, .ref 0, .ref 60, .int (nI (6 * i))] [] H2) : VL p l e s m below meth c b K 508 [.ref 81, .ref 0, .ref 60, .int (nI (6 * i))] [] H := by
  obtain ⟨r, H1, H2, e1, e2, hJ2⟩ := hp H hJ (xs (nI (6 * i) + 1).toNatClampNeg)
  refine vl_aload_n C0 dL_law_508 rfl rfl ?_
  refine vl_aload_n C0 dL_law_509 rfl rfl ?_
  refine vl_iload_n C0 dL_law_510 rfl rfl ?_
  refine vl_iconst C0 dL_law_511 (v := 1) rfl ?_
  refine vl_iadd C0 dL_law_512 ?_
  refine vl_sld C0 dL_law_513 (vin1 hi hL) ?_
  refine vl_callV C0 [.int (xs (nI (6 * i) + 1).toNatClampNeg)] dL_law_514 co_X7_pot im_X7_pot se_X7_pot mlL_57 rfl (c0 := 0) (by decide) (rfl : sh 0 = (0, 7)) (rfl : classes[7]? = some (RX7, TX7, 11)) rfl (S := []) rfl (Nat.le_of_ble_eq_true rfl) (k_X7_pot (D := 60) (by omega) (xs (nI (6 * i) + 1).toNatClampNeg) H _ e1 ?_)
  show VL p l e s m below meth c b K 517 [.ref 81, .ref 0, .ref 60, .int (nI (6 * i))] [.int r] H1
  refine vl_aload_n C0 dL_law_517 rfl rfl ?_
  refine vl_aload_n C0 dL_law_518 rfl rfl ?_
  refine vl_iload_n C0 dL_law_519 rfl rfl ?_
  refine vl_iconst C0 dL_law_520 (v := 1) rfl ?_
  refine vl_iadd C0 dL_law_521 ?_
  refine vl_sld C0 dL_law_522 (vin1 hi hL) ?_
  refine vl_callV C0 [.int (xs (nI (6 * i) + 1).toNatClampNeg)] dL_law_523 co_X8_pot im_X8_pot se_X8_pot mlL_60 rfl (c0 := 60) (by decide) (rfl : sh 60 = (0, 8)) (rfl : classes[8]? = some (RX8, TX8, 30)) rfl (S := [.int r]) rfl (Nat.le_of_ble_eq_true rfl) (k_X8_pot (D := 60) (by omega) (xs (nI (6 * i) + 1).toNatClampNeg) H1 _ e2 ?_)
  show VL p l e s m below meth c b K 526 [.ref 81, .ref 0, .ref 60, .int (nI (6 * i))] [.int r, .int r] H2
  refine vl_icmp_eq C0 dL_law_526 1529 (by decide) (fun _ => nx H2 hJ2) (fun z => absurd rfl z)
set_option maxHeartbeats 4000000 in
set_option maxRecDepth 100000 in
theorem lc_become {p : Program} {l : Launch} {e : Env} {s : State} {m : MethodId} {below : List Frame} {meth : Method} {c : Code} {b L : Nat} {xs : Nat → Int32} {K : GC} (C0 : LC p s m meth c b L xs K) (hL : L ≤ 3072) {J : Hp → Prop} (hp : PR_become J) {i : Nat} (hi : 6 * i + 6 ≤ L) {H : Hp} (hJ : J H) (nx : ∀ H2, J H2 → VL p l e s m below meth c b K 1529 [.ref 81, .ref 0, .ref 60, .int (nI (6 * i))] [] H2) : VL p l e s m below meth c b K 531 [.ref 81, .ref 0, .ref 60, .int (nI (6 * i))] [] H := by
  obtain ⟨r, H1, H2, e1, e2, hJ2⟩ := hp H hJ (xs (nI (6 * i) + 1).toNatClampNeg) (xs (nI (6 * i) + 2).toNatClampNeg)
  refine vl_aload_n C0 dL_law_531 rfl rfl ?_
  refine vl_aload_n C0 dL_law_532 rfl rfl ?_
  refine vl_iload_n C0 dL_law_533 rfl rfl ?_
  refine vl_iconst C0 dL_law_534 (v := 1) rfl ?_
  refine vl_iadd C0 dL_law_535 ?_
  refine vl_sld C0 dL_law_536 (vin1 hi hL) ?_
  refine vl_aload_n C0 dL_law_537 rfl rfl ?_
  refine vl_iload_n C0 dL_law_538 rfl rfl ?_
  refine vl_iconst C0 dL_law_539 (v := 2) rfl ?_
  refine vl_iadd C0 dL_law_540 ?_
  refine vl_sld C0 dL_law_541 (vin2 hi hL) ?_
  refine vl_callV C0 [.int (xs (nI (6 * i) + 1).toNatClampNeg), .int (xs (nI (6 * i) + 2).toNatClampNeg)] dL_law_542 co_X7_become im_X7_become se_X7_become mlL_61 rfl (c0 := 0) (by decide) (rfl : sh 0 = (0, 7)) (rfl : classes[7]? = some (RX7, TX7, 11)) rfl (S := []) rfl (Nat.le_of_ble_eq_true rfl) (k_X7_become (D := 60) (by omega) (xs (nI (6 * i) + 1).toNatClampNeg) (xs (nI (6 * i) + 2).toNatClampNeg) H _ e1 ?_)
  show VL p l e s m below meth c b K 545 [.ref 81, .ref 0, .ref 60, .int (nI (6 * i))] [.int r] H1
  refine vl_aload_n C0 dL_law_545 rfl rfl ?_
  refine vl_aload_n C0 dL_law_546 rfl rfl ?_
  refine vl_iload_n C0 dL_law_547 rfl rfl ?_
  refine vl_iconst C0 dL_law_548 (v := 1) rfl ?_
  refine vl_iadd C0 dL_law_549 ?_
  refine vl_sld C0 dL_law_550 (vin1 hi hL) ?_
  refine vl_aload_n C0 dL_law_551 rfl rfl ?_
  refine vl_iload_n C0 dL_law_552 rfl rfl ?_
  refine vl_iconst C0 dL_law_553 (v := 2) rfl ?_
  refine vl_iadd C0 dL_law_554 ?_
  refine vl_sld C0 dL_law_555 (vin2 hi hL) ?_
  refine vl_callV C0 [.int (xs (nI (6 * i) + 1).toNatClampNeg), .int (xs (nI (6 * i) + 2).toNatClampNeg)] dL_law_556 co_X8_become im_X8_become se_X8_become mlL_65 rfl (c0 := 60) (by decide) (rfl : sh 60 = (0, 8)) (rfl : classes[8]? = some (RX8, TX8, 30)) rfl (S := [.int r]) rfl (Nat.le_of_ble_eq_true rfl) (k_X8_become (D := 60) (by omega) (xs (nI (6 * i) + 1).toNatClampNeg) (xs (nI (6 * i) + 2).toNatClampNeg) H1 _ e2 ?_)
  show VL p l e s m below meth c b K 559 [.ref 81, .ref 0, .ref 60, .int (nI (6 * i))] [.int r, .int r] H2
  refine vl_icmp_eq C0 dL_law_559 1529 (by decide) (fun _ => nx H2 hJ2) (fun z => absurd rfl z)
set_option maxHeartbeats 4000000 in
set_option maxRecDepth 100000 in
theorem lc_one {p : Program} {l : Launch} {e : Env} {s : State} {m : MethodId} {below : List Frame} {meth : Method} {c : Code} {b L : Nat} {xs : Nat → Int32} {K : GC} (C0 : LC p s m meth c b L xs K) (hL : L ≤ 3072) {J : Hp → Prop} (hp : PR_one J) {i : Nat} (hi : 6 * i + 6 ≤ L) {H : Hp} (hJ : J H) (nx : ∀ H2, J H2 → VL p l e s m below meth c b K 1529 [.ref 81, .ref 0, .ref 60, .int (nI (6 * i))] [] H2) : VL p l e s m below meth c b K 564 [.ref 81, .ref 0, .ref 60, .int (nI (6 * i))] [] H := by
  obtain ⟨r, H1, H2, e1, e2, hJ2⟩ := hp H hJ (xs (nI (6 * i) + 1).toNatClampNeg) (xs (nI (6 * i) + 2).toNatClampNeg)
  refine vl_aload_n C0 dL_law_564 rfl rfl ?_
  refine vl_aload_n C0 dL_law_565 rfl rfl ?_
  refine vl_iload_n C0 dL_law_566 rfl rfl ?_
  refine vl_iconst C0 dL_law_567 (v := 1) rfl ?_
  refine vl_iadd C0 dL_law_568 ?_
  refine vl_sld C0 dL_law_569 (vin1 hi hL) ?_
  refine vl_aload_n C0 dL_law_570 rfl rfl ?_
  refine vl_iload_n C0 dL_law_571 rfl rfl ?_
  refine vl_iconst C0 dL_law_572 (v := 2) rfl ?_
  refine vl_iadd C0 dL_law_573 ?_
  refine vl_sld C0 dL_law_574 (vin2 hi hL) ?_
  refine vl_callV C0 [.int (xs (nI (6 * i) + 1).toNatClampNeg), .int (xs (nI (6 * i) + 2).toNatClampNeg)] dL_law_575 co_X7_one im_X7_one se_X7_one mlL_66 rfl (c0 := 0) (by decide) (rfl : sh 0 = (0, 7)) (rfl : classes[7]? = some (RX7, TX7, 11)) rfl (S := []) rfl (Nat.le_of_ble_eq_true rfl) (k_X7_one (D := 60) (by omega) (xs (nI (6 * i) + 1).toNatClampNeg) (xs (nI (6 * i) + 2).toNatClampNeg) H _ e1 ?_)
  show VL p l e s m below meth c b K 578 [.ref 81, .ref 0, .ref 60, .int (nI (6 * i))] [.int r] H1
  refine vl_aload_n C0 dL_law_578 rfl rfl ?_
  refine vl_aload_n C0 dL_law_579 rfl rfl ?_
  refine vl_iload_n C0 dL_law_580 rfl rfl ?_
  refine vl_iconst C0 dL_law_581 (v := 1) rfl ?_
  refine vl_iadd C0 dL_law_582 ?_
  refine vl_sld C0 dL_law_583 (vin1 hi hL) ?_
  refine vl_aload_n C0 dL_law_584 rfl rfl ?_
  refine vl_iload_n C0 dL_law_585 rfl rfl ?_
  refine vl_iconst C0 dL_law_586 (v := 2) rfl ?_
  refine vl_iadd C0 dL_law_587 ?_
  refine vl_sld C0 dL_law_588 (vin2 hi hL) ?_
  refine vl_callV C0 [.int (xs (nI (6 * i) + 1).toNatClampNeg), .int (xs (nI (6 * i) + 2).toNatClampNeg)] dL_law_589 co_X8_one im_X8_one se_X8_one mlL_69 rfl (c0 := 60) (by decide) (rfl : sh 60 = (0, 8)) (rfl : classes[8]? = some (RX8, TX8, 30)) rfl (S := [.int r]) rfl (Nat.le_of_ble_eq_true rfl) (k_X8_one (D := 60) (by omega) (xs (nI (6 * i) + 1).toNatClampNeg) (xs (nI (6 * i) + 2).toNatClampNeg) H1 _ e2 ?_)
  show VL p l e s m below meth c b K 592 [.ref 81, .ref 0, .ref 60, .int (nI (6 * i))] [.int r, .int r] H2
  refine vl_icmp_eq C0 dL_law_592 1529 (by decide) (fun _ => nx H2 hJ2) (fun z => absurd rfl z)
set_option maxHeartbeats 4000000 in
set_option maxRecDepth 100000 in
theorem lc_gift {p : Program} {l : Launch} {e : Env} {s : State} {m : MethodId} {below : List Frame} {meth : Method} {c : Code} {b L : Nat} {xs : Nat → Int32} {K : GC} (C0 : LC p s m meth c b L xs K) (hL : L ≤ 3072) {J : Hp → Prop} (hp : PR_gift J) {i : Nat} (hi : 6 * i + 6 ≤ L) {H : Hp} (hJ : J H) (nx : ∀ H2, J H2 → VL p l e s m below meth c b K 1529 [.ref 81, .ref 0, .ref 60, .int (nI (6 * i))] [] H2) : VL p l e s m below meth c b K 597 [.ref 81, .ref 0, .ref 60, .int (nI (6 * i))] [] H := by
  obtain ⟨r, H2, e1, e2, hJ2⟩ := hp H hJ (xs (nI (6 * i) + 1).toNatClampNeg) (xs (nI (6 * i) + 2).toNatClampNeg)
  refine vl_aload_n C0 dL_law_597 rfl rfl ?_
  refine vl_aload_n C0 dL_law_598 rfl rfl ?_
  refine vl_iload_n C0 dL_law_599 rfl rfl ?_
  refine vl_iconst C0 dL_law_600 (v := 1) rfl ?_
  refine vl_iadd C0 dL_law_601 ?_
  refine vl_sld C0 dL_law_602 (vin1 hi hL) ?_
  refine vl_aload_n C0 dL_law_603 rfl rfl ?_
  refine vl_iload_n C0 dL_law_604 rfl rfl ?_
  refine vl_iconst C0 dL_law_605 (v := 2) rfl ?_
  refine vl_iadd C0 dL_law_606 ?_
  refine vl_sld C0 dL_law_607 (vin2 hi hL) ?_
  refine vl_callV C0 [.int (xs (nI (6 * i) + 1).toNatClampNeg), .int (xs (nI (6 * i) + 2).toNatClampNeg)] dL_law_608 co_X7_gift im_X7_gift se_X7_gift mlL_70 rfl (c0 := 0) (by decide) (rfl : sh 0 = (0, 7)) (rfl : classes[7]? = some (RX7, TX7, 11)) rfl (S := []) rfl (Nat.le_of_ble_eq_true rfl) (k_X7_gift (D := 60) (by omega) (xs (nI (6 * i) + 1).toNatClampNeg) (xs (nI (6 * i) + 2).toNatClampNeg) H _ e1 ?_)
  show VL p l e s m below meth c b K 611 [.ref 81, .ref 0, .ref 60, .int (nI (6 * i))] [.int r] H
  refine vl_aload_n C0 dL_law_611 rfl rfl ?_
  refine vl_aload_n C0 dL_law_612 rfl rfl ?_
  refine vl_iload_n C0 dL_law_613 rfl rfl ?_
  refine vl_iconst C0 dL_law_614 (v := 1) rfl ?_
  refine vl_iadd C0 dL_law_615 ?_
  refine vl_sld C0 dL_law_616 (vin1 hi hL) ?_
  refine vl_aload_n C0 dL_law_617 rfl rfl ?_
  refine vl_iload_n C0 dL_law_618 rfl rfl ?_
  refine vl_iconst C0 dL_law_619 (v := 2) rfl ?_
  refine vl_iadd C0 dL_law_620 ?_
  refine vl_sld C0 dL_law_621 (vin2 hi hL) ?_
  refine vl_callV C0 [.int (xs (nI (6 * i) + 1).toNatClampNeg), .int (xs (nI (6 * i) + 2).toNatClampNeg)] dL_law_622 co_X8_gift im_X8_gift se_X8_gift mlL_73 rfl (c0 := 60) (by decide) (rfl : sh 60 = (0, 8)) (rfl : classes[8]? = some (RX8, TX8, 30)) rfl (S := [.int r]) rfl (Nat.le_of_ble_eq_true rfl) (k_X8_gift (D := 60) (by omega) (xs (nI (6 * i) + 1).toNatClampNeg) (xs (nI (6 * i) + 2).toNatClampNeg) H _ e2 ?_)
  show VL p l e s m below meth c b K 625 [.ref 81, .ref 0, .ref 60, .int (nI (6 * i))] [.int r, .int r] H2
  refine vl_icmp_eq C0 dL_law_625 1529 (by decide) (fun _ => nx H2 hJ2) (fun z => absurd rfl z)
set_option maxHeartbeats 4000000 in
set_option maxRecDepth 100000 in
theorem lc_nameOf {p : Program} {l : Launch} {e : Env} {s : State} {m : MethodId} {below : List Frame} {meth : Method} {c : Code} {b L : Nat} {xs : Nat → Int32} {K : GC} (C0 : LC p s m meth c b L xs K) (hL : L ≤ 3072) {J : Hp → Prop} (hp : PR_nameOf J) {i : Nat} (hi : 6 * i + 6 ≤ L) {H : Hp} (hJ : J H) (nx : ∀ H2, J H2 → VL p l e s m below meth c b K 1529 [.ref 81, .ref 0, .ref 60, .int (nI (6 * i))] [] H2) : VL p l e s m below meth c b K 630 [.ref 81, .ref 0, .ref 60, .int (nI (6 * i))] [] H := by
  obtain ⟨r, H2, e1, e2, hJ2⟩ := hp H hJ (xs (nI (6 * i) + 1).toNatClampNeg)
  refine vl_aload_n C0 dL_law_630 rfl rfl ?_
  refine vl_aload_n C0 dL_law_631 rfl rfl ?_
  refine vl_iload_n C0 dL_law_632 rfl rfl ?_
  refine vl_iconst C0 dL_law_633 (v := 1) rfl ?_
  refine vl_iadd C0 dL_law_634 ?_
  refine vl_sld C0 dL_law_635 (vin1 hi hL) ?_
  refine vl_callV C0 [.int (xs (nI (6 * i) + 1).toNatClampNeg)] dL_law_636 co_X7_nameOf im_X7_nameOf se_X7_nameOf mlL_74 rfl (c0 := 0) (by decide) (rfl : sh 0 = (0, 7)) (rfl : classes[7]? = some (RX7, TX7, 11)) rfl (S := []) rfl (Nat.le_of_ble_eq_true rfl) (k_X7_nameOf (D := 60) (by omega) (xs (nI (6 * i) + 1).toNatClampNeg) H _ e1 ?_)
  show VL p l e s m below meth c b K 639 [.ref 81, .ref 0, .ref 60, .int (nI (6 * i))] [.int r] H
  refine vl_aload_n C0 dL_law_639 rfl rfl ?_
  refine vl_aload_n C0 dL_law_640 rfl rfl ?_
  refine vl_iload_n C0 dL_law_641 rfl rfl ?_
  refine vl_iconst C0 dL_law_642 (v := 1) rfl ?_
  refine vl_iadd C0 dL_law_643 ?_
  refine vl_sld C0 dL_law_644 (vin1 hi hL) ?_
  refine vl_callV C0 [.int (xs (nI (6 * i) + 1).toNatClampNeg)] dL_law_645 co_X8_nameOf im_X8_nameOf se_X8_nameOf mlL_77 rfl (c0 := 60) (by decide) (rfl : sh 60 = (0, 8)) (rfl : classes[8]? = some (RX8, TX8, 30)) rfl (S := [.int r]) rfl (Nat.le_of_ble_eq_true rfl) (k_X8_nameOf (D := 60) (by omega) (xs (nI (6 * i) + 1).toNatClampNeg) H _ e2 ?_)
  show VL p l e s m below meth c b K 648 [.ref 81, .ref 0, .ref 60, .int (nI (6 * i))] [.int r, .int r] H2
  refine vl_icmp_eq C0 dL_law_648 1529 (by decide) (fun _ => nx H2 hJ2) (fun z => absurd rfl z)
set_option maxHeartbeats 4000000 in
set_option maxRecDepth 100000 in
theorem lc_root {p : Program} {l : Launch} {e : Env} {s : State} {m : MethodId} {below : List Frame} {meth : Method} {c : Code} {b L : Nat} {xs : Nat → Int32} {K : GC} (C0 : LC p s m meth c b L xs K) (hL : L ≤ 3072) {J : Hp → Prop} (hp : PR_root J) {i : Nat} (hi : 6 * i + 6 ≤ L) {H : Hp} (hJ : J H) (nx : ∀ H2, J H2 → VL p l e s m below meth c b K 1529 [.ref 81, .ref 0, .ref 60, .int (nI (6 * i))] [] H2) : VL p l e s m below meth c b K 653 [.ref 81, .ref 0, .ref 60, .int (nI (6 * i))] [] H := by
  obtain ⟨r, H2, e1, e2, hJ2⟩ := hp H hJ (xs (nI (6 * i) + 1).toNatClampNeg)
  refine vl_aload_n C0 dL_law_653 rfl rfl ?_
  refine vl_aload_n C0 dL_law_654 rfl rfl ?_
  refine vl_iload_n C0 dL_law_655 rfl rfl ?_
  refine vl_iconst C0 dL_law_656 (v := 1) rfl ?_
  refine vl_iadd C0 dL_law_657 ?_
  refine vl_sld C0 dL_law_658 (vin1 hi hL) ?_
  refine vl_callV C0 [.int (xs (nI (6 * i) + 1).toNatClampNeg)] dL_law_659 co_X7_root im_X7_root se_X7_root mlL_78 rfl (c0 := 0) (by decide) (rfl : sh 0 = (0, 7)) (rfl : classes[7]? = some (RX7, TX7, 11)) rfl (S := []) rfl (Nat.le_of_ble_eq_true rfl) (k_X7_root (D := 60) (by omega) (xs (nI (6 * i) + 1).toNatClampNeg) H _ e1 ?_)
  show VL p l e s m below meth c b K 662 [.ref 81, .ref 0, .ref 60, .int (nI (6 * i))] [.int r] H
  refine vl_aload_n C0 dL_law_662 rfl rfl ?_
  refine vl_aload_n C0 dL_law_663 rfl rfl ?_
  refine vl_iload_n C0 dL_law_664 rfl rfl ?_
  refine vl_iconst C0 dL_law_665 (v := 1) rfl ?_
  refine vl_iadd C0 dL_law_666 ?_
  refine vl_sld C0 dL_law_667 (vin1 hi hL) ?_
  refine vl_callV C0 [.int (xs (nI (6 * i) + 1).toNatClampNeg)] dL_law_668 co_X8_root im_X8_root se_X8_root mlL_81 rfl (c0 := 60) (by decide) (rfl : sh 60 = (0, 8)) (rfl : classes[8]? = some (RX8, TX8, 30)) rfl (S := [.int r]) rfl (Nat.le_of_ble_eq_true rfl) (k_X8_root (D := 60) (by omega) (xs (nI (6 * i) + 1).toNatClampNeg) H _ e2 ?_)
  show VL p l e s m below meth c b K 671 [.ref 81, .ref 0, .ref 60, .int (nI (6 * i))] [.int r, .int r] H2
  refine vl_icmp_eq C0 dL_law_671 1529 (by decide) (fun _ => nx H2 hJ2) (fun z => absurd rfl z)
set_option maxHeartbeats 4000000 in
set_option maxRecDepth 100000 in
theorem lc_sum {p : Program} {l : Launch} {e : Env} {s : State} {m : MethodId} {below : List Frame} {meth : Method} {c : Code} {b L : Nat} {xs : Nat → Int32} {K : GC} (C0 : LC p s m meth c b L xs K) (hL : L ≤ 3072) {J : Hp → Prop} (hp : PR_sum J) {i : Nat} (hi : 6 * i + 6 ≤ L) {H : Hp} (hJ : J H) (nx : ∀ H2, J H2 → VL p l e s m below meth c b K 1529 [.ref 81, .ref 0, .ref 60, .int (nI (6 * i))] [] H2) : VL p l e s m below meth c b K 676 [.ref 81, .ref 0, .ref 60, .int (nI (6 * i))] [] H := by
  obtain ⟨r, H1, H2, e1, e2, hJ2⟩ := hp H hJ (xs (nI (6 * i) + 1).toNatClampNeg) (xs (nI (6 * i) + 2).toNatClampNeg)
  refine vl_aload_n C0 dL_law_676 rfl rfl ?_
  refine vl_aload_n C0 dL_law_677 rfl rfl ?_
  refine vl_iload_n C0 dL_law_678 rfl rfl ?_
  refine vl_iconst C0 dL_law_679 (v := 1) rfl ?_
  refine vl_iadd C0 dL_law_680 ?_
  refine vl_sld C0 dL_law_681 (vin1 hi hL) ?_
  refine vl_aload_n C0 dL_law_682 rfl rfl ?_
  refine vl_iload_n C0 dL_law_683 rfl rfl ?_
  refine vl_iconst C0 dL_law_684 (v := 2) rfl ?_
  refine vl_iadd C0 dL_law_685 ?_
  refine vl_sld C0 dL_law_686 (vin2 hi hL) ?_
  refine vl_callV C0 [.int (xs (nI (6 * i) + 1).toNatClampNeg), .int (xs (nI (6 * i) + 2).toNatClampNeg)] dL_law_687 co_X7_sum im_X7_sum se_X7_sum mlL_82 rfl (c0 := 0) (by decide) (rfl : sh 0 = (0, 7)) (rfl : classes[7]? = some (RX7, TX7, 11)) rfl (S := []) rfl (Nat.le_of_ble_eq_true rfl) (k_X7_sum (D := 60) (by omega) (xs (nI (6 * i) + 1).toNatClampNeg) (xs (nI (6 * i) + 2).toNatClampNeg) H _ e1 ?_)
  show VL p l e s m below meth c b K 690 [.ref 81, .ref 0, .ref 60, .int (nI (6 * i))] [.int r] H1
  refine vl_aload_n C0 dL_law_690 rfl rfl ?_
  refine vl_aload_n C0 dL_law_691 rfl rfl ?_
  refine vl_iload_n C0 dL_law_692 rfl rfl ?_
  refine vl_iconst C0 dL_law_693 (v := 1) rfl ?_
  refine vl_iadd C0 dL_law_694 ?_
  refine vl_sld C0 dL_law_695 (vin1 hi hL) ?_
  refine vl_aload_n C0 dL_law_696 rfl rfl ?_
  refine vl_iload_n C0 dL_law_697 rfl rfl ?_
  refine vl_iconst C0 dL_law_698 (v := 2) rfl ?_
  refine vl_iadd C0 dL_law_699 ?_
  refine vl_sld C0 dL_law_700 (vin2 hi hL) ?_
  refine vl_callV C0 [.int (xs (nI (6 * i) + 1).toNatClampNeg), .int (xs (nI (6 * i) + 2).toNatClampNeg)] dL_law_701 co_X8_sum im_X8_sum se_X8_sum mlL_85 rfl (c0 := 60) (by decide) (rfl : sh 60 = (0, 8)) (rfl : classes[8]? = some (RX8, TX8, 30)) rfl (S := [.int r]) rfl (Nat.le_of_ble_eq_true rfl) (k_X8_sum (D := 60) (by omega) (xs (nI (6 * i) + 1).toNatClampNeg) (xs (nI (6 * i) + 2).toNatClampNeg) H1 _ e2 ?_)
  show VL p l e s m below meth c b K 704 [.ref 81, .ref 0, .ref 60, .int (nI (6 * i))] [.int r, .int r] H2
  refine vl_icmp_eq C0 dL_law_704 1529 (by decide) (fun _ => nx H2 hJ2) (fun z => absurd rfl z)
set_option maxHeartbeats 4000000 in
set_option maxRecDepth 100000 in
theorem lc_overlap {p : Program} {l : Launch} {e : Env} {s : State} {m : MethodId} {below : List Frame} {meth : Method} {c : Code} {b L : Nat} {xs : Nat → Int32} {K : GC} (C0 : LC p s m meth c b L xs K) (hL : L ≤ 3072) {J : Hp → Prop} (hp : PR_overlap J) {i : Nat} (hi : 6 * i + 6 ≤ L) {H : Hp} (hJ : J H) (nx : ∀ H2, J H2 → VL p l e s m below meth c b K 1529 [.ref 81, .ref 0, .ref 60, .int (nI (6 * i))] [] H2) : VL p l e s m below meth c b K 709 [.ref 81, .ref 0, .ref 60, .int (nI (6 * i))] [] H := by
  obtain ⟨r, H1, H2, e1, e2, hJ2⟩ := hp H hJ (xs (nI (6 * i) + 1).toNatClampNeg) (xs (nI (6 * i) + 2).toNatClampNeg)
  refine vl_aload_n C0 dL_law_709 rfl rfl ?_
  refine vl_aload_n C0 dL_law_710 rfl rfl ?_
  refine vl_iload_n C0 dL_law_711 rfl rfl ?_
  refine vl_iconst C0 dL_law_712 (v := 1) rfl ?_
  refine vl_iadd C0 dL_law_713 ?_
  refine vl_sld C0 dL_law_714 (vin1 hi hL) ?_
  refine vl_aload_n C0 dL_law_715 rfl rfl ?_
  refine vl_iload_n C0 dL_law_716 rfl rfl ?_
  refine vl_iconst C0 dL_law_717 (v := 2) rfl ?_
  refine vl_iadd C0 dL_law_718 ?_
  refine vl_sld C0 dL_law_719 (vin2 hi hL) ?_
  refine vl_callV C0 [.int (xs (nI (6 * i) + 1).toNatClampNeg), .int (xs (nI (6 * i) + 2).toNatClampNeg)] dL_law_720 co_X7_overlap im_X7_overlap se_X7_overlap mlL_86 rfl (c0 := 0) (by decide) (rfl : sh 0 = (0, 7)) (rfl : classes[7]? = some (RX7, TX7, 11)) rfl (S := []) rfl (Nat.le_of_ble_eq_true rfl) (k_X7_overlap (D := 60) (by omega) (xs (nI (6 * i) + 1).toNatClampNeg) (xs (nI (6 * i) + 2).toNatClampNeg) H _ e1 ?_)
  show VL p l e s m below meth c b K 723 [.ref 81, .ref 0, .ref 60, .int (nI (6 * i))] [.int r] H1
  refine vl_aload_n C0 dL_law_723 rfl rfl ?_
  refine vl_aload_n C0 dL_law_724 rfl rfl ?_
  refine vl_iload_n C0 dL_law_725 rfl rfl ?_
  refine vl_iconst C0 dL_law_726 (v := 1) rfl ?_
  refine vl_iadd C0 dL_law_727 ?_
  refine vl_sld C0 dL_law_728 (vin1 hi hL) ?_
  refine vl_aload_n C0 dL_law_729 rfl rfl ?_
  refine vl_iload_n C0 dL_law_730 rfl rfl ?_
  refine vl_iconst C0 dL_law_731 (v := 2) rfl ?_
  refine vl_iadd C0 dL_law_732 ?_
  refine vl_sld C0 dL_law_733 (vin2 hi hL) ?_
  refine vl_callV C0 [.int (xs (nI (6 * i) + 1).toNatClampNeg), .int (xs (nI (6 * i) + 2).toNatClampNeg)] dL_law_734 co_X8_overlap im_X8_overlap se_X8_overlap mlL_89 rfl (c0 := 60) (by decide) (rfl : sh 60 = (0, 8)) (rfl : classes[8]? = some (RX8, TX8, 30)) rfl (S := [.int r]) rfl (Nat.le_of_ble_eq_true rfl) (k_X8_overlap (D := 60) (by omega) (xs (nI (6 * i) + 1).toNatClampNeg) (xs (nI (6 * i) + 2).toNatClampNeg) H1 _ e2 ?_)
  show VL p l e s m below meth c b K 737 [.ref 81, .ref 0, .ref 60, .int (nI (6 * i))] [.int r, .int r] H2
  refine vl_icmp_eq C0 dL_law_737 1529 (by decide) (fun _ => nx H2 hJ2) (fun z => absurd rfl z)
set_option maxHeartbeats 4000000 in
set_option maxRecDepth 100000 in
theorem lc_term {p : Program} {l : Launch} {e : Env} {s : State} {m : MethodId} {below : List Frame} {meth : Method} {c : Code} {b L : Nat} {xs : Nat → Int32} {K : GC} (C0 : LC p s m meth c b L xs K) (hL : L ≤ 3072) {J : Hp → Prop} (hp : PR_term J) {i : Nat} (hi : 6 * i + 6 ≤ L) {H : Hp} (hJ : J H) (nx : ∀ H2, J H2 → VL p l e s m below meth c b K 1529 [.ref 81, .ref 0, .ref 60, .int (nI (6 * i))] [] H2) : VL p l e s m below meth c b K 742 [.ref 81, .ref 0, .ref 60, .int (nI (6 * i))] [] H := by
  obtain ⟨r, H1, H2, e1, e2, hJ2⟩ := hp H hJ (xs (nI (6 * i) + 1).toNatClampNeg) (xs (nI (6 * i) + 2).toNatClampNeg) (xs (nI (6 * i) + 3).toNatClampNeg)
  refine vl_aload_n C0 dL_law_742 rfl rfl ?_
  refine vl_aload_n C0 dL_law_743 rfl rfl ?_
  refine vl_iload_n C0 dL_law_744 rfl rfl ?_
  refine vl_iconst C0 dL_law_745 (v := 1) rfl ?_
  refine vl_iadd C0 dL_law_746 ?_
  refine vl_sld C0 dL_law_747 (vin1 hi hL) ?_
  refine vl_aload_n C0 dL_law_748 rfl rfl ?_
  refine vl_iload_n C0 dL_law_749 rfl rfl ?_
  refine vl_iconst C0 dL_law_750 (v := 2) rfl ?_
  refine vl_iadd C0 dL_law_751 ?_
  refine vl_sld C0 dL_law_752 (vin2 hi hL) ?_
  refine vl_aload_n C0 dL_law_753 rfl rfl ?_
  refine vl_iload_n C0 dL_law_754 rfl rfl ?_
  refine vl_iconst C0 dL_law_755 (v := 3) rfl ?_
  refine vl_iadd C0 dL_law_756 ?_
  refine vl_sld C0 dL_law_757 (vin3 hi hL) ?_
  refine vl_callV C0 [.int (xs (nI (6 * i) + 1).toNatClampNeg), .int (xs (nI (6 * i) + 2).toNatClampNeg), .int (xs (nI (6 * i) + 3).toNatClampNeg)] dL_law_758 co_X7_term im_X7_term se_X7_term mlL_90 rfl (c0 := 0) (by decide) (rfl : sh 0 = (0, 7)) (rfl : classes[7]? = some (RX7, TX7, 11)) rfl (S := []) rfl (Nat.le_of_ble_eq_true rfl) (k_X7_term (D := 60) (by omega) (xs (nI (6 * i) + 1).toNatClampNeg) (xs (nI (6 * i) + 2).toNatClampNeg) (xs (nI (6 * i) + 3).toNatClampNeg) H _ e1 ?_)
  show VL p l e s m below meth c b K 761 [.ref 81, .ref 0, .ref 60, .int (nI (6 * i))] [.int r] H1
  refine vl_aload_n C0 dL_law_761 rfl rfl ?_
  refine vl_aload_n C0 dL_law_762 rfl rfl ?_
  refine vl_iload_n C0 dL_law_763 rfl rfl ?_
  refine vl_iconst C0 dL_law_764 (v := 1) rfl ?_
  refine vl_iadd C0 dL_law_765 ?_
  refine vl_sld C0 dL_law_766 (vin1 hi hL) ?_
  refine vl_aload_n C0 dL_law_767 rfl rfl ?_
  refine vl_iload_n C0 dL_law_768 rfl rfl ?_
  refine vl_iconst C0 dL_law_769 (v := 2) rfl ?_
  refine vl_iadd C0 dL_law_770 ?_
  refine vl_sld C0 dL_law_771 (vin2 hi hL) ?_
  refine vl_aload_n C0 dL_law_772 rfl rfl ?_
  refine vl_iload_n C0 dL_law_773 rfl rfl ?_
  refine vl_iconst C0 dL_law_774 (v := 3) rfl ?_
  refine vl_iadd C0 dL_law_775 ?_
  refine vl_sld C0 dL_law_776 (vin3 hi hL) ?_
  refine vl_callV C0 [.int (xs (nI (6 * i) + 1).toNatClampNeg), .int (xs (nI (6 * i) + 2).toNatClampNeg), .int (xs (nI (6 * i) + 3).toNatClampNeg)] dL_law_777 co_X8_term im_X8_term se_X8_term mlL_93 rfl (c0 := 60) (by decide) (rfl : sh 60 = (0, 8)) (rfl : classes[8]? = some (RX8, TX8, 30)) rfl (S := [.int r]) rfl (Nat.le_of_ble_eq_true rfl) (k_X8_term (D := 60) (by omega) (xs (nI (6 * i) + 1).toNatClampNeg) (xs (nI (6 * i) + 2).toNatClampNeg) (xs (nI (6 * i) + 3).toNatClampNeg) H1 _ e2 ?_)
  show VL p l e s m below meth c b K 780 [.ref 81, .ref 0, .ref 60, .int (nI (6 * i))] [.int r, .int r] H2
  refine vl_icmp_eq C0 dL_law_780 1529 (by decide) (fun _ => nx H2 hJ2) (fun z => absurd rfl z)
set_option maxHeartbeats 4000000 in
set_option maxRecDepth 100000 in
theorem lc_project {p : Program} {l : Launch} {e : Env} {s : State} {m : MethodId} {below : List Frame} {meth : Method} {c : Code} {b L : Nat} {xs : Nat → Int32} {K : GC} (C0 : LC p s m meth c b L xs K) (hL : L ≤ 3072) {J : Hp → Prop} (hp : PR_project J) {i : Nat} (hi : 6 * i + 6 ≤ L) {H : Hp} (hJ : J H) (nx : ∀ H2, J H2 → VL p l e s m below meth c b K 1529 [.ref 81, .ref 0, .ref 60, .int (nI (6 * i))] [] H2) : VL p l e s m below meth c b K 785 [.ref 81, .ref 0, .ref 60, .int (nI (6 * i))] [] H := by
  obtain ⟨r, H1, H2, e1, e2, hJ2⟩ := hp H hJ (xs (nI (6 * i) + 1).toNatClampNeg) (xs (nI (6 * i) + 2).toNatClampNeg)
  refine vl_aload_n C0 dL_law_785 rfl rfl ?_
  refine vl_aload_n C0 dL_law_786 rfl rfl ?_
  refine vl_iload_n C0 dL_law_787 rfl rfl ?_
  refine vl_iconst C0 dL_law_788 (v := 1) rfl ?_
  refine vl_iadd C0 dL_law_789 ?_
  refine vl_sld C0 dL_law_790 (vin1 hi hL) ?_
  refine vl_aload_n C0 dL_law_791 rfl rfl ?_
  refine vl_iload_n C0 dL_law_792 rfl rfl ?_
  refine vl_iconst C0 dL_law_793 (v := 2) rfl ?_
  refine vl_iadd C0 dL_law_794 ?_
  refine vl_sld C0 dL_law_795 (vin2 hi hL) ?_
  refine vl_callV C0 [.int (xs (nI (6 * i) + 1).toNatClampNeg), .int (xs (nI (6 * i) + 2).toNatClampNeg)] dL_law_796 co_X7_project im_X7_project se_X7_project mlL_94 rfl (c0 := 0) (by decide) (rfl : sh 0 = (0, 7)) (rfl : classes[7]? = some (RX7, TX7, 11)) rfl (S := []) rfl (Nat.le_of_ble_eq_true rfl) (k_X7_project (D := 60) (by omega) (xs (nI (6 * i) + 1).toNatClampNeg) (xs (nI (6 * i) + 2).toNatClampNeg) H _ e1 ?_)
  show VL p l e s m below meth c b K 799 [.ref 81, .ref 0, .ref 60, .int (nI (6 * i))] [.int r] H1
  refine vl_aload_n C0 dL_law_799 rfl rfl ?_
  refine vl_aload_n C0 dL_law_800 rfl rfl ?_
  refine vl_iload_n C0 dL_law_801 rfl rfl ?_
  refine vl_iconst C0 dL_law_802 (v := 1) rfl ?_
  refine vl_iadd C0 dL_law_803 ?_
  refine vl_sld C0 dL_law_804 (vin1 hi hL) ?_
  refine vl_aload_n C0 dL_law_805 rfl rfl ?_
  refine vl_iload_n C0 dL_law_806 rfl rfl ?_
  refine vl_iconst C0 dL_law_807 (v := 2) rfl ?_
  refine vl_iadd C0 dL_law_808 ?_
  refine vl_sld C0 dL_law_809 (vin2 hi hL) ?_
  refine vl_callV C0 [.int (xs (nI (6 * i) + 1).toNatClampNeg), .int (xs (nI (6 * i) + 2).toNatClampNeg)] dL_law_810 co_X8_project im_X8_project se_X8_project mlL_97 rfl (c0 := 60) (by decide) (rfl : sh 60 = (0, 8)) (rfl : classes[8]? = some (RX8, TX8, 30)) rfl (S := [.int r]) rfl (Nat.le_of_ble_eq_true rfl) (k_X8_project (D := 60) (by omega) (xs (nI (6 * i) + 1).toNatClampNeg) (xs (nI (6 * i) + 2).toNatClampNeg) H1 _ e2 ?_)
  show VL p l e s m below meth c b K 813 [.ref 81, .ref 0, .ref 60, .int (nI (6 * i))] [.int r, .int r] H2
  refine vl_icmp_eq C0 dL_law_813 1529 (by decide) (fun _ => nx H2 hJ2) (fun z => absurd rfl z)
set_option maxHeartbeats 4000000 in
set_option maxRecDepth 100000 in
theorem lc_stand {p : Program} {l : Launch} {e : Env} {s : State} {m : MethodId} {below : List Frame} {meth : Method} {c : Code} {b L : Nat} {xs : Nat → Int32} {K : GC} (C0 : LC p s m meth c b L xs K) (hL : L ≤ 3072) {J : Hp → Prop} (hp : PR_stand J) {i : Nat} (hi : 6 * i + 6 ≤ L) {H : Hp} (hJ : J H) (nx : ∀ H2, J H2 → VL p l e s m below meth c b K 1529 [.ref 81, .ref 0, .ref 60, .int (nI (6 * i))] [] H2) : VL p l e s m below meth c b K 818 [.ref 81, .ref 0, .ref 60, .int (nI (6 * i))] [] H := by
  obtain ⟨r, H1, H2, e1, e2, hJ2⟩ := hp H hJ (xs (nI (6 * i) + 1).toNatClampNeg)
  refine vl_aload_n C0 dL_law_818 rfl rfl ?_
  refine vl_aload_n C0 dL_law_819 rfl rfl ?_
  refine vl_iload_n C0 dL_law_820 rfl rfl ?_
  refine vl_iconst C0 dL_law_821 (v := 1) rfl ?_
  refine vl_iadd C0 dL_law_822 ?_
  refine vl_sld C0 dL_law_823 (vin1 hi hL) ?_
  refine vl_callV C0 [.int (xs (nI (6 * i) + 1).toNatClampNeg)] dL_law_824 co_X7_stand im_X7_stand se_X7_stand mlL_98 rfl (c0 := 0) (by decide) (rfl : sh 0 = (0, 7)) (rfl : classes[7]? = some (RX7, TX7, 11)) rfl (S := []) rfl (Nat.le_of_ble_eq_true rfl) (k_X7_stand (D := 60) (by omega) (xs (nI (6 * i) + 1).toNatClampNeg) H _ e1 ?_)
  show VL p l e s m below meth c b K 827 [.ref 81, .ref 0, .ref 60, .int (nI (6 * i))] [.int r] H1
  refine vl_aload_n C0 dL_law_827 rfl rfl ?_
  refine vl_aload_n C0 dL_law_828 rfl rfl ?_
  refine vl_iload_n C0 dL_law_829 rfl rfl ?_
  refine vl_iconst C0 dL_law_830 (v := 1) rfl ?_
  refine vl_iadd C0 dL_law_831 ?_
  refine vl_sld C0 dL_law_832 (vin1 hi hL) ?_
  refine vl_callV C0 [.int (xs (nI (6 * i) + 1).toNatClampNeg)] dL_law_833 co_X8_stand im_X8_stand se_X8_stand mlL_101 rfl (c0 := 60) (by decide) (rfl : sh 60 = (0, 8)) (rfl : classes[8]? = some (RX8, TX8, 30)) rfl (S := [.int r]) rfl (Nat.le_of_ble_eq_true rfl) (k_X8_stand (D := 60) (by omega) (xs (nI (6 * i) + 1).toNatClampNeg) H1 _ e2 ?_)
  show VL p l e s m below meth c b K 836 [.ref 81, .ref 0, .ref 60, .int (nI (6 * i))] [.int r, .int r] H2
  refine vl_icmp_eq C0 dL_law_836 1529 (by decide) (fun _ => nx H2 hJ2) (fun z => absurd rfl z)
set_option maxHeartbeats 4000000 in
set_option maxRecDepth 100000 in
theorem lc_paidIf {p : Program} {l : Launch} {e : Env} {s : State} {m : MethodId} {below : List Frame} {meth : Method} {c : Code} {b L : Nat} {xs : Nat → Int32} {K : GC} (C0 : LC p s m meth c b L xs K) (hL : L ≤ 3072) {J : Hp → Prop} (hp : PR_paidIf J) {i : Nat} (hi : 6 * i + 6 ≤ L) {H : Hp} (hJ : J H) (nx : ∀ H2, J H2 → VL p l e s m below meth c b K 1529 [.ref 81, .ref 0, .ref 60, .int (nI (6 * i))] [] H2) : VL p l e s m below meth c b K 841 [.ref 81, .ref 0, .ref 60, .int (nI (6 * i))] [] H := by
  obtain ⟨r, H1, H2, e1, e2, hJ2⟩ := hp H hJ (xs (nI (6 * i) + 1).toNatClampNeg) (xs (nI (6 * i) + 2).toNatClampNeg) (xs (nI (6 * i) + 3).toNatClampNeg) (xs (nI (6 * i) + 4).toNatClampNeg)
  refine vl_aload_n C0 dL_law_841 rfl rfl ?_
  refine vl_aload_n C0 dL_law_842 rfl rfl ?_
  refine vl_iload_n C0 dL_law_843 rfl rfl ?_
  refine vl_iconst C0 dL_law_844 (v := 1) rfl ?_
  refine vl_iadd C0 dL_law_845 ?_
  refine vl_sld C0 dL_law_846 (vin1 hi hL) ?_
  refine vl_aload_n C0 dL_law_847 rfl rfl ?_
  refine vl_iload_n C0 dL_law_848 rfl rfl ?_
  refine vl_iconst C0 dL_law_849 (v := 2) rfl ?_
  refine vl_iadd C0 dL_law_850 ?_
  refine vl_sld C0 dL_law_851 (vin2 hi hL) ?_
  refine vl_aload_n C0 dL_law_852 rfl rfl ?_
  refine vl_iload_n C0 dL_law_853 rfl rfl ?_
  refine vl_iconst C0 dL_law_854 (v := 3) rfl ?_
  refine vl_iadd C0 dL_law_855 ?_
  refine vl_sld C0 dL_law_856 (vin3 hi hL) ?_
  refine vl_aload_n C0 dL_law_857 rfl rfl ?_
  refine vl_iload_n C0 dL_law_858 rfl rfl ?_
  refine vl_iconst C0 dL_law_859 (v := 4) rfl ?_
  refine vl_iadd C0 dL_law_860 ?_
  refine vl_sld C0 dL_law_861 (vin4 hi hL) ?_
  refine vl_callV C0 [.int (xs (nI (6 * i) + 1).toNatClampNeg), .int (xs (nI (6 * i) + 2).toNatClampNeg), .int (xs (nI (6 * i) + 3).toNatClampNeg), .int (xs (nI (6 * i) + 4).toNatClampNeg)] dL_law_862 co_X7_paidIf im_X7_paidIf se_X7_paidIf mlL_102 rfl (c0 := 0) (by decide) (rfl : sh 0 = (0, 7)) (rfl : classes[7]? = some (RX7, TX7, 11)) rfl (S := []) rfl (Nat.le_of_ble_eq_true rfl) (k_X7_paidIf (D := 60) (by omega) (xs (nI (6 * i) + 1).toNatClampNeg) (xs (nI (6 * i) + 2).toNatClampNeg) (xs (nI (6 * i) + 3).toNatClampNeg) (xs (nI (6 * i) + 4).toNatClampNeg) H _ e1 ?_)
  show VL p l e s m below meth c b K 865 [.ref 81, .ref 0, .ref 60, .int (nI (6 * i))] [.int r] H1
  refine vl_aload_n C0 dL_law_865 rfl rfl ?_
  refine vl_aload_n C0 dL_law_866 rfl rfl ?_
  refine vl_iload_n C0 dL_law_867 rfl rfl ?_
  refine vl_iconst C0 dL_law_868 (v := 1) rfl ?_
  refine vl_iadd C0 dL_law_869 ?_
  refine vl_sld C0 dL_law_870 (vin1 hi hL) ?_
  refine vl_aload_n C0 dL_law_871 rfl rfl ?_
  refine vl_iload_n C0 dL_law_872 rfl rfl ?_
  refine vl_iconst C0 dL_law_873 (v := 2) rfl ?_
  refine vl_iadd C0 dL_law_874 ?_
  refine vl_sld C0 dL_law_875 (vin2 hi hL) ?_
  refine vl_aload_n C0 dL_law_876 rfl rfl ?_
  refine vl_iload_n C0 dL_law_877 rfl rfl ?_
  refine vl_iconst C0 dL_law_878 (v := 3) rfl ?_
  refine vl_iadd C0 dL_law_879 ?_
  refine vl_sld C0 dL_law_880 (vin3 hi hL) ?_
  refine vl_aload_n C0 dL_law_881 rfl rfl ?_
  refine vl_iload_n C0 dL_law_882 rfl rfl ?_
  refine vl_iconst C0 dL_law_883 (v := 4) rfl ?_
  refine vl_iadd C0 dL_law_884 ?_
  refine vl_sld C0 dL_law_885 (vin4 hi hL) ?_
  refine vl_callV C0 [.int (xs (nI (6 * i) + 1).toNatClampNeg), .int (xs (nI (6 * i) + 2).toNatClampNeg), .int (xs (nI (6 * i) + 3).toNatClampNeg), .int (xs (nI (6 * i) + 4).toNatClampNeg)] dL_law_886 co_X8_paidIf im_X8_paidIf se_X8_paidIf mlL_106 rfl (c0 := 60) (by decide) (rfl : sh 60 = (0, 8)) (rfl : classes[8]? = some (RX8, TX8, 30)) rfl (S := [.int r]) rfl (Nat.le_of_ble_eq_true rfl) (k_X8_paidIf (D := 60) (by omega) (xs (nI (6 * i) + 1).toNatClampNeg) (xs (nI (6 * i) + 2).toNatClampNeg) (xs (nI (6 * i) + 3).toNatClampNeg) (xs (nI (6 * i) + 4).toNatClampNeg) H1 _ e2 ?_)
  show VL p l e s m below meth c b K 889 [.ref 81, .ref 0, .ref 60, .int (nI (6 * i))] [.int r, .int r] H2
  refine vl_icmp_eq C0 dL_law_889 1529 (by decide) (fun _ => nx H2 hJ2) (fun z => absurd rfl z)
set_option maxHeartbeats 4000000 in
set_option maxRecDepth 100000 in
theorem lc_best {p : Program} {l : Launch} {e : Env} {s : State} {m : MethodId} {below : List Frame} {meth : Method} {c : Code} {b L : Nat} {xs : Nat → Int32} {K : GC} (C0 : LC p s m meth c b L xs K) (hL : L ≤ 3072) {J : Hp → Prop} (hp : PR_best J) {i : Nat} (hi : 6 * i + 6 ≤ L) {H : Hp} (hJ : J H) (nx : ∀ H2, J H2 → VL p l e s m below meth c b K 1529 [.ref 81, .ref 0, .ref 60, .int (nI (6 * i))] [] H2) : VL p l e s m below meth c b K 894 [.ref 81, .ref 0, .ref 60, .int (nI (6 * i))] [] H := by
  obtain ⟨r, H1, H2, e1, e2, hJ2⟩ := hp H hJ (xs (nI (6 * i) + 1).toNatClampNeg) (xs (nI (6 * i) + 2).toNatClampNeg) (xs (nI (6 * i) + 3).toNatClampNeg)
  refine vl_aload_n C0 dL_law_894 rfl rfl ?_
  refine vl_aload_n C0 dL_law_895 rfl rfl ?_
  refine vl_iload_n C0 dL_law_896 rfl rfl ?_
  refine vl_iconst C0 dL_law_897 (v := 1) rfl ?_
  refine vl_iadd C0 dL_law_898 ?_
  refine vl_sld C0 dL_law_899 (vin1 hi hL) ?_
  refine vl_aload_n C0 dL_law_900 rfl rfl ?_
  refine vl_iload_n C0 dL_law_901 rfl rfl ?_
  refine vl_iconst C0 dL_law_902 (v := 2) rfl ?_
  refine vl_iadd C0 dL_law_903 ?_
  refine vl_sld C0 dL_law_904 (vin2 hi hL) ?_
  refine vl_aload_n C0 dL_law_905 rfl rfl ?_
  refine vl_iload_n C0 dL_law_906 rfl rfl ?_
  refine vl_iconst C0 dL_law_907 (v := 3) rfl ?_
  refine vl_iadd C0 dL_law_908 ?_
  refine vl_sld C0 dL_law_909 (vin3 hi hL) ?_
  refine vl_callV C0 [.int (xs (nI (6 * i) + 1).toNatClampNeg), .int (xs (nI (6 * i) + 2).toNatClampNeg), .int (xs (nI (6 * i) + 3).toNatClampNeg)] dL_law_910 co_X7_best im_X7_best se_X7_best mlL_107 rfl (c0 := 0) (by decide) (rfl : sh 0 = (0, 7)) (rfl : classes[7]? = some (RX7, TX7, 11)) rfl (S := []) rfl (Nat.le_of_ble_eq_true rfl) (k_X7_best (D := 60) (by omega) (xs (nI (6 * i) + 1).toNatClampNeg) (xs (nI (6 * i) + 2).toNatClampNeg) (xs (nI (6 * i) + 3).toNatClampNeg) H _ e1 ?_)
  show VL p l e s m below meth c b K 913 [.ref 81, .ref 0, .ref 60, .int (nI (6 * i))] [.int r] H1
  refine vl_aload_n C0 dL_law_913 rfl rfl ?_
  refine vl_aload_n C0 dL_law_914 rfl rfl ?_
  refine vl_iload_n C0 dL_law_915 rfl rfl ?_
  refine vl_iconst C0 dL_law_916 (v := 1) rfl ?_
  refine vl_iadd C0 dL_law_917 ?_
  refine vl_sld C0 dL_law_918 (vin1 hi hL) ?_
  refine vl_aload_n C0 dL_law_919 rfl rfl ?_
  refine vl_iload_n C0 dL_law_920 rfl rfl ?_
  refine vl_iconst C0 dL_law_921 (v := 2) rfl ?_
  refine vl_iadd C0 dL_law_922 ?_
  refine vl_sld C0 dL_law_923 (vin2 hi hL) ?_
  refine vl_aload_n C0 dL_law_924 rfl rfl ?_
  refine vl_iload_n C0 dL_law_925 rfl rfl ?_
  refine vl_iconst C0 dL_law_926 (v := 3) rfl ?_
  refine vl_iadd C0 dL_law_927 ?_
  refine vl_sld C0 dL_law_928 (vin3 hi hL) ?_
  refine vl_callV C0 [.int (xs (nI (6 * i) + 1).toNatClampNeg), .int (xs (nI (6 * i) + 2).toNatClampNeg), .int (xs (nI (6 * i) + 3).toNatClampNeg)] dL_law_929 co_X8_best im_X8_best se_X8_best mlL_110 rfl (c0 := 60) (by decide) (rfl : sh 60 = (0, 8)) (rfl : classes[8]? = some (RX8, TX8, 30)) rfl (S := [.int r]) rfl (Nat.le_of_ble_eq_true rfl) (k_X8_best (D := 60) (by omega) (xs (nI (6 * i) + 1).toNatClampNeg) (xs (nI (6 * i) + 2).toNatClampNeg) (xs (nI (6 * i) + 3).toNatClampNeg) H1 _ e2 ?_)
  show VL p l e s m below meth c b K 932 [.ref 81, .ref 0, .ref 60, .int (nI (6 * i))] [.int r, .int r] H2
  refine vl_icmp_eq C0 dL_law_932 1529 (by decide) (fun _ => nx H2 hJ2) (fun z => absurd rfl z)
set_option maxHeartbeats 4000000 in
set_option maxRecDepth 100000 in
theorem lc_least {p : Program} {l : Launch} {e : Env} {s : State} {m : MethodId} {below : List Frame} {meth : Method} {c : Code} {b L : Nat} {xs : Nat → Int32} {K : GC} (C0 : LC p s m meth c b L xs K) (hL : L ≤ 3072) {J : Hp → Prop} (hp : PR_least J) {i : Nat} (hi : 6 * i + 6 ≤ L) {H : Hp} (hJ : J H) (nx : ∀ H2, J H2 → VL p l e s m below meth c b K 1529 [.ref 81, .ref 0, .ref 60, .int (nI (6 * i))] [] H2) : VL p l e s m below meth c b K 937 [.ref 81, .ref 0, .ref 60, .int (nI (6 * i))] [] H := by
  obtain ⟨r, H1, H2, e1, e2, hJ2⟩ := hp H hJ (xs (nI (6 * i) + 1).toNatClampNeg) (xs (nI (6 * i) + 2).toNatClampNeg) (xs (nI (6 * i) + 3).toNatClampNeg)
  refine vl_aload_n C0 dL_law_937 rfl rfl ?_
  refine vl_aload_n C0 dL_law_938 rfl rfl ?_
  refine vl_iload_n C0 dL_law_939 rfl rfl ?_
  refine vl_iconst C0 dL_law_940 (v := 1) rfl ?_
  refine vl_iadd C0 dL_law_941 ?_
  refine vl_sld C0 dL_law_942 (vin1 hi hL) ?_
  refine vl_aload_n C0 dL_law_943 rfl rfl ?_
  refine vl_iload_n C0 dL_law_944 rfl rfl ?_
  refine vl_iconst C0 dL_law_945 (v := 2) rfl ?_
  refine vl_iadd C0 dL_law_946 ?_
  refine vl_sld C0 dL_law_947 (vin2 hi hL) ?_
  refine vl_aload_n C0 dL_law_948 rfl rfl ?_
  refine vl_iload_n C0 dL_law_949 rfl rfl ?_
  refine vl_iconst C0 dL_law_950 (v := 3) rfl ?_
  refine vl_iadd C0 dL_law_951 ?_
  refine vl_sld C0 dL_law_952 (vin3 hi hL) ?_
  refine vl_callV C0 [.int (xs (nI (6 * i) + 1).toNatClampNeg), .int (xs (nI (6 * i) + 2).toNatClampNeg), .int (xs (nI (6 * i) + 3).toNatClampNeg)] dL_law_953 co_X7_least im_X7_least se_X7_least mlL_111 rfl (c0 := 0) (by decide) (rfl : sh 0 = (0, 7)) (rfl : classes[7]? = some (RX7, TX7, 11)) rfl (S := []) rfl (Nat.le_of_ble_eq_true rfl) (k_X7_least (D := 60) (by omega) (xs (nI (6 * i) + 1).toNatClampNeg) (xs (nI (6 * i) + 2).toNatClampNeg) (xs (nI (6 * i) + 3).toNatClampNeg) H _ e1 ?_)
  show VL p l e s m below meth c b K 956 [.ref 81, .ref 0, .ref 60, .int (nI (6 * i))] [.int r] H1
  refine vl_aload_n C0 dL_law_956 rfl rfl ?_
  refine vl_aload_n C0 dL_law_957 rfl rfl ?_
  refine vl_iload_n C0 dL_law_958 rfl rfl ?_
  refine vl_iconst C0 dL_law_959 (v := 1) rfl ?_
  refine vl_iadd C0 dL_law_960 ?_
  refine vl_sld C0 dL_law_961 (vin1 hi hL) ?_
  refine vl_aload_n C0 dL_law_962 rfl rfl ?_
  refine vl_iload_n C0 dL_law_963 rfl rfl ?_
  refine vl_iconst C0 dL_law_964 (v := 2) rfl ?_
  refine vl_iadd C0 dL_law_965 ?_
  refine vl_sld C0 dL_law_966 (vin2 hi hL) ?_
  refine vl_aload_n C0 dL_law_967 rfl rfl ?_
  refine vl_iload_n C0 dL_law_968 rfl rfl ?_
  refine vl_iconst C0 dL_law_969 (v := 3) rfl ?_
  refine vl_iadd C0 dL_law_970 ?_
  refine vl_sld C0 dL_law_971 (vin3 hi hL) ?_
  refine vl_callV C0 [.int (xs (nI (6 * i) + 1).toNatClampNeg), .int (xs (nI (6 * i) + 2).toNatClampNeg), .int (xs (nI (6 * i) + 3).toNatClampNeg)] dL_law_972 co_X8_least im_X8_least se_X8_least mlL_114 rfl (c0 := 60) (by decide) (rfl : sh 60 = (0, 8)) (rfl : classes[8]? = some (RX8, TX8, 30)) rfl (S := [.int r]) rfl (Nat.le_of_ble_eq_true rfl) (k_X8_least (D := 60) (by omega) (xs (nI (6 * i) + 1).toNatClampNeg) (xs (nI (6 * i) + 2).toNatClampNeg) (xs (nI (6 * i) + 3).toNatClampNeg) H1 _ e2 ?_)
  show VL p l e s m below meth c b K 975 [.ref 81, .ref 0, .ref 60, .int (nI (6 * i))] [.int r, .int r] H2
  refine vl_icmp_eq C0 dL_law_975 1529 (by decide) (fun _ => nx H2 hJ2) (fun z => absurd rfl z)
set_option maxHeartbeats 4000000 in
set_option maxRecDepth 100000 in
theorem lc_missed {p : Program} {l : Launch} {e : Env} {s : State} {m : MethodId} {below : List Frame} {meth : Method} {c : Code} {b L : Nat} {xs : Nat → Int32} {K : GC} (C0 : LC p s m meth c b L xs K) (hL : L ≤ 3072) {J : Hp → Prop} (hp : PR_missed J) {i : Nat} (hi : 6 * i + 6 ≤ L) {H : Hp} (hJ : J H) (nx : ∀ H2, J H2 → VL p l e s m below meth c b K 1529 [.ref 81, .ref 0, .ref 60, .int (nI (6 * i))] [] H2) : VL p l e s m below meth c b K 980 [.ref 81, .ref 0, .ref 60, .int (nI (6 * i))] [] H := by
  obtain ⟨r, H1, H2, e1, e2, hJ2⟩ := hp H hJ (xs (nI (6 * i) + 1).toNatClampNeg) (xs (nI (6 * i) + 2).toNatClampNeg)
  refine vl_aload_n C0 dL_law_980 rfl rfl ?_
  refine vl_aload_n C0 dL_law_981 rfl rfl ?_
  refine vl_iload_n C0 dL_law_982 rfl rfl ?_
  refine vl_iconst C0 dL_law_983 (v := 1) rfl ?_
  refine vl_iadd C0 dL_law_984 ?_
  refine vl_sld C0 dL_law_985 (vin1 hi hL) ?_
  refine vl_aload_n C0 dL_law_986 rfl rfl ?_
  refine vl_iload_n C0 dL_law_987 rfl rfl ?_
  refine vl_iconst C0 dL_law_988 (v := 2) rfl ?_
  refine vl_iadd C0 dL_law_989 ?_
  refine vl_sld C0 dL_law_990 (vin2 hi hL) ?_
  refine vl_callV C0 [.int (xs (nI (6 * i) + 1).toNatClampNeg), .int (xs (nI (6 * i) + 2).toNatClampNeg)] dL_law_991 co_X7_missed im_X7_missed se_X7_missed mlL_115 rfl (c0 := 0) (by decide) (rfl : sh 0 = (0, 7)) (rfl : classes[7]? = some (RX7, TX7, 11)) rfl (S := []) rfl (Nat.le_of_ble_eq_true rfl) (k_X7_missed (D := 60) (by omega) (xs (nI (6 * i) + 1).toNatClampNeg) (xs (nI (6 * i) + 2).toNatClampNeg) H _ e1 ?_)
  show VL p l e s m below meth c b K 994 [.ref 81, .ref 0, .ref 60, .int (nI (6 * i))] [.int r] H1
  refine vl_aload_n C0 dL_law_994 rfl rfl ?_
  refine vl_aload_n C0 dL_law_995 rfl rfl ?_
  refine vl_iload_n C0 dL_law_996 rfl rfl ?_
  refine vl_iconst C0 dL_law_997 (v := 1) rfl ?_
  refine vl_iadd C0 dL_law_998 ?_
  refine vl_sld C0 dL_law_999 (vin1 hi hL) ?_
  refine vl_aload_n C0 dL_law_1000 rfl rfl ?_
  refine vl_iload_n C0 dL_law_1001 rfl rfl ?_
  refine vl_iconst C0 dL_law_1002 (v := 2) rfl ?_
  refine vl_iadd C0 dL_law_1003 ?_
  refine vl_sld C0 dL_law_1004 (vin2 hi hL) ?_
  refine vl_callV C0 [.int (xs (nI (6 * i) + 1).toNatClampNeg), .int (xs (nI (6 * i) + 2).toNatClampNeg)] dL_law_1005 co_X8_missed im_X8_missed se_X8_missed mlL_118 rfl (c0 := 60) (by decide) (rfl : sh 60 = (0, 8)) (rfl : classes[8]? = some (RX8, TX8, 30)) rfl (S := [.int r]) rfl (Nat.le_of_ble_eq_true rfl) (k_X8_missed (D := 60) (by omega) (xs (nI (6 * i) + 1).toNatClampNeg) (xs (nI (6 * i) + 2).toNatClampNeg) H1 _ e2 ?_)
  show VL p l e s m below meth c b K 1008 [.ref 81, .ref 0, .ref 60, .int (nI (6 * i))] [.int r, .int r] H2
  refine vl_icmp_eq C0 dL_law_1008 1529 (by decide) (fun _ => nx H2 hJ2) (fun z => absurd rfl z)
set_option maxHeartbeats 4000000 in
set_option maxRecDepth 100000 in
theorem lc_ring {p : Program} {l : Launch} {e : Env} {s : State} {m : MethodId} {below : List Frame} {meth : Method} {c : Code} {b L : Nat} {xs : Nat → Int32} {K : GC} (C0 : LC p s m meth c b L xs K) (hL : L ≤ 3072) {J : Hp → Prop} (hp : PR_ring J) {i : Nat} (hi : 6 * i + 6 ≤ L) {H : Hp} (hJ : J H) (nx : ∀ H2, J H2 → VL p l e s m below meth c b K 1529 [.ref 81, .ref 0, .ref 60, .int (nI (6 * i))] [] H2) : VL p l e s m below meth c b K 1013 [.ref 81, .ref 0, .ref 60, .int (nI (6 * i))] [] H := by
  obtain ⟨r, H1, H2, e1, e2, hJ2⟩ := hp H hJ (xs (nI (6 * i) + 1).toNatClampNeg)
  refine vl_aload_n C0 dL_law_1013 rfl rfl ?_
  refine vl_aload_n C0 dL_law_1014 rfl rfl ?_
  refine vl_iload_n C0 dL_law_1015 rfl rfl ?_
  refine vl_iconst C0 dL_law_1016 (v := 1) rfl ?_
  refine vl_iadd C0 dL_law_1017 ?_
  refine vl_sld C0 dL_law_1018 (vin1 hi hL) ?_
  refine vl_callV C0 [.int (xs (nI (6 * i) + 1).toNatClampNeg)] dL_law_1019 co_X7_ring im_X7_ring se_X7_ring mlL_119 rfl (c0 := 0) (by decide) (rfl : sh 0 = (0, 7)) (rfl : classes[7]? = some (RX7, TX7, 11)) rfl (S := []) rfl (Nat.le_of_ble_eq_true rfl) (k_X7_ring (D := 60) (by omega) (xs (nI (6 * i) + 1).toNatClampNeg) H _ e1 ?_)
  show VL p l e s m below meth c b K 1022 [.ref 81, .ref 0, .ref 60, .int (nI (6 * i))] [.int r] H1
  refine vl_aload_n C0 dL_law_1022 rfl rfl ?_
  refine vl_aload_n C0 dL_law_1023 rfl rfl ?_
  refine vl_iload_n C0 dL_law_1024 rfl rfl ?_
  refine vl_iconst C0 dL_law_1025 (v := 1) rfl ?_
  refine vl_iadd C0 dL_law_1026 ?_
  refine vl_sld C0 dL_law_1027 (vin1 hi hL) ?_
  refine vl_callV C0 [.int (xs (nI (6 * i) + 1).toNatClampNeg)] dL_law_1028 co_X8_ring im_X8_ring se_X8_ring mlL_122 rfl (c0 := 60) (by decide) (rfl : sh 60 = (0, 8)) (rfl : classes[8]? = some (RX8, TX8, 30)) rfl (S := [.int r]) rfl (Nat.le_of_ble_eq_true rfl) (k_X8_ring (D := 60) (by omega) (xs (nI (6 * i) + 1).toNatClampNeg) H1 _ e2 ?_)
  show VL p l e s m below meth c b K 1031 [.ref 81, .ref 0, .ref 60, .int (nI (6 * i))] [.int r, .int r] H2
  refine vl_icmp_eq C0 dL_law_1031 1529 (by decide) (fun _ => nx H2 hJ2) (fun z => absurd rfl z)
set_option maxHeartbeats 4000000 in
set_option maxRecDepth 100000 in
theorem lc_halves {p : Program} {l : Launch} {e : Env} {s : State} {m : MethodId} {below : List Frame} {meth : Method} {c : Code} {b L : Nat} {xs : Nat → Int32} {K : GC} (C0 : LC p s m meth c b L xs K) (hL : L ≤ 3072) {J : Hp → Prop} (hp : PR_halves J) {i : Nat} (hi : 6 * i + 6 ≤ L) {H : Hp} (hJ : J H) (nx : ∀ H2, J H2 → VL p l e s m below meth c b K 1529 [.ref 81, .ref 0, .ref 60, .int (nI (6 * i))] [] H2) : VL p l e s m below meth c b K 1036 [.ref 81, .ref 0, .ref 60, .int (nI (6 * i))] [] H := by
  obtain ⟨r, H1, H2, e1, e2, hJ2⟩ := hp H hJ (xs (nI (6 * i) + 1).toNatClampNeg) (xs (nI (6 * i) + 2).toNatClampNeg) (xs (nI (6 * i) + 3).toNatClampNeg) (xs (nI (6 * i) + 4).toNatClampNeg) (xs (nI (6 * i) + 5).toNatClampNeg)
  refine vl_aload_n C0 dL_law_1036 rfl rfl ?_
  refine vl_aload_n C0 dL_law_1037 rfl rfl ?_
  refine vl_iload_n C0 dL_law_1038 rfl rfl ?_
  refine vl_iconst C0 dL_law_1039 (v := 1) rfl ?_
  refine vl_iadd C0 dL_law_1040 ?_
  refine vl_sld C0 dL_law_1041 (vin1 hi hL) ?_
  refine vl_aload_n C0 dL_law_1042 rfl rfl ?_
  refine vl_iload_n C0 dL_law_1043 rfl rfl ?_
  refine vl_iconst C0 dL_law_1044 (v := 2) rfl ?_
  refine vl_iadd C0 dL_law_1045 ?_
  refine vl_sld C0 dL_law_1046 (vin2 hi hL) ?_
  refine vl_aload_n C0 dL_law_1047 rfl rfl ?_
  refine vl_iload_n C0 dL_law_1048 rfl rfl ?_
  refine vl_iconst C0 dL_law_1049 (v := 3) rfl ?_
  refine vl_iadd C0 dL_law_1050 ?_
  refine vl_sld C0 dL_law_1051 (vin3 hi hL) ?_
  refine vl_aload_n C0 dL_law_1052 rfl rfl ?_
  refine vl_iload_n C0 dL_law_1053 rfl rfl ?_
  refine vl_iconst C0 dL_law_1054 (v := 4) rfl ?_
  refine vl_iadd C0 dL_law_1055 ?_
  refine vl_sld C0 dL_law_1056 (vin4 hi hL) ?_
  refine vl_aload_n C0 dL_law_1057 rfl rfl ?_
  refine vl_iload_n C0 dL_law_1058 rfl rfl ?_
  refine vl_iconst C0 dL_law_1059 (v := 5) rfl ?_
  refine vl_iadd C0 dL_law_1060 ?_
  refine vl_sld C0 dL_law_1061 (vin5 hi hL) ?_
  refine vl_callV C0 [.int (xs (nI (6 * i) + 1).toNatClampNeg), .int (xs (nI (6 * i) + 2).toNatClampNeg), .int (xs (nI (6 * i) + 3).toNatClampNeg), .int (xs (nI (6 * i) + 4).toNatClampNeg), .int (xs (nI (6 * i) + 5).toNatClampNeg)] dL_law_1062 co_X7_halves im_X7_halves se_X7_halves mlL_123 rfl (c0 := 0) (by decide) (rfl : sh 0 = (0, 7)) (rfl : classes[7]? = some (RX7, TX7, 11)) rfl (S := []) rfl (Nat.le_of_ble_eq_true rfl) (k_X7_halves (D := 60) (by omega) (xs (nI (6 * i) + 1).toNatClampNeg) (xs (nI (6 * i) + 2).toNatClampNeg) (xs (nI (6 * i) + 3).toNatClampNeg) (xs (nI (6 * i) + 4).toNatClampNeg) (xs (nI (6 * i) + 5).toNatClampNeg) H _ e1 ?_)
  show VL p l e s m below meth c b K 1065 [.ref 81, .ref 0, .ref 60, .int (nI (6 * i))] [.int r] H1
  refine vl_aload_n C0 dL_law_1065 rfl rfl ?_
  refine vl_aload_n C0 dL_law_1066 rfl rfl ?_
  refine vl_iload_n C0 dL_law_1067 rfl rfl ?_
  refine vl_iconst C0 dL_law_1068 (v := 1) rfl ?_
  refine vl_iadd C0 dL_law_1069 ?_
  refine vl_sld C0 dL_law_1070 (vin1 hi hL) ?_
  refine vl_aload_n C0 dL_law_1071 rfl rfl ?_
  refine vl_iload_n C0 dL_law_1072 rfl rfl ?_
  refine vl_iconst C0 dL_law_1073 (v := 2) rfl ?_
  refine vl_iadd C0 dL_law_1074 ?_
  refine vl_sld C0 dL_law_1075 (vin2 hi hL) ?_
  refine vl_aload_n C0 dL_law_1076 rfl rfl ?_
  refine vl_iload_n C0 dL_law_1077 rfl rfl ?_
  refine vl_iconst C0 dL_law_1078 (v := 3) rfl ?_
  refine vl_iadd C0 dL_law_1079 ?_
  refine vl_sld C0 dL_law_1080 (vin3 hi hL) ?_
  refine vl_aload_n C0 dL_law_1081 rfl rfl ?_
  refine vl_iload_n C0 dL_law_1082 rfl rfl ?_
  refine vl_iconst C0 dL_law_1083 (v := 4) rfl ?_
  refine vl_iadd C0 dL_law_1084 ?_
  refine vl_sld C0 dL_law_1085 (vin4 hi hL) ?_
  refine vl_aload_n C0 dL_law_1086 rfl rfl ?_
  refine vl_iload_n C0 dL_law_1087 rfl rfl ?_
  refine vl_iconst C0 dL_law_1088 (v := 5) rfl ?_
  refine vl_iadd C0 dL_law_1089 ?_
  refine vl_sld C0 dL_law_1090 (vin5 hi hL) ?_
  refine vl_callV C0 [.int (xs (nI (6 * i) + 1).toNatClampNeg), .int (xs (nI (6 * i) + 2).toNatClampNeg), .int (xs (nI (6 * i) + 3).toNatClampNeg), .int (xs (nI (6 * i) + 4).toNatClampNeg), .int (xs (nI (6 * i) + 5).toNatClampNeg)] dL_law_1091 co_X8_halves im_X8_halves se_X8_halves mlL_126 rfl (c0 := 60) (by decide) (rfl : sh 60 = (0, 8)) (rfl : classes[8]? = some (RX8, TX8, 30)) rfl (S := [.int r]) rfl (Nat.le_of_ble_eq_true rfl) (k_X8_halves (D := 60) (by omega) (xs (nI (6 * i) + 1).toNatClampNeg) (xs (nI (6 * i) + 2).toNatClampNeg) (xs (nI (6 * i) + 3).toNatClampNeg) (xs (nI (6 * i) + 4).toNatClampNeg) (xs (nI (6 * i) + 5).toNatClampNeg) H1 _ e2 ?_)
  show VL p l e s m below meth c b K 1094 [.ref 81, .ref 0, .ref 60, .int (nI (6 * i))] [.int r, .int r] H2
  refine vl_icmp_eq C0 dL_law_1094 1529 (by decide) (fun _ => nx H2 hJ2) (fun z => absurd rfl z)
set_option maxHeartbeats 4000000 in
set_option maxRecDepth 100000 in
theorem lc_sets {p : Program} {l : Launch} {e : Env} {s : State} {m : MethodId} {below : List Frame} {meth : Method} {c : Code} {b L : Nat} {xs : Nat → Int32} {K : GC} (C0 : LC p s m meth c b L xs K) (hL : L ≤ 3072) {J : Hp → Prop} (hp : PR_sets J) {i : Nat} (hi : 6 * i + 6 ≤ L) {H : Hp} (hJ : J H) (nx : ∀ H2, J H2 → VL p l e s m below meth c b K 1529 [.ref 81, .ref 0, .ref 60, .int (nI (6 * i))] [] H2) : VL p l e s m below meth c b K 1099 [.ref 81, .ref 0, .ref 60, .int (nI (6 * i))] [] H := by
  obtain ⟨r, H1, H2, e1, e2, hJ2⟩ := hp H hJ (xs (nI (6 * i) + 1).toNatClampNeg) (xs (nI (6 * i) + 2).toNatClampNeg)
  refine vl_aload_n C0 dL_law_1099 rfl rfl ?_
  refine vl_aload_n C0 dL_law_1100 rfl rfl ?_
  refine vl_iload_n C0 dL_law_1101 rfl rfl ?_
  refine vl_iconst C0 dL_law_1102 (v := 1) rfl ?_
  refine vl_iadd C0 dL_law_1103 ?_
  refine vl_sld C0 dL_law_1104 (vin1 hi hL) ?_
  refine vl_aload_n C0 dL_law_1105 rfl rfl ?_
  refine vl_iload_n C0 dL_law_1106 rfl rfl ?_
  refine vl_iconst C0 dL_law_1107 (v := 2) rfl ?_
  refine vl_iadd C0 dL_law_1108 ?_
  refine vl_sld C0 dL_law_1109 (vin2 hi hL) ?_
  refine vl_callV C0 [.int (xs (nI (6 * i) + 1).toNatClampNeg), .int (xs (nI (6 * i) + 2).toNatClampNeg)] dL_law_1110 co_X7_sets im_X7_sets se_X7_sets mlL_127 rfl (c0 := 0) (by decide) (rfl : sh 0 = (0, 7)) (rfl : classes[7]? = some (RX7, TX7, 11)) rfl (S := []) rfl (Nat.le_of_ble_eq_true rfl) (k_X7_sets (D := 60) (by omega) (xs (nI (6 * i) + 1).toNatClampNeg) (xs (nI (6 * i) + 2).toNatClampNeg) H _ e1 ?_)
  show VL p l e s m below meth c b K 1113 [.ref 81, .ref 0, .ref 60, .int (nI (6 * i))] [.int r] H1
  refine vl_aload_n C0 dL_law_1113 rfl rfl ?_
  refine vl_aload_n C0 dL_law_1114 rfl rfl ?_
  refine vl_iload_n C0 dL_law_1115 rfl rfl ?_
  refine vl_iconst C0 dL_law_1116 (v := 1) rfl ?_
  refine vl_iadd C0 dL_law_1117 ?_
  refine vl_sld C0 dL_law_1118 (vin1 hi hL) ?_
  refine vl_aload_n C0 dL_law_1119 rfl rfl ?_
  refine vl_iload_n C0 dL_law_1120 rfl rfl ?_
  refine vl_iconst C0 dL_law_1121 (v := 2) rfl ?_
  refine vl_iadd C0 dL_law_1122 ?_
  refine vl_sld C0 dL_law_1123 (vin2 hi hL) ?_
  refine vl_callV C0 [.int (xs (nI (6 * i) + 1).toNatClampNeg), .int (xs (nI (6 * i) + 2).toNatClampNeg)] dL_law_1124 co_X8_sets im_X8_sets se_X8_sets mlL_130 rfl (c0 := 60) (by decide) (rfl : sh 60 = (0, 8)) (rfl : classes[8]? = some (RX8, TX8, 30)) rfl (S := [.int r]) rfl (Nat.le_of_ble_eq_true rfl) (k_X8_sets (D := 60) (by omega) (xs (nI (6 * i) + 1).toNatClampNeg) (xs (nI (6 * i) + 2).toNatClampNeg) H1 _ e2 ?_)
  show VL p l e s m below meth c b K 1127 [.ref 81, .ref 0, .ref 60, .int (nI (6 * i))] [.int r, .int r] H2
  refine vl_icmp_eq C0 dL_law_1127 1529 (by decide) (fun _ => nx H2 hJ2) (fun z => absurd rfl z)
set_option maxHeartbeats 4000000 in
set_option maxRecDepth 100000 in
theorem lc_byTurns {p : Program} {l : Launch} {e : Env} {s : State} {m : MethodId} {below : List Frame} {meth : Method} {c : Code} {b L : Nat} {xs : Nat → Int32} {K : GC} (C0 : LC p s m meth c b L xs K) (hL : L ≤ 3072) {J : Hp → Prop} (hp : PR_byTurns J) {i : Nat} (hi : 6 * i + 6 ≤ L) {H : Hp} (hJ : J H) (nx : ∀ H2, J H2 → VL p l e s m below meth c b K 1529 [.ref 81, .ref 0, .ref 60, .int (nI (6 * i))] [] H2) : VL p l e s m below meth c b K 1132 [.ref 81, .ref 0, .ref 60, .int (nI (6 * i))] [] H := by
  obtain ⟨r, H1, H2, e1, e2, hJ2⟩ := hp H hJ (xs (nI (6 * i) + 1).toNatClampNeg) (xs (nI (6 * i) + 2).toNatClampNeg) (xs (nI (6 * i) + 3).toNatClampNeg) (xs (nI (6 * i) + 4).toNatClampNeg)
  refine vl_aload_n C0 dL_law_1132 rfl rfl ?_
  refine vl_aload_n C0 dL_law_1133 rfl rfl ?_
  refine vl_iload_n C0 dL_law_1134 rfl rfl ?_
  refine vl_iconst C0 dL_law_1135 (v := 1) rfl ?_
  refine vl_iadd C0 dL_law_1136 ?_
  refine vl_sld C0 dL_law_1137 (vin1 hi hL) ?_
  refine vl_aload_n C0 dL_law_1138 rfl rfl ?_
  refine vl_iload_n C0 dL_law_1139 rfl rfl ?_
  refine vl_iconst C0 dL_law_1140 (v := 2) rfl ?_
  refine vl_iadd C0 dL_law_1141 ?_
  refine vl_sld C0 dL_law_1142 (vin2 hi hL) ?_
  refine vl_aload_n C0 dL_law_1143 rfl rfl ?_
  refine vl_iload_n C0 dL_law_1144 rfl rfl ?_
  refine vl_iconst C0 dL_law_1145 (v := 3) rfl ?_
  refine vl_iadd C0 dL_law_1146 ?_
  refine vl_sld C0 dL_law_1147 (vin3 hi hL) ?_
  refine vl_aload_n C0 dL_law_1148 rfl rfl ?_
  refine vl_iload_n C0 dL_law_1149 rfl rfl ?_
  refine vl_iconst C0 dL_law_1150 (v := 4) rfl ?_
  refine vl_iadd C0 dL_law_1151 ?_
  refine vl_sld C0 dL_law_1152 (vin4 hi hL) ?_
  refine vl_callV C0 [.int (xs (nI (6 * i) + 1).toNatClampNeg), .int (xs (nI (6 * i) + 2).toNatClampNeg), .int (xs (nI (6 * i) + 3).toNatClampNeg), .int (xs (nI (6 * i) + 4).toNatClampNeg)] dL_law_1153 co_X7_byTurns im_X7_byTurns se_X7_byTurns mlL_131 rfl (c0 := 0) (by decide) (rfl : sh 0 = (0, 7)) (rfl : classes[7]? = some (RX7, TX7, 11)) rfl (S := []) rfl (Nat.le_of_ble_eq_true rfl) (k_X7_byTurns (D := 60) (by omega) (xs (nI (6 * i) + 1).toNatClampNeg) (xs (nI (6 * i) + 2).toNatClampNeg) (xs (nI (6 * i) + 3).toNatClampNeg) (xs (nI (6 * i) + 4).toNatClampNeg) H _ e1 ?_)
  show VL p l e s m below meth c b K 1156 [.ref 81, .ref 0, .ref 60, .int (nI (6 * i))] [.int r] H1
  refine vl_aload_n C0 dL_law_1156 rfl rfl ?_
  refine vl_aload_n C0 dL_law_1157 rfl rfl ?_
  refine vl_iload_n C0 dL_law_1158 rfl rfl ?_
  refine vl_iconst C0 dL_law_1159 (v := 1) rfl ?_
  refine vl_iadd C0 dL_law_1160 ?_
  refine vl_sld C0 dL_law_1161 (vin1 hi hL) ?_
  refine vl_aload_n C0 dL_law_1162 rfl rfl ?_
  refine vl_iload_n C0 dL_law_1163 rfl rfl ?_
  refine vl_iconst C0 dL_law_1164 (v := 2) rfl ?_
  refine vl_iadd C0 dL_law_1165 ?_
  refine vl_sld C0 dL_law_1166 (vin2 hi hL) ?_
  refine vl_aload_n C0 dL_law_1167 rfl rfl ?_
  refine vl_iload_n C0 dL_law_1168 rfl rfl ?_
  refine vl_iconst C0 dL_law_1169 (v := 3) rfl ?_
  refine vl_iadd C0 dL_law_1170 ?_
  refine vl_sld C0 dL_law_1171 (vin3 hi hL) ?_
  refine vl_aload_n C0 dL_law_1172 rfl rfl ?_
  refine vl_iload_n C0 dL_law_1173 rfl rfl ?_
  refine vl_iconst C0 dL_law_1174 (v := 4) rfl ?_
  refine vl_iadd C0 dL_law_1175 ?_
  refine vl_sld C0 dL_law_1176 (vin4 hi hL) ?_
  refine vl_callV C0 [.int (xs (nI (6 * i) + 1).toNatClampNeg), .int (xs (nI (6 * i) + 2).toNatClampNeg), .int (xs (nI (6 * i) + 3).toNatClampNeg), .int (xs (nI (6 * i) + 4).toNatClampNeg)] dL_law_1177 co_X8_byTurns im_X8_byTurns se_X8_byTurns mlL_134 rfl (c0 := 60) (by decide) (rfl : sh 60 = (0, 8)) (rfl : classes[8]? = some (RX8, TX8, 30)) rfl (S := [.int r]) rfl (Nat.le_of_ble_eq_true rfl) (k_X8_byTurns (D := 60) (by omega) (xs (nI (6 * i) + 1).toNatClampNeg) (xs (nI (6 * i) + 2).toNatClampNeg) (xs (nI (6 * i) + 3).toNatClampNeg) (xs (nI (6 * i) + 4).toNatClampNeg) H1 _ e2 ?_)
  show VL p l e s m below meth c b K 1180 [.ref 81, .ref 0, .ref 60, .int (nI (6 * i))] [.int r, .int r] H2
  refine vl_icmp_eq C0 dL_law_1180 1529 (by decide) (fun _ => nx H2 hJ2) (fun z => absurd rfl z)
set_option maxHeartbeats 4000000 in
set_option maxRecDepth 100000 in
theorem lc_who {p : Program} {l : Launch} {e : Env} {s : State} {m : MethodId} {below : List Frame} {meth : Method} {c : Code} {b L : Nat} {xs : Nat → Int32} {K : GC} (C0 : LC p s m meth c b L xs K) (hL : L ≤ 3072) {J : Hp → Prop} (hp : PR_who J) {i : Nat} (hi : 6 * i + 6 ≤ L) {H : Hp} (hJ : J H) (nx : ∀ H2, J H2 → VL p l e s m below meth c b K 1529 [.ref 81, .ref 0, .ref 60, .int (nI (6 * i))] [] H2) : VL p l e s m below meth c b K 1185 [.ref 81, .ref 0, .ref 60, .int (nI (6 * i))] [] H := by
  obtain ⟨r, H1, H2, e1, e2, hJ2⟩ := hp H hJ (xs (nI (6 * i) + 1).toNatClampNeg) (xs (nI (6 * i) + 2).toNatClampNeg) (xs (nI (6 * i) + 3).toNatClampNeg) (xs (nI (6 * i) + 4).toNatClampNeg)
  refine vl_aload_n C0 dL_law_1185 rfl rfl ?_
  refine vl_aload_n C0 dL_law_1186 rfl rfl ?_
  refine vl_iload_n C0 dL_law_1187 rfl rfl ?_
  refine vl_iconst C0 dL_law_1188 (v := 1) rfl ?_
  refine vl_iadd C0 dL_law_1189 ?_
  refine vl_sld C0 dL_law_1190 (vin1 hi hL) ?_
  refine vl_aload_n C0 dL_law_1191 rfl rfl ?_
  refine vl_iload_n C0 dL_law_1192 rfl rfl ?_
  refine vl_iconst C0 dL_law_1193 (v := 2) rfl ?_
  refine vl_iadd C0 dL_law_1194 ?_
  refine vl_sld C0 dL_law_1195 (vin2 hi hL) ?_
  refine vl_aload_n C0 dL_law_1196 rfl rfl ?_
  refine vl_iload_n C0 dL_law_1197 rfl rfl ?_
  refine vl_iconst C0 dL_law_1198 (v := 3) rfl ?_
  refine vl_iadd C0 dL_law_1199 ?_
  refine vl_sld C0 dL_law_1200 (vin3 hi hL) ?_
  refine vl_aload_n C0 dL_law_1201 rfl rfl ?_
  refine vl_iload_n C0 dL_law_1202 rfl rfl ?_
  refine vl_iconst C0 dL_law_1203 (v := 4) rfl ?_
  refine vl_iadd C0 dL_law_1204 ?_
  refine vl_sld C0 dL_law_1205 (vin4 hi hL) ?_
  refine vl_callV C0 [.int (xs (nI (6 * i) + 1).toNatClampNeg), .int (xs (nI (6 * i) + 2).toNatClampNeg), .int (xs (nI (6 * i) + 3).toNatClampNeg), .int (xs (nI (6 * i) + 4).toNatClampNeg)] dL_law_1206 co_X7_who im_X7_who se_X7_who mlL_135 rfl (c0 := 0) (by decide) (rfl : sh 0 = (0, 7)) (rfl : classes[7]? = some (RX7, TX7, 11)) rfl (S := []) rfl (Nat.le_of_ble_eq_true rfl) (k_X7_who (D := 60) (by omega) (xs (nI (6 * i) + 1).toNatClampNeg) (xs (nI (6 * i) + 2).toNatClampNeg) (xs (nI (6 * i) + 3).toNatClampNeg) (xs (nI (6 * i) + 4).toNatClampNeg) H _ e1 ?_)
  show VL p l e s m below meth c b K 1209 [.ref 81, .ref 0, .ref 60, .int (nI (6 * i))] [.int r] H1
  refine vl_aload_n C0 dL_law_1209 rfl rfl ?_
  refine vl_aload_n C0 dL_law_1210 rfl rfl ?_
  refine vl_iload_n C0 dL_law_1211 rfl rfl ?_
  refine vl_iconst C0 dL_law_1212 (v := 1) rfl ?_
  refine vl_iadd C0 dL_law_1213 ?_
  refine vl_sld C0 dL_law_1214 (vin1 hi hL) ?_
  refine vl_aload_n C0 dL_law_1215 rfl rfl ?_
  refine vl_iload_n C0 dL_law_1216 rfl rfl ?_
  refine vl_iconst C0 dL_law_1217 (v := 2) rfl ?_
  refine vl_iadd C0 dL_law_1218 ?_
  refine vl_sld C0 dL_law_1219 (vin2 hi hL) ?_
  refine vl_aload_n C0 dL_law_1220 rfl rfl ?_
  refine vl_iload_n C0 dL_law_1221 rfl rfl ?_
  refine vl_iconst C0 dL_law_1222 (v := 3) rfl ?_
  refine vl_iadd C0 dL_law_1223 ?_
  refine vl_sld C0 dL_law_1224 (vin3 hi hL) ?_
  refine vl_aload_n C0 dL_law_1225 rfl rfl ?_
  refine vl_iload_n C0 dL_law_1226 rfl rfl ?_
  refine vl_iconst C0 dL_law_1227 (v := 4) rfl ?_
  refine vl_iadd C0 dL_law_1228 ?_
  refine vl_sld C0 dL_law_1229 (vin4 hi hL) ?_
  refine vl_callV C0 [.int (xs (nI (6 * i) + 1).toNatClampNeg), .int (xs (nI (6 * i) + 2).toNatClampNeg), .int (xs (nI (6 * i) + 3).toNatClampNeg), .int (xs (nI (6 * i) + 4).toNatClampNeg)] dL_law_1230 co_X8_who im_X8_who se_X8_who mlL_138 rfl (c0 := 60) (by decide) (rfl : sh 60 = (0, 8)) (rfl : classes[8]? = some (RX8, TX8, 30)) rfl (S := [.int r]) rfl (Nat.le_of_ble_eq_true rfl) (k_X8_who (D := 60) (by omega) (xs (nI (6 * i) + 1).toNatClampNeg) (xs (nI (6 * i) + 2).toNatClampNeg) (xs (nI (6 * i) + 3).toNatClampNeg) (xs (nI (6 * i) + 4).toNatClampNeg) H1 _ e2 ?_)
  show VL p l e s m below meth c b K 1233 [.ref 81, .ref 0, .ref 60, .int (nI (6 * i))] [.int r, .int r] H2
  refine vl_icmp_eq C0 dL_law_1233 1529 (by decide) (fun _ => nx H2 hJ2) (fun z => absurd rfl z)
set_option maxHeartbeats 4000000 in
set_option maxRecDepth 100000 in
theorem lc_likely {p : Program} {l : Launch} {e : Env} {s : State} {m : MethodId} {below : List Frame} {meth : Method} {c : Code} {b L : Nat} {xs : Nat → Int32} {K : GC} (C0 : LC p s m meth c b L xs K) (hL : L ≤ 3072) {J : Hp → Prop} (hp : PR_likely J) {i : Nat} (hi : 6 * i + 6 ≤ L) {H : Hp} (hJ : J H) (nx : ∀ H2, J H2 → VL p l e s m below meth c b K 1529 [.ref 81, .ref 0, .ref 60, .int (nI (6 * i))] [] H2) : VL p l e s m below meth c b K 1238 [.ref 81, .ref 0, .ref 60, .int (nI (6 * i))] [] H := by
  obtain ⟨r, H1, H2, e1, e2, hJ2⟩ := hp H hJ (xs (nI (6 * i) + 1).toNatClampNeg) (xs (nI (6 * i) + 2).toNatClampNeg) (xs (nI (6 * i) + 3).toNatClampNeg) (xs (nI (6 * i) + 4).toNatClampNeg)
  refine vl_aload_n C0 dL_law_1238 rfl rfl ?_
  refine vl_aload_n C0 dL_law_1239 rfl rfl ?_
  refine vl_iload_n C0 dL_law_1240 rfl rfl ?_
  refine vl_iconst C0 dL_law_1241 (v := 1) rfl ?_
  refine vl_iadd C0 dL_law_1242 ?_
  refine vl_sld C0 dL_law_1243 (vin1 hi hL) ?_
  refine vl_aload_n C0 dL_law_1244 rfl rfl ?_
  refine vl_iload_n C0 dL_law_1245 rfl rfl ?_
  refine vl_iconst C0 dL_law_1246 (v := 2) rfl ?_
  refine vl_iadd C0 dL_law_1247 ?_
  refine vl_sld C0 dL_law_1248 (vin2 hi hL) ?_
  refine vl_aload_n C0 dL_law_1249 rfl rfl ?_
  refine vl_iload_n C0 dL_law_1250 rfl rfl ?_
  refine vl_iconst C0 dL_law_1251 (v := 3) rfl ?_
  refine vl_iadd C0 dL_law_1252 ?_
  refine vl_sld C0 dL_law_1253 (vin3 hi hL) ?_
  refine vl_aload_n C0 dL_law_1254 rfl rfl ?_
  refine vl_iload_n C0 dL_law_1255 rfl rfl ?_
  refine vl_iconst C0 dL_law_1256 (v := 4) rfl ?_
  refine vl_iadd C0 dL_law_1257 ?_
  refine vl_sld C0 dL_law_1258 (vin4 hi hL) ?_
  refine vl_callV C0 [.int (xs (nI (6 * i) + 1).toNatClampNeg), .int (xs (nI (6 * i) + 2).toNatClampNeg), .int (xs (nI (6 * i) + 3).toNatClampNeg), .int (xs (nI (6 * i) + 4).toNatClampNeg)] dL_law_1259 co_X7_likely im_X7_likely se_X7_likely mlL_139 rfl (c0 := 0) (by decide) (rfl : sh 0 = (0, 7)) (rfl : classes[7]? = some (RX7, TX7, 11)) rfl (S := []) rfl (Nat.le_of_ble_eq_true rfl) (k_X7_likely (D := 60) (by omega) (xs (nI (6 * i) + 1).toNatClampNeg) (xs (nI (6 * i) + 2).toNatClampNeg) (xs (nI (6 * i) + 3).toNatClampNeg) (xs (nI (6 * i) + 4).toNatClampNeg) H _ e1 ?_)
  show VL p l e s m below meth c b K 1262 [.ref 81, .ref 0, .ref 60, .int (nI (6 * i))] [.long r] H1
  refine vl_aload_n C0 dL_law_1262 rfl rfl ?_
  refine vl_aload_n C0 dL_law_1263 rfl rfl ?_
  refine vl_iload_n C0 dL_law_1264 rfl rfl ?_
  refine vl_iconst C0 dL_law_1265 (v := 1) rfl ?_
  refine vl_iadd C0 dL_law_1266 ?_
  refine vl_sld C0 dL_law_1267 (vin1 hi hL) ?_
  refine vl_aload_n C0 dL_law_1268 rfl rfl ?_
  refine vl_iload_n C0 dL_law_1269 rfl rfl ?_
  refine vl_iconst C0 dL_law_1270 (v := 2) rfl ?_
  refine vl_iadd C0 dL_law_1271 ?_
  refine vl_sld C0 dL_law_1272 (vin2 hi hL) ?_
  refine vl_aload_n C0 dL_law_1273 rfl rfl ?_
  refine vl_iload_n C0 dL_law_1274 rfl rfl ?_
  refine vl_iconst C0 dL_law_1275 (v := 3) rfl ?_
  refine vl_iadd C0 dL_law_1276 ?_
  refine vl_sld C0 dL_law_1277 (vin3 hi hL) ?_
  refine vl_aload_n C0 dL_law_1278 rfl rfl ?_
  refine vl_iload_n C0 dL_law_1279 rfl rfl ?_
  refine vl_iconst C0 dL_law_1280 (v := 4) rfl ?_
  refine vl_iadd C0 dL_law_1281 ?_
  refine vl_sld C0 dL_law_1282 (vin4 hi hL) ?_
  refine vl_callV C0 [.int (xs (nI (6 * i) + 1).toNatClampNeg), .int (xs (nI (6 * i) + 2).toNatClampNeg), .int (xs (nI (6 * i) + 3).toNatClampNeg), .int (xs (nI (6 * i) + 4).toNatClampNeg)] dL_law_1283 co_X8_likely im_X8_likely se_X8_likely mlL_143 rfl (c0 := 60) (by decide) (rfl : sh 60 = (0, 8)) (rfl : classes[8]? = some (RX8, TX8, 30)) rfl (S := [.long r]) rfl (Nat.le_of_ble_eq_true rfl) (k_X8_likely (D := 60) (by omega) (xs (nI (6 * i) + 1).toNatClampNeg) (xs (nI (6 * i) + 2).toNatClampNeg) (xs (nI (6 * i) + 3).toNatClampNeg) (xs (nI (6 * i) + 4).toNatClampNeg) H1 _ e2 ?_)
  show VL p l e s m below meth c b K 1286 [.ref 81, .ref 0, .ref 60, .int (nI (6 * i))] [.long r, .long r] H2
  refine vl_lcmp C0 dL_law_1286 ?_
  refine vl_if_eq C0 dL_law_1287 1529 (by decide) (fun _ => nx H2 hJ2) (fun z => absurd ((lg_cmp_eq r r).mpr rfl) z)
set_option maxHeartbeats 4000000 in
set_option maxRecDepth 100000 in
theorem lc_drawn {p : Program} {l : Launch} {e : Env} {s : State} {m : MethodId} {below : List Frame} {meth : Method} {c : Code} {b L : Nat} {xs : Nat → Int32} {K : GC} (C0 : LC p s m meth c b L xs K) (hL : L ≤ 3072) {J : Hp → Prop} (hp : PR_drawn J) {i : Nat} (hi : 6 * i + 6 ≤ L) {H : Hp} (hJ : J H) (nx : ∀ H2, J H2 → VL p l e s m below meth c b K 1529 [.ref 81, .ref 0, .ref 60, .int (nI (6 * i))] [] H2) : VL p l e s m below meth c b K 1292 [.ref 81, .ref 0, .ref 60, .int (nI (6 * i))] [] H := by
  obtain ⟨r, H1, H2, e1, e2, hJ2⟩ := hp H hJ (xs (nI (6 * i) + 1).toNatClampNeg) (xs (nI (6 * i) + 2).toNatClampNeg) (xs (nI (6 * i) + 3).toNatClampNeg)
  refine vl_aload_n C0 dL_law_1292 rfl rfl ?_
  refine vl_aload_n C0 dL_law_1293 rfl rfl ?_
  refine vl_iload_n C0 dL_law_1294 rfl rfl ?_
  refine vl_iconst C0 dL_law_1295 (v := 1) rfl ?_
  refine vl_iadd C0 dL_law_1296 ?_
  refine vl_sld C0 dL_law_1297 (vin1 hi hL) ?_
  refine vl_aload_n C0 dL_law_1298 rfl rfl ?_
  refine vl_iload_n C0 dL_law_1299 rfl rfl ?_
  refine vl_iconst C0 dL_law_1300 (v := 2) rfl ?_
  refine vl_iadd C0 dL_law_1301 ?_
  refine vl_sld C0 dL_law_1302 (vin2 hi hL) ?_
  refine vl_aload_n C0 dL_law_1303 rfl rfl ?_
  refine vl_iload_n C0 dL_law_1304 rfl rfl ?_
  refine vl_iconst C0 dL_law_1305 (v := 3) rfl ?_
  refine vl_iadd C0 dL_law_1306 ?_
  refine vl_sld C0 dL_law_1307 (vin3 hi hL) ?_
  refine vl_callV C0 [.int (xs (nI (6 * i) + 1).toNatClampNeg), .int (xs (nI (6 * i) + 2).toNatClampNeg), .int (xs (nI (6 * i) + 3).toNatClampNeg)] dL_law_1308 co_X7_drawn im_X7_drawn se_X7_drawn mlL_144 rfl (c0 := 0) (by decide) (rfl : sh 0 = (0, 7)) (rfl : classes[7]? = some (RX7, TX7, 11)) rfl (S := []) rfl (Nat.le_of_ble_eq_true rfl) (k_X7_drawn (D := 60) (by omega) (xs (nI (6 * i) + 1).toNatClampNeg) (xs (nI (6 * i) + 2).toNatClampNeg) (xs (nI (6 * i) + 3).toNatClampNeg) H _ e1 ?_)
  show VL p l e s m below meth c b K 1311 [.ref 81, .ref 0, .ref 60, .int (nI (6 * i))] [.int r] H1
  refine vl_aload_n C0 dL_law_1311 rfl rfl ?_
  refine vl_aload_n C0 dL_law_1312 rfl rfl ?_
  refine vl_iload_n C0 dL_law_1313 rfl rfl ?_
  refine vl_iconst C0 dL_law_1314 (v := 1) rfl ?_
  refine vl_iadd C0 dL_law_1315 ?_
  refine vl_sld C0 dL_law_1316 (vin1 hi hL) ?_
  refine vl_aload_n C0 dL_law_1317 rfl rfl ?_
  refine vl_iload_n C0 dL_law_1318 rfl rfl ?_
  refine vl_iconst C0 dL_law_1319 (v := 2) rfl ?_
  refine vl_iadd C0 dL_law_1320 ?_
  refine vl_sld C0 dL_law_1321 (vin2 hi hL) ?_
  refine vl_aload_n C0 dL_law_1322 rfl rfl ?_
  refine vl_iload_n C0 dL_law_1323 rfl rfl ?_
  refine vl_iconst C0 dL_law_1324 (v := 3) rfl ?_
  refine vl_iadd C0 dL_law_1325 ?_
  refine vl_sld C0 dL_law_1326 (vin3 hi hL) ?_
  refine vl_callV C0 [.int (xs (nI (6 * i) + 1).toNatClampNeg), .int (xs (nI (6 * i) + 2).toNatClampNeg), .int (xs (nI (6 * i) + 3).toNatClampNeg)] dL_law_1327 co_X8_drawn im_X8_drawn se_X8_drawn mlL_147 rfl (c0 := 60) (by decide) (rfl : sh 60 = (0, 8)) (rfl : classes[8]? = some (RX8, TX8, 30)) rfl (S := [.int r]) rfl (Nat.le_of_ble_eq_true rfl) (k_X8_drawn (D := 60) (by omega) (xs (nI (6 * i) + 1).toNatClampNeg) (xs (nI (6 * i) + 2).toNatClampNeg) (xs (nI (6 * i) + 3).toNatClampNeg) H1 _ e2 ?_)
  show VL p l e s m below meth c b K 1330 [.ref 81, .ref 0, .ref 60, .int (nI (6 * i))] [.int r, .int r] H2
  refine vl_icmp_eq C0 dL_law_1330 1529 (by decide) (fun _ => nx H2 hJ2) (fun z => absurd rfl z)
set_option maxHeartbeats 4000000 in
set_option maxRecDepth 100000 in
theorem lc_image {p : Program} {l : Launch} {e : Env} {s : State} {m : MethodId} {below : List Frame} {meth : Method} {c : Code} {b L : Nat} {xs : Nat → Int32} {K : GC} (C0 : LC p s m meth c b L xs K) (hL : L ≤ 3072) {J : Hp → Prop} (hp : PR_image J) {i : Nat} (hi : 6 * i + 6 ≤ L) {H : Hp} (hJ : J H) (nx : ∀ H2, J H2 → VL p l e s m below meth c b K 1529 [.ref 81, .ref 0, .ref 60, .int (nI (6 * i))] [] H2) : VL p l e s m below meth c b K 1335 [.ref 81, .ref 0, .ref 60, .int (nI (6 * i))] [] H := by
  obtain ⟨r, H1, H2, e1, e2, hJ2⟩ := hp H hJ (xs (nI (6 * i) + 1).toNatClampNeg)
  refine vl_aload_n C0 dL_law_1335 rfl rfl ?_
  refine vl_aload_n C0 dL_law_1336 rfl rfl ?_
  refine vl_iload_n C0 dL_law_1337 rfl rfl ?_
  refine vl_iconst C0 dL_law_1338 (v := 1) rfl ?_
  refine vl_iadd C0 dL_law_1339 ?_
  refine vl_sld C0 dL_law_1340 (vin1 hi hL) ?_
  refine vl_callV C0 [.int (xs (nI (6 * i) + 1).toNatClampNeg)] dL_law_1341 co_X7_image im_X7_image se_X7_image mlL_148 rfl (c0 := 0) (by decide) (rfl : sh 0 = (0, 7)) (rfl : classes[7]? = some (RX7, TX7, 11)) rfl (S := []) rfl (Nat.le_of_ble_eq_true rfl) (k_X7_image (D := 60) (by omega) (xs (nI (6 * i) + 1).toNatClampNeg) H _ e1 ?_)
  show VL p l e s m below meth c b K 1344 [.ref 81, .ref 0, .ref 60, .int (nI (6 * i))] [.int r] H1
  refine vl_aload_n C0 dL_law_1344 rfl rfl ?_
  refine vl_aload_n C0 dL_law_1345 rfl rfl ?_
  refine vl_iload_n C0 dL_law_1346 rfl rfl ?_
  refine vl_iconst C0 dL_law_1347 (v := 1) rfl ?_
  refine vl_iadd C0 dL_law_1348 ?_
  refine vl_sld C0 dL_law_1349 (vin1 hi hL) ?_
  refine vl_callV C0 [.int (xs (nI (6 * i) + 1).toNatClampNeg)] dL_law_1350 co_X8_image im_X8_image se_X8_image mlL_151 rfl (c0 := 60) (by decide) (rfl : sh 60 = (0, 8)) (rfl : classes[8]? = some (RX8, TX8, 30)) rfl (S := [.int r]) rfl (Nat.le_of_ble_eq_true rfl) (k_X8_image (D := 60) (by omega) (xs (nI (6 * i) + 1).toNatClampNeg) H1 _ e2 ?_)
  show VL p l e s m below meth c b K 1353 [.ref 81, .ref 0, .ref 60, .int (nI (6 * i))] [.int r, .int r] H2
  refine vl_icmp_eq C0 dL_law_1353 1529 (by decide) (fun _ => nx H2 hJ2) (fun z => absurd rfl z)
set_option maxHeartbeats 4000000 in
set_option maxRecDepth 100000 in
theorem lc_restore {p : Program} {l : Launch} {e : Env} {s : State} {m : MethodId} {below : List Frame} {meth : Method} {c : Code} {b L : Nat} {xs : Nat → Int32} {K : GC} (C0 : LC p s m meth c b L xs K) (hL : L ≤ 3072) {J : Hp → Prop} (hp : PR_restore J) {i : Nat} (hi : 6 * i + 6 ≤ L) {H : Hp} (hJ : J H) (nx : ∀ H2, J H2 → VL p l e s m below meth c b K 1529 [.ref 81, .ref 0, .ref 60, .int (nI (6 * i))] [] H2) : VL p l e s m below meth c b K 1358 [.ref 81, .ref 0, .ref 60, .int (nI (6 * i))] [] H := by
  obtain ⟨r, H1, H2, e1, e2, hJ2⟩ := hp H hJ (xs (nI (6 * i) + 1).toNatClampNeg)
  refine vl_aload_n C0 dL_law_1358 rfl rfl ?_
  refine vl_aload_n C0 dL_law_1359 rfl rfl ?_
  refine vl_iload_n C0 dL_law_1360 rfl rfl ?_
  refine vl_iconst C0 dL_law_1361 (v := 1) rfl ?_
  refine vl_iadd C0 dL_law_1362 ?_
  refine vl_sld C0 dL_law_1363 (vin1 hi hL) ?_
  refine vl_callV C0 [.int (xs (nI (6 * i) + 1).toNatClampNeg)] dL_law_1364 co_X7_restore im_X7_restore se_X7_restore mlL_152 rfl (c0 := 0) (by decide) (rfl : sh 0 = (0, 7)) (rfl : classes[7]? = some (RX7, TX7, 11)) rfl (S := []) rfl (Nat.le_of_ble_eq_true rfl) (k_X7_restore (D := 60) (by omega) (xs (nI (6 * i) + 1).toNatClampNeg) H _ e1 ?_)
  show VL p l e s m below meth c b K 1367 [.ref 81, .ref 0, .ref 60, .int (nI (6 * i))] [.int r] H1
  refine vl_aload_n C0 dL_law_1367 rfl rfl ?_
  refine vl_aload_n C0 dL_law_1368 rfl rfl ?_
  refine vl_iload_n C0 dL_law_1369 rfl rfl ?_
  refine vl_iconst C0 dL_law_1370 (v := 1) rfl ?_
  refine vl_iadd C0 dL_law_1371 ?_
  refine vl_sld C0 dL_law_1372 (vin1 hi hL) ?_
  refine vl_callV C0 [.int (xs (nI (6 * i) + 1).toNatClampNeg)] dL_law_1373 co_X8_restore im_X8_restore se_X8_restore mlL_155 rfl (c0 := 60) (by decide) (rfl : sh 60 = (0, 8)) (rfl : classes[8]? = some (RX8, TX8, 30)) rfl (S := [.int r]) rfl (Nat.le_of_ble_eq_true rfl) (k_X8_restore (D := 60) (by omega) (xs (nI (6 * i) + 1).toNatClampNeg) H1 _ e2 ?_)
  show VL p l e s m below meth c b K 1376 [.ref 81, .ref 0, .ref 60, .int (nI (6 * i))] [.int r, .int r] H2
  refine vl_icmp_eq C0 dL_law_1376 1529 (by decide) (fun _ => nx H2 hJ2) (fun z => absurd rfl z)
set_option maxHeartbeats 4000000 in
set_option maxRecDepth 100000 in
theorem lc_kind {p : Program} {l : Launch} {e : Env} {s : State} {m : MethodId} {below : List Frame} {meth : Method} {c : Code} {b L : Nat} {xs : Nat → Int32} {K : GC} (C0 : LC p s m meth c b L xs K) (hL : L ≤ 3072) {J : Hp → Prop} (hp : PR_kind J) {i : Nat} (hi : 6 * i + 6 ≤ L) {H : Hp} (hJ : J H) (nx : ∀ H2, J H2 → VL p l e s m below meth c b K 1529 [.ref 81, .ref 0, .ref 60, .int (nI (6 * i))] [] H2) : VL p l e s m below meth c b K 1381 [.ref 81, .ref 0, .ref 60, .int (nI (6 * i))] [] H := by
  obtain ⟨r, H2, e1, e2, hJ2⟩ := hp H hJ (xs (nI (6 * i) + 1).toNatClampNeg)
  refine vl_aload_n C0 dL_law_1381 rfl rfl ?_
  refine vl_aload_n C0 dL_law_1382 rfl rfl ?_
  refine vl_iload_n C0 dL_law_1383 rfl rfl ?_
  refine vl_iconst C0 dL_law_1384 (v := 1) rfl ?_
  refine vl_iadd C0 dL_law_1385 ?_
  refine vl_sld C0 dL_law_1386 (vin1 hi hL) ?_
  refine vl_callV C0 [.int (xs (nI (6 * i) + 1).toNatClampNeg)] dL_law_1387 co_X7_kind im_X7_kind se_X7_kind mlL_156 rfl (c0 := 0) (by decide) (rfl : sh 0 = (0, 7)) (rfl : classes[7]? = some (RX7, TX7, 11)) rfl (S := []) rfl (Nat.le_of_ble_eq_true rfl) (k_X7_kind (D := 60) (by omega) (xs (nI (6 * i) + 1).toNatClampNeg) H _ e1 ?_)
  show VL p l e s m below meth c b K 1390 [.ref 81, .ref 0, .ref 60, .int (nI (6 * i))] [.int r] H
  refine vl_aload_n C0 dL_law_1390 rfl rfl ?_
  refine vl_aload_n C0 dL_law_1391 rfl rfl ?_
  refine vl_iload_n C0 dL_law_1392 rfl rfl ?_
  refine vl_iconst C0 dL_law_1393 (v := 1) rfl ?_
  refine vl_iadd C0 dL_law_1394 ?_
  refine vl_sld C0 dL_law_1395 (vin1 hi hL) ?_
  refine vl_callV C0 [.int (xs (nI (6 * i) + 1).toNatClampNeg)] dL_law_1396 co_X8_kind im_X8_kind se_X8_kind mlL_159 rfl (c0 := 60) (by decide) (rfl : sh 60 = (0, 8)) (rfl : classes[8]? = some (RX8, TX8, 30)) rfl (S := [.int r]) rfl (Nat.le_of_ble_eq_true rfl) (k_X8_kind (D := 60) (by omega) (xs (nI (6 * i) + 1).toNatClampNeg) H _ e2 ?_)
  show VL p l e s m below meth c b K 1399 [.ref 81, .ref 0, .ref 60, .int (nI (6 * i))] [.int r, .int r] H2
  refine vl_icmp_eq C0 dL_law_1399 1529 (by decide) (fun _ => nx H2 hJ2) (fun z => absurd rfl z)
set_option maxHeartbeats 4000000 in
set_option maxRecDepth 100000 in
theorem lc_as {p : Program} {l : Launch} {e : Env} {s : State} {m : MethodId} {below : List Frame} {meth : Method} {c : Code} {b L : Nat} {xs : Nat → Int32} {K : GC} (C0 : LC p s m meth c b L xs K) (hL : L ≤ 3072) {J : Hp → Prop} (hp : PR_as J) {i : Nat} (hi : 6 * i + 6 ≤ L) {H : Hp} (hJ : J H) (nx : ∀ H2, J H2 → VL p l e s m below meth c b K 1529 [.ref 81, .ref 0, .ref 60, .int (nI (6 * i))] [] H2) : VL p l e s m below meth c b K 1404 [.ref 81, .ref 0, .ref 60, .int (nI (6 * i))] [] H := by
  obtain ⟨r, H1, H2, e1, e2, hJ2⟩ := hp H hJ (xs (nI (6 * i) + 1).toNatClampNeg) (xs (nI (6 * i) + 2).toNatClampNeg)
  refine vl_aload_n C0 dL_law_1404 rfl rfl ?_
  refine vl_aload_n C0 dL_law_1405 rfl rfl ?_
  refine vl_iload_n C0 dL_law_1406 rfl rfl ?_
  refine vl_iconst C0 dL_law_1407 (v := 1) rfl ?_
  refine vl_iadd C0 dL_law_1408 ?_
  refine vl_sld C0 dL_law_1409 (vin1 hi hL) ?_
  refine vl_aload_n C0 dL_law_1410 rfl rfl ?_
  refine vl_iload_n C0 dL_law_1411 rfl rfl ?_
  refine vl_iconst C0 dL_law_1412 (v := 2) rfl ?_
  refine vl_iadd C0 dL_law_1413 ?_
  refine vl_sld C0 dL_law_1414 (vin2 hi hL) ?_
  refine vl_callV C0 [.int (xs (nI (6 * i) + 1).toNatClampNeg), .int (xs (nI (6 * i) + 2).toNatClampNeg)] dL_law_1415 co_X7_as im_X7_as se_X7_as mlL_160 rfl (c0 := 0) (by decide) (rfl : sh 0 = (0, 7)) (rfl : classes[7]? = some (RX7, TX7, 11)) rfl (S := []) rfl (Nat.le_of_ble_eq_true rfl) (k_X7_as (D := 60) (by omega) (xs (nI (6 * i) + 1).toNatClampNeg) (xs (nI (6 * i) + 2).toNatClampNeg) H _ e1 ?_)
  show VL p l e s m below meth c b K 1418 [.ref 81, .ref 0, .ref 60, .int (nI (6 * i))] [.int r] H1
  refine vl_aload_n C0 dL_law_1418 rfl rfl ?_
  refine vl_aload_n C0 dL_law_1419 rfl rfl ?_
  refine vl_iload_n C0 dL_law_1420 rfl rfl ?_
  refine vl_iconst C0 dL_law_1421 (v := 1) rfl ?_
  refine vl_iadd C0 dL_law_1422 ?_
  refine vl_sld C0 dL_law_1423 (vin1 hi hL) ?_
  refine vl_aload_n C0 dL_law_1424 rfl rfl ?_
  refine vl_iload_n C0 dL_law_1425 rfl rfl ?_
  refine vl_iconst C0 dL_law_1426 (v := 2) rfl ?_
  refine vl_iadd C0 dL_law_1427 ?_
  refine vl_sld C0 dL_law_1428 (vin2 hi hL) ?_
  refine vl_callV C0 [.int (xs (nI (6 * i) + 1).toNatClampNeg), .int (xs (nI (6 * i) + 2).toNatClampNeg)] dL_law_1429 co_X8_as im_X8_as se_X8_as mlL_163 rfl (c0 := 60) (by decide) (rfl : sh 60 = (0, 8)) (rfl : classes[8]? = some (RX8, TX8, 30)) rfl (S := [.int r]) rfl (Nat.le_of_ble_eq_true rfl) (k_X8_as (D := 60) (by omega) (xs (nI (6 * i) + 1).toNatClampNeg) (xs (nI (6 * i) + 2).toNatClampNeg) H1 _ e2 ?_)
  show VL p l e s m below meth c b K 1432 [.ref 81, .ref 0, .ref 60, .int (nI (6 * i))] [.int r, .int r] H2
  refine vl_icmp_eq C0 dL_law_1432 1529 (by decide) (fun _ => nx H2 hJ2) (fun z => absurd rfl z)
set_option maxHeartbeats 4000000 in
set_option maxRecDepth 100000 in
theorem lc_ask {p : Program} {l : Launch} {e : Env} {s : State} {m : MethodId} {below : List Frame} {meth : Method} {c : Code} {b L : Nat} {xs : Nat → Int32} {K : GC} (C0 : LC p s m meth c b L xs K) (hL : L ≤ 3072) {J : Hp → Prop} (hp : PR_ask J) {i : Nat} (hi : 6 * i + 6 ≤ L) {H : Hp} (hJ : J H) (nx : ∀ H2, J H2 → VL p l e s m below meth c b K 1529 [.ref 81, .ref 0, .ref 60, .int (nI (6 * i))] [] H2) : VL p l e s m below meth c b K 1437 [.ref 81, .ref 0, .ref 60, .int (nI (6 * i))] [] H := by
  obtain ⟨r, H1, H2, e1, e2, hJ2⟩ := hp H hJ (xs (nI (6 * i) + 1).toNatClampNeg) (xs (nI (6 * i) + 2).toNatClampNeg)
  refine vl_aload_n C0 dL_law_1437 rfl rfl ?_
  refine vl_aload_n C0 dL_law_1438 rfl rfl ?_
  refine vl_iload_n C0 dL_law_1439 rfl rfl ?_
  refine vl_iconst C0 dL_law_1440 (v := 1) rfl ?_
  refine vl_iadd C0 dL_law_1441 ?_
  refine vl_sld C0 dL_law_1442 (vin1 hi hL) ?_
  refine vl_aload_n C0 dL_law_1443 rfl rfl ?_
  refine vl_iload_n C0 dL_law_1444 rfl rfl ?_
  refine vl_iconst C0 dL_law_1445 (v := 2) rfl ?_
  refine vl_iadd C0 dL_law_1446 ?_
  refine vl_sld C0 dL_law_1447 (vin2 hi hL) ?_
  refine vl_callV C0 [.int (xs (nI (6 * i) + 1).toNatClampNeg), .int (xs (nI (6 * i) + 2).toNatClampNeg)] dL_law_1448 co_X7_ask im_X7_ask se_X7_ask mlL_164 rfl (c0 := 0) (by decide) (rfl : sh 0 = (0, 7)) (rfl : classes[7]? = some (RX7, TX7, 11)) rfl (S := []) rfl (Nat.le_of_ble_eq_true rfl) (k_X7_ask (D := 60) (by omega) (xs (nI (6 * i) + 1).toNatClampNeg) (xs (nI (6 * i) + 2).toNatClampNeg) H _ e1 ?_)
  show VL p l e s m below meth c b K 1451 [.ref 81, .ref 0, .ref 60, .int (nI (6 * i))] [.int r] H1
  refine vl_aload_n C0 dL_law_1451 rfl rfl ?_
  refine vl_aload_n C0 dL_law_1452 rfl rfl ?_
  refine vl_iload_n C0 dL_law_1453 rfl rfl ?_
  refine vl_iconst C0 dL_law_1454 (v := 1) rfl ?_
  refine vl_iadd C0 dL_law_1455 ?_
  refine vl_sld C0 dL_law_1456 (vin1 hi hL) ?_
  refine vl_aload_n C0 dL_law_1457 rfl rfl ?_
  refine vl_iload_n C0 dL_law_1458 rfl rfl ?_
  refine vl_iconst C0 dL_law_1459 (v := 2) rfl ?_
  refine vl_iadd C0 dL_law_1460 ?_
  refine vl_sld C0 dL_law_1461 (vin2 hi hL) ?_
  refine vl_callV C0 [.int (xs (nI (6 * i) + 1).toNatClampNeg), .int (xs (nI (6 * i) + 2).toNatClampNeg)] dL_law_1462 co_X8_ask im_X8_ask se_X8_ask mlL_167 rfl (c0 := 60) (by decide) (rfl : sh 60 = (0, 8)) (rfl : classes[8]? = some (RX8, TX8, 30)) rfl (S := [.int r]) rfl (Nat.le_of_ble_eq_true rfl) (k_X8_ask (D := 60) (by omega) (xs (nI (6 * i) + 1).toNatClampNeg) (xs (nI (6 * i) + 2).toNatClampNeg) H1 _ e2 ?_)
  show VL p l e s m below meth c b K 1465 [.ref 81, .ref 0, .ref 60, .int (nI (6 * i))] [.int r, .int r] H2
  refine vl_icmp_eq C0 dL_law_1465 1529 (by decide) (fun _ => nx H2 hJ2) (fun z => absurd rfl z)
set_option maxHeartbeats 4000000 in
set_option maxRecDepth 100000 in
theorem lc_trace {p : Program} {l : Launch} {e : Env} {s : State} {m : MethodId} {below : List Frame} {meth : Method} {c : Code} {b L : Nat} {xs : Nat → Int32} {K : GC} (C0 : LC p s m meth c b L xs K) (hL : L ≤ 3072) {J : Hp → Prop} (hp : PR_trace J) {i : Nat} (hi : 6 * i + 6 ≤ L) {H : Hp} (hJ : J H) (nx : ∀ H2, J H2 → VL p l e s m below meth c b K 1529 [.ref 81, .ref 0, .ref 60, .int (nI (6 * i))] [] H2) : VL p l e s m below meth c b K 1470 [.ref 81, .ref 0, .ref 60, .int (nI (6 * i))] [] H := by
  obtain ⟨r, H2, e1, e2, hJ2⟩ := hp H hJ (xs (nI (6 * i) + 1).toNatClampNeg)
  refine vl_aload_n C0 dL_law_1470 rfl rfl ?_
  refine vl_aload_n C0 dL_law_1471 rfl rfl ?_
  refine vl_iload_n C0 dL_law_1472 rfl rfl ?_
  refine vl_iconst C0 dL_law_1473 (v := 1) rfl ?_
  refine vl_iadd C0 dL_law_1474 ?_
  refine vl_sld C0 dL_law_1475 (vin1 hi hL) ?_
  refine vl_callV C0 [.int (xs (nI (6 * i) + 1).toNatClampNeg)] dL_law_1476 co_X7_trace im_X7_trace se_X7_trace mlL_168 rfl (c0 := 0) (by decide) (rfl : sh 0 = (0, 7)) (rfl : classes[7]? = some (RX7, TX7, 11)) rfl (S := []) rfl (Nat.le_of_ble_eq_true rfl) (k_X7_trace (D := 60) (by omega) (xs (nI (6 * i) + 1).toNatClampNeg) H _ e1 ?_)
  show VL p l e s m below meth c b K 1479 [.ref 81, .ref 0, .ref 60, .int (nI (6 * i))] [.int r] H
  refine vl_aload_n C0 dL_law_1479 rfl rfl ?_
  refine vl_aload_n C0 dL_law_1480 rfl rfl ?_
  refine vl_iload_n C0 dL_law_1481 rfl rfl ?_
  refine vl_iconst C0 dL_law_1482 (v := 1) rfl ?_
  refine vl_iadd C0 dL_law_1483 ?_
  refine vl_sld C0 dL_law_1484 (vin1 hi hL) ?_
  refine vl_callV C0 [.int (xs (nI (6 * i) + 1).toNatClampNeg)] dL_law_1485 co_X8_trace im_X8_trace se_X8_trace mlL_171 rfl (c0 := 60) (by decide) (rfl : sh 60 = (0, 8)) (rfl : classes[8]? = some (RX8, TX8, 30)) rfl (S := [.int r]) rfl (Nat.le_of_ble_eq_true rfl) (k_X8_trace (D := 60) (by omega) (xs (nI (6 * i) + 1).toNatClampNeg) H _ e2 ?_)
  show VL p l e s m below meth c b K 1488 [.ref 81, .ref 0, .ref 60, .int (nI (6 * i))] [.int r, .int r] H2
  refine vl_icmp_eq C0 dL_law_1488 1529 (by decide) (fun _ => nx H2 hJ2) (fun z => absurd rfl z)
set_option maxHeartbeats 4000000 in
set_option maxRecDepth 100000 in
theorem lc_count {p : Program} {l : Launch} {e : Env} {s : State} {m : MethodId} {below : List Frame} {meth : Method} {c : Code} {b L : Nat} {xs : Nat → Int32} {K : GC} (C0 : LC p s m meth c b L xs K) (hL : L ≤ 3072) {J : Hp → Prop} (hp : PR_count J) {i : Nat} (hi : 6 * i + 6 ≤ L) {H : Hp} (hJ : J H) (nx : ∀ H2, J H2 → VL p l e s m below meth c b K 1529 [.ref 81, .ref 0, .ref 60, .int (nI (6 * i))] [] H2) : VL p l e s m below meth c b K 1493 [.ref 81, .ref 0, .ref 60, .int (nI (6 * i))] [] H := by
  obtain ⟨r, H2, e1, e2, hJ2⟩ := hp H hJ (xs (nI (6 * i) + 1).toNatClampNeg)
  refine vl_aload_n C0 dL_law_1493 rfl rfl ?_
  refine vl_aload_n C0 dL_law_1494 rfl rfl ?_
  refine vl_iload_n C0 dL_law_1495 rfl rfl ?_
  refine vl_iconst C0 dL_law_1496 (v := 1) rfl ?_
  refine vl_iadd C0 dL_law_1497 ?_
  refine vl_sld C0 dL_law_1498 (vin1 hi hL) ?_
  refine vl_callV C0 [.int (xs (nI (6 * i) + 1).toNatClampNeg)] dL_law_1499 co_X7_count im_X7_count se_X7_count mlL_172 rfl (c0 := 0) (by decide) (rfl : sh 0 = (0, 7)) (rfl : classes[7]? = some (RX7, TX7, 11)) rfl (S := []) rfl (Nat.le_of_ble_eq_true rfl) (k_X7_count (D := 60) (by omega) (xs (nI (6 * i) + 1).toNatClampNeg) H _ e1 ?_)
  show VL p l e s m below meth c b K 1502 [.ref 81, .ref 0, .ref 60, .int (nI (6 * i))] [.int r] H
  refine vl_aload_n C0 dL_law_1502 rfl rfl ?_
  refine vl_aload_n C0 dL_law_1503 rfl rfl ?_
  refine vl_iload_n C0 dL_law_1504 rfl rfl ?_
  refine vl_iconst C0 dL_law_1505 (v := 1) rfl ?_
  refine vl_iadd C0 dL_law_1506 ?_
  refine vl_sld C0 dL_law_1507 (vin1 hi hL) ?_
  refine vl_callV C0 [.int (xs (nI (6 * i) + 1).toNatClampNeg)] dL_law_1508 co_X8_count im_X8_count se_X8_count mlL_175 rfl (c0 := 60) (by decide) (rfl : sh 60 = (0, 8)) (rfl : classes[8]? = some (RX8, TX8, 30)) rfl (S := [.int r]) rfl (Nat.le_of_ble_eq_true rfl) (k_X8_count (D := 60) (by omega) (xs (nI (6 * i) + 1).toNatClampNeg) H _ e2 ?_)
  show VL p l e s m below meth c b K 1511 [.ref 81, .ref 0, .ref 60, .int (nI (6 * i))] [.int r, .int r] H2
  refine vl_icmp_eq C0 dL_law_1511 1529 (by decide) (fun _ => nx H2 hJ2) (fun z => absurd rfl z)
set_option maxHeartbeats 4000000 in
set_option maxRecDepth 100000 in
theorem lc_status {p : Program} {l : Launch} {e : Env} {s : State} {m : MethodId} {below : List Frame} {meth : Method} {c : Code} {b L : Nat} {xs : Nat → Int32} {K : GC} (C0 : LC p s m meth c b L xs K) (hL : L ≤ 3072) {J : Hp → Prop} (hp : PR_status J) {i : Nat} (hi : 6 * i + 6 ≤ L) {H : Hp} (hJ : J H) (nx : ∀ H2, J H2 → VL p l e s m below meth c b K 1529 [.ref 81, .ref 0, .ref 60, .int (nI (6 * i))] [] H2) : VL p l e s m below meth c b K 1516 [.ref 81, .ref 0, .ref 60, .int (nI (6 * i))] [] H := by
  obtain ⟨r, H2, e1, e2, hJ2⟩ := hp H hJ
  refine vl_aload_n C0 dL_law_1516 rfl rfl ?_
  refine vl_callV C0 [] dL_law_1517 co_X7_status im_X7_status se_X7_status mlL_176 rfl (c0 := 0) (by decide) (rfl : sh 0 = (0, 7)) (rfl : classes[7]? = some (RX7, TX7, 11)) rfl (S := []) rfl (Nat.le_of_ble_eq_true rfl) (k_X7_status (D := 60) (by omega) H _ e1 ?_)
  show VL p l e s m below meth c b K 1520 [.ref 81, .ref 0, .ref 60, .int (nI (6 * i))] [.int r] H
  refine vl_aload_n C0 dL_law_1520 rfl rfl ?_
  refine vl_callV C0 [] dL_law_1521 co_X8_status im_X8_status se_X8_status mlL_179 rfl (c0 := 60) (by decide) (rfl : sh 60 = (0, 8)) (rfl : classes[8]? = some (RX8, TX8, 30)) rfl (S := [.int r]) rfl (Nat.le_of_ble_eq_true rfl) (k_X8_status (D := 60) (by omega) H _ e2 ?_)
  show VL p l e s m below meth c b K 1524 [.ref 81, .ref 0, .ref 60, .int (nI (6 * i))] [.int r, .int r] H2
  refine vl_icmp_eq C0 dL_law_1524 1529 (by decide) (fun _ => nx H2 hJ2) (fun z => absurd rfl z)
def PRS (J : Hp → Prop) : Prop := PR_row J ∧ PR_set J ∧ PR_copy J ∧ PR_drop J ∧ PR_feed J ∧ PR_fund J ∧ PR_fault J ∧ PR_undo J ∧ PR_give J ∧ PR_back J ∧ PR_pot J ∧ PR_become J ∧ PR_one J ∧ PR_gift J ∧ PR_nameOf J ∧ PR_root J ∧ PR_sum J ∧ PR_overlap J ∧ PR_term J ∧ PR_project J ∧ PR_stand J ∧ PR_paidIf J ∧ PR_best J ∧ PR_least J ∧ PR_missed J ∧ PR_ring J ∧ PR_halves J ∧ PR_sets J ∧ PR_byTurns J ∧ PR_who J ∧ PR_likely J ∧ PR_drawn J ∧ PR_image J ∧ PR_restore J ∧ PR_kind J ∧ PR_as J ∧ PR_ask J ∧ PR_trace J ∧ PR_count J ∧ PR_status J
set_option maxHeartbeats 4000000 in
set_option maxRecDepth 100000 in
theorem law_loop {p : Program} {l : Launch} {e : Env} {s : State} {m : MethodId} {below : List Frame} {meth : Method} {c : Code} {b L : Nat} {xs : Nat → Int32} {K : GC} (C0 : LC p s m meth c b L xs K) (hL : L ≤ 3072) {J : Hp → Prop} (hp : PRS J) : ∀ (n i : Nat) (H : Hp), L < 6 * i + 6 * n → 6 * i ≤ L + 6 → J H → VL p l e s m below meth c b K 18 [.ref 81, .ref 0, .ref 60, .int (nI (6 * i))] [] H := by
  intro n
  induction n with
  | zero =>
    intro i H h1 h2 hJ
    exact law_out C0 hL (by omega) (by omega)
  | succ n ih =>
    intro i H h1 h2 hJ
    by_cases hi : 6 * i + 6 ≤ L
    · have nx : ∀ H2, J H2 → VL p l e s m below meth c b K 1529 [.ref 81, .ref 0, .ref 60, .int (nI (6 * i))] [] H2 := by
        intro H2 hJ2
        refine vl_iinc3 C0 dL_law_1529 (nI (6 * (i + 1))) (iinc6 i) ?_
        refine vl_goto C0 dL_law_1532 18 (by decide) ?_
        exact ih (i + 1) H2 (by omega) (by omega) hJ2
      refine law_in C0 hL hi ?_
      obtain ⟨j, hj, ej⟩ := pk_andE (xs (nI (6 * i)).toNatClampNeg) (m := 63) 6 (by decide)
      rw [ej]
      by_cases hd : j < 40
      · match j, hd with
        | 0, _ => exact vl_tabIn C0 dL_law_33 (off := 175) (by decide) (by decide) (by decide) 208 (by decide) (lc_row C0 hL hp.1 hi hJ nx)
        | 1, _ => exact vl_tabIn C0 dL_law_33 (off := 218) (by decide) (by decide) (by decide) 251 (by decide) (lc_set C0 hL hp.2.1 hi hJ nx)
        | 2, _ => exact vl_tabIn C0 dL_law_33 (off := 261) (by decide) (by decide) (by decide) 294 (by decide) (lc_copy C0 hL hp.2.2.1 hi hJ nx)
        | 3, _ => exact vl_tabIn C0 dL_law_33 (off := 324) (by decide) (by decide) (by decide) 357 (by decide) (lc_drop C0 hL hp.2.2.2.1 hi hJ nx)
        | 4, _ => exact vl_tabIn C0 dL_law_33 (off := 347) (by decide) (by decide) (by decide) 380 (by decide) (lc_feed C0 hL hp.2.2.2.2.1 hi hJ nx)
        | 5, _ => exact vl_tabIn C0 dL_law_33 (off := 370) (by decide) (by decide) (by decide) 403 (by decide) (lc_fund C0 hL hp.2.2.2.2.2.1 hi hJ nx)
        | 6, _ => exact vl_tabIn C0 dL_law_33 (off := 383) (by decide) (by decide) (by decide) 416 (by decide) (lc_fault C0 hL hp.2.2.2.2.2.2.1 hi hJ nx)
        | 7, _ => exact vl_tabIn C0 dL_law_33 (off := 396) (by decide) (by decide) (by decide) 429 (by decide) (lc_undo C0 hL hp.2.2.2.2.2.2.2.1 hi hJ nx)
        | 8, _ => exact vl_tabIn C0 dL_law_33 (off := 409) (by decide) (by decide) (by decide) 442 (by decide) (lc_give C0 hL hp.2.2.2.2.2.2.2.2.1 hi hJ nx)
        | 9, _ => exact vl_tabIn C0 dL_law_33 (off := 452) (by decide) (by decide) (by decide) 485 (by decide) (lc_back C0 hL hp.2.2.2.2.2.2.2.2.2.1 hi hJ nx)
        | 10, _ => exact vl_tabIn C0 dL_law_33 (off := 475) (by decide) (by decide) (by decide) 508 (by decide) (lc_pot C0 hL hp.2.2.2.2.2.2.2.2.2.2.1 hi hJ nx)
        | 11, _ => exact vl_tabIn C0 dL_law_33 (off := 498) (by decide) (by decide) (by decide) 531 (by decide) (lc_become C0 hL hp.2.2.2.2.2.2.2.2.2.2.2.1 hi hJ nx)
        | 12, _ => exact vl_tabIn C0 dL_law_33 (off := 531) (by decide) (by decide) (by decide) 564 (by decide) (lc_one C0 hL hp.2.2.2.2.2.2.2.2.2.2.2.2.1 hi hJ nx)
        | 13, _ => exact vl_tabIn C0 dL_law_33 (off := 564) (by decide) (by decide) (by decide) 597 (by decide) (lc_gift C0 hL hp.2.2.2.2.2.2.2.2.2.2.2.2.2.1 hi hJ nx)
        | 14, _ => exact vl_tabIn C0 dL_law_33 (off := 597) (by decide) (by decide) (by decide) 630 (by decide) (lc_nameOf C0 hL hp.2.2.2.2.2.2.2.2.2.2.2.2.2.2.1 hi hJ nx)
        | 15, _ => exact vl_tabIn C0 dL_law_33 (off := 620) (by decide) (by decide) (by decide) 653 (by decide) (lc_root C0 hL hp.2.2.2.2.2.2.2.2.2.2.2.2.2.2.2.1 hi hJ nx)
        | 16, _ => exact vl_tabIn C0 dL_law_33 (off := 643) (by decide) (by decide) (by decide) 676 (by decide) (lc_sum C0 hL hp.2.2.2.2.2.2.2.2.2.2.2.2.2.2.2.2.1 hi hJ nx)
        | 17, _ => exact vl_tabIn C0 dL_law_33 (off := 676) (by decide) (by decide) (by decide) 709 (by decide) (lc_overlap C0 hL hp.2.2.2.2.2.2.2.2.2.2.2.2.2.2.2.2.2.1 hi hJ nx)
        | 18, _ => exact vl_tabIn C0 dL_law_33 (off := 709) (by decide) (by decide) (by decide) 742 (by decide) (lc_term C0 hL hp.2.2.2.2.2.2.2.2.2.2.2.2.2.2.2.2.2.2.1 hi hJ nx)
        | 19, _ => exact vl_tabIn C0 dL_law_33 (off := 752) (by decide) (by decide) (by decide) 785 (by decide) (lc_project C0 hL hp.2.2.2.2.2.2.2.2.2.2.2.2.2.2.2.2.2.2.2.1 hi hJ nx)
        | 20, _ => exact vl_tabIn C0 dL_law_33 (off := 785) (by decide) (by decide) (by decide) 818 (by decide) (lc_stand C0 hL hp.2.2.2.2.2.2.2.2.2.2.2.2.2.2.2.2.2.2.2.2.1 hi hJ nx)
        | 21, _ => exact vl_tabIn C0 dL_law_33 (off := 808) (by decide) (by decide) (by decide) 841 (by decide) (lc_paidIf C0 hL hp.2.2.2.2.2.2.2.2.2.2.2.2.2.2.2.2.2.2.2.2.2.1 hi hJ nx)
        | 22, _ => exact vl_tabIn C0 dL_law_33 (off := 861) (by decide) (by decide) (by decide) 894 (by decide) (lc_best C0 hL hp.2.2.2.2.2.2.2.2.2.2.2.2.2.2.2.2.2.2.2.2.2.2.1 hi hJ nx)
        | 23, _ => exact vl_tabIn C0 dL_law_33 (off := 904) (by decide) (by decide) (by decide) 937 (by decide) (lc_least C0 hL hp.2.2.2.2.2.2.2.2.2.2.2.2.2.2.2.2.2.2.2.2.2.2.2.1 hi hJ nx)
        | 24, _ => exact vl_tabIn C0 dL_law_33 (off := 947) (by decide) (by decide) (by decide) 980 (by decide) (lc_missed C0 hL hp.2.2.2.2.2.2.2.2.2.2.2.2.2.2.2.2.2.2.2.2.2.2.2.2.1 hi hJ nx)
        | 25, _ => exact vl_tabIn C0 dL_law_33 (off := 980) (by decide) (by decide) (by decide) 1013 (by decide) (lc_ring C0 hL hp.2.2.2.2.2.2.2.2.2.2.2.2.2.2.2.2.2.2.2.2.2.2.2.2.2.1 hi hJ nx)
        | 26, _ => exact vl_tabIn C0 dL_law_33 (off := 1003) (by decide) (by decide) (by decide) 1036 (by decide) (lc_halves C0 hL hp.2.2.2.2.2.2.2.2.2.2.2.2.2.2.2.2.2.2.2.2.2.2.2.2.2.2.1 hi hJ nx)
        | 27, _ => exact vl_tabIn C0 dL_law_33 (off := 1066) (by decide) (by decide) (by decide) 1099 (by decide) (lc_sets C0 hL hp.2.2.2.2.2.2.2.2.2.2.2.2.2.2.2.2.2.2.2.2.2.2.2.2.2.2.2.1 hi hJ nx)
        | 28, _ => exact vl_tabIn C0 dL_law_33 (off := 1099) (by decide) (by decide) (by decide) 1132 (by decide) (lc_byTurns C0 hL hp.2.2.2.2.2.2.2.2.2.2.2.2.2.2.2.2.2.2.2.2.2.2.2.2.2.2.2.2.1 hi hJ nx)
        | 29, _ => exact vl_tabIn C0 dL_law_33 (off := 1152) (by decide) (by decide) (by decide) 1185 (by decide) (lc_who C0 hL hp.2.2.2.2.2.2.2.2.2.2.2.2.2.2.2.2.2.2.2.2.2.2.2.2.2.2.2.2.2.1 hi hJ nx)
        | 30, _ => exact vl_tabIn C0 dL_law_33 (off := 1205) (by decide) (by decide) (by decide) 1238 (by decide) (lc_likely C0 hL hp.2.2.2.2.2.2.2.2.2.2.2.2.2.2.2.2.2.2.2.2.2.2.2.2.2.2.2.2.2.2.1 hi hJ nx)
        | 31, _ => exact vl_tabIn C0 dL_law_33 (off := 1259) (by decide) (by decide) (by decide) 1292 (by decide) (lc_drawn C0 hL hp.2.2.2.2.2.2.2.2.2.2.2.2.2.2.2.2.2.2.2.2.2.2.2.2.2.2.2.2.2.2.2.1 hi hJ nx)
        | 32, _ => exact vl_tabIn C0 dL_law_33 (off := 1302) (by decide) (by decide) (by decide) 1335 (by decide) (lc_image C0 hL hp.2.2.2.2.2.2.2.2.2.2.2.2.2.2.2.2.2.2.2.2.2.2.2.2.2.2.2.2.2.2.2.2.1 hi hJ nx)
        | 33, _ => exact vl_tabIn C0 dL_law_33 (off := 1325) (by decide) (by decide) (by decide) 1358 (by decide) (lc_restore C0 hL hp.2.2.2.2.2.2.2.2.2.2.2.2.2.2.2.2.2.2.2.2.2.2.2.2.2.2.2.2.2.2.2.2.2.1 hi hJ nx)
        | 34, _ => exact vl_tabIn C0 dL_law_33 (off := 1348) (by decide) (by decide) (by decide) 1381 (by decide) (lc_kind C0 hL hp.2.2.2.2.2.2.2.2.2.2.2.2.2.2.2.2.2.2.2.2.2.2.2.2.2.2.2.2.2.2.2.2.2.2.1 hi hJ nx)
        | 35, _ => exact vl_tabIn C0 dL_law_33 (off := 1371) (by decide) (by decide) (by decide) 1404 (by decide) (lc_as C0 hL hp.2.2.2.2.2.2.2.2.2.2.2.2.2.2.2.2.2.2.2.2.2.2.2.2.2.2.2.2.2.2.2.2.2.2.2.1 hi hJ nx)
        | 36, _ => exact vl_tabIn C0 dL_law_33 (off := 1404) (by decide) (by decide) (by decide) 1437 (by decide) (lc_ask C0 hL hp.2.2.2.2.2.2.2.2.2.2.2.2.2.2.2.2.2.2.2.2.2.2.2.2.2.2.2.2.2.2.2.2.2.2.2.2.1 hi hJ nx)
        | 37, _ => exact vl_tabIn C0 dL_law_33 (off := 1437) (by decide) (by decide) (by decide) 1470 (by decide) (lc_trace C0 hL hp.2.2.2.2.2.2.2.2.2.2.2.2.2.2.2.2.2.2.2.2.2.2.2.2.2.2.2.2.2.2.2.2.2.2.2.2.2.1 hi hJ nx)
        | 38, _ => exact vl_tabIn C0 dL_law_33 (off := 1460) (by decide) (by decide) (by decide) 1493 (by decide) (lc_count C0 hL hp.2.2.2.2.2.2.2.2.2.2.2.2.2.2.2.2.2.2.2.2.2.2.2.2.2.2.2.2.2.2.2.2.2.2.2.2.2.2.1 hi hJ nx)
        | 39, _ => exact vl_tabIn C0 dL_law_33 (off := 1483) (by decide) (by decide) (by decide) 1516 (by decide) (lc_status C0 hL hp.2.2.2.2.2.2.2.2.2.2.2.2.2.2.2.2.2.2.2.2.2.2.2.2.2.2.2.2.2.2.2.2.2.2.2.2.2.2.2 hi hJ nx)
        | k + 40, hk => exact absurd hk (by omega)
      · refine vl_tabOut C0 dL_law_33 (Or.inr ?_) 1529 (by decide) (nx H hJ)
        rw [nI_toInt (by omega)]; omega
    · exact law_out C0 hL (by omega) h2
