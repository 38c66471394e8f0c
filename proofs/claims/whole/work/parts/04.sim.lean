/-! THE PURE PICTURE: cells 0 .. 77 by their numbers (0 MatchFund .. 59, 60 MatchFundModel .. 77), 78 .. 80 the static arrays; a state is a function of cell and place. -/
abbrev Hp : Type := Nat → Nat → Int32
abbrev Md : Type := MethodName × ByteArray × Nat × Option FieldType
abbrev GC : Type := va_G × (ClassId × ClassId × ClassId) × (Nat → Nat)
abbrev classes : List vw_C := [(RX0, TX0, 7), (RX1, TX1, 4), (RX2, TX2, 15), (RX3, TX3, 5), (RX4, TX4, 10), (RX5, TX5, 3), (RX6, TX6, 6), (RX7, TX7, 11), (RX8, TX8, 30)]
def gtbl : List Cond := lw_tbl.filter goodWord
def mcode (M : Md) : Cond := .code M.1 M.2.1 M.2.2.1 M.2.2.2
def rmD (d : Nat) : Room := { frames := d, cells := 0, slots := 0, locals := 64 * d }
def shL : List (Nat × Nat) := [(0, 7), (0, 5), (1, 8), (1, 8), (1, 320), (0, 6), (1, 130), (0, 4), (1, 6), (1, 10), (1, 20), (1, 20), (1, 20), (0, 4), (1, 6), (1, 10), (1, 20), (1, 20), (1, 20), (3, 2), (0, 4), (1, 6), (1, 10), (1, 20), (1, 20), (1, 20), (0, 4), (1, 6), (1, 10), (1, 20), (1, 20), (1, 20), (0, 0), (1, 24), (1, 24), (1, 24), (1, 24), (1, 24), (0, 2), (1, 60), (1, 60), (2, 10), (1, 6), (1, 6), (1, 6), (1, 6), (1, 6), (1, 6), (1, 6), (0, 3), (0, 4), (1, 6), (1, 10), (1, 20), (1, 20), (1, 20), (1, 6), (1, 6), (0, 1), (1, 16), (0, 8), (1, 8), (1, 8), (1, 320), (1, 80), (1, 80), (1, 80), (1, 1920), (1, 130), (1, 60), (1, 60), (1, 100), (1, 6), (1, 6), (1, 81), (2, 2), (1, 160), (1, 16)]
def sh (c : Nat) : Nat × Nat := shL.getD c (9, 0)
def rfL : List (List (Option Nat)) := [[some 1, some 5, some 7, some 13, some 19, some 32, some 38, some 49, some 58, none, none], [some 2, some 3, some 4], [], [], [], [some 6, none, none, none, none, none], [], [none, none, none, none, none, some 8, some 9, some 10, some 11, some 12], [], [], [], [], [], [none, none, none, none, none, some 14, some 15, some 16, some 17, some 18], [], [], [], [], [], [some 20, some 26], [none, none, none, none, none, some 21, some 22, some 23, some 24, some 25], [], [], [], [], [], [none, none, none, none, none, some 27, some 28, some 29, some 30, some 31], [], [], [], [], [], [some 33, some 34, some 35, some 36, some 37, none, none], [], [], [], [], [], [some 39, some 40, some 41, some 42, some 43, some 44, some 45, some 46, some 47, some 48, none, none, none, none, none], [], [], [], [], [], [], [], [], [], [], [some 7, some 38, some 50, some 56, some 57], [none, none, none, none, none, some 51, some 52, some 53, some 54, some 55], [], [], [], [], [], [], [], [some 38, some 59, none, none], [], [none, none, some 61, some 62, some 63, some 64, some 65, some 66, some 67, none, some 68, none, none, none, none, none, none, none, none, some 69, some 70, some 71, some 72, some 73, none, some 74, some 75, some 76, some 77, none], [], [], [], [], [], [], [], [], [], [], [], [], [], [], [], [], []]
def rf (c k : Nat) : Option Nat := (rfL.getD c []).getD k none
def clN : List Nat := [7, 4, 15, 5, 10, 3, 6, 11, 30]
def stH : Hp := fun c k => if c = 78 then ([-1, 0, 1, 1, 0, 4] : List Int32).getD k 0 else if c = 79 then ([10, 11, 12, 0, 13, 14] : List Int32).getD k 0 else ([20, 21, 24, 22, 23, 0] : List Int32).getD k 0
def mv (K : GC) (v : Value) : Value := match v with
  | .ref a => .ref (K.2.2 a)
  | x => x
theorem mv_cat (K : GC) (v : Value) : (mv K v).category = v.category := by cases v <;> rfl
theorem mv_sum (K : GC) (S : List Value) : ((S.map (mv K)).map fun v => v.category).sum = (S.map fun v => v.category).sum := by
  rw [List.map_map]
  congr 1
  exact List.map_congr_left (fun v _ => mv_cat K v)
def fv (K : GC) (H : Hp) (c k : Nat) : Value := match rf c k with
  | some r => .ref (K.2.2 r)
  | none => .int (H c k)
def cellO (K : GC) (H : Hp) (c : Nat) (q : Nat × Nat) : va_E := match q.1 with
  | 0 => .inr (q.2, (List.range (clN.getD q.2 0)).map (fv K H c))
  | 1 => .inl (K.2.1.1, q.2, .inl (H c))
  | 2 => .inl (K.2.1.2.1, q.2, .inl (H c))
  | _ => .inl (K.2.1.2.2, q.2, .inr (.inr (.inr (.inr (fun i => (rf c i).map K.2.2)))))
def wsOf (K : GC) (H : Hp) : va_W := (List.range 78).map (fun c => (K.2.2 c, cellO K H c (sh c)))
def hset (H : Hp) (c k : Nat) (v : Int32) : Hp := fun a => if a = c then upd (H c) k v else H a
def hcpy (H : Hp) (c0 sp c1 dp n : Nat) : Hp := fun a => if a = c1 then va_cpy (H c0) (H c1) sp dp n else H a
/-- an array's place, if there is one -/
def ag (H : Hp) (c n : Nat) (i : Int32) : Option Int32 := if i < 0 ∨ n ≤ i.toNatClampNeg then none else some (H c i.toNatClampNeg)
def as (H : Hp) (c n : Nat) (i x : Int32) : Option Hp := if i < 0 ∨ n ≤ i.toNatClampNeg then none else some (hset H c i.toNatClampNeg x)
def ac (H : Hp) (c0 n0 : Nat) (sp : Int32) (c1 n1 : Nat) (dp n : Int32) : Option Hp :=
  if ¬ sp < 0 ∧ ¬ dp < 0 ∧ ¬ n < 0 ∧ sp.toNatClampNeg + n.toNatClampNeg ≤ n0 ∧ dp.toNatClampNeg + n.toNatClampNeg ≤ n1 then some (hcpy H c0 sp.toNatClampNeg c1 dp.toNatClampNeg n.toNatClampNeg) else none
theorem ag_some {H : Hp} {c n : Nat} {i v : Int32} (h : ag H c n i = some v) : vp_in i n ∧ H c i.toNatClampNeg = v := by
  unfold ag at h
  split at h
  · cases h
  · exact ⟨by assumption, Option.some.inj h⟩
theorem as_some {H H2 : Hp} {c n : Nat} {i x : Int32} (h : as H c n i x = some H2) : vp_in i n ∧ hset H c i.toNatClampNeg x = H2 := by
  unfold as at h
  split at h
  · cases h
  · exact ⟨by assumption, Option.some.inj h⟩
theorem ac_some {H H2 : Hp} {c0 n0 c1 n1 : Nat} {sp dp n : Int32} (h : ac H c0 n0 sp c1 n1 dp n = some H2) : ¬ sp < 0 ∧ ¬ dp < 0 ∧ ¬ n < 0 ∧ sp.toNatClampNeg + n.toNatClampNeg ≤ n0 ∧ dp.toNatClampNeg + n.toNatClampNeg ≤ n1 ∧ hcpy H c0 sp.toNatClampNeg c1 dp.toNatClampNeg n.toNatClampNeg = H2 := by
  unfold ac at h
  split at h
  next hc => exact ⟨hc.1, hc.2.1, hc.2.2.1, hc.2.2.2.1, hc.2.2.2.2, Option.some.inj h⟩
  next => cases h
theorem rg_get {α : Type} (g : Nat → α) {n c : Nat} (h : c < n) : ((List.range n).map g)[c]? = some (g c) := by
  rw [List.getElem?_map, List.getElem?_range h]; rfl
theorem rg_set {α : Type} (g g2 : Nat → α) (n c : Nat) (h : ∀ i, i ≠ c → g2 i = g i) : ((List.range n).map g).set c (g2 c) = (List.range n).map g2 := by
  apply List.ext_getElem?
  intro i
  rw [List.getElem?_set]
  by_cases hi : i < n
  · rw [rg_get g2 hi, rg_get g hi]
    by_cases hc : c = i
    · subst hc
      simp [hi]
    · rw [if_neg hc, h i (fun q => hc q.symm)]
  · have e1 : ((List.range n).map g)[i]? = none := by simp; omega
    have e2 : ((List.range n).map g2)[i]? = none := by simp; omega
    rw [e1, e2]
    split
    · simp; omega
    · rfl
section Ws
variable {K : GC} {H : Hp} {c n : Nat}
theorem ws_at (hc : c < 78) {q : Nat × Nat} (hs : sh c = q) : (wsOf K H)[c]? = some (K.2.2 c, cellO K H c q) := by
  subst hs
  exact rg_get _ hc
theorem ws_obj (hc : c < 78) (hs : sh c = (0, n)) : (wsOf K H)[c]? = some (K.2.2 c, .inr (n, (List.range (clN.getD n 0)).map (fv K H c))) := ws_at hc hs
theorem ws_arr (hc : c < 78) (hs : sh c = (1, n)) : (wsOf K H)[c]? = some (K.2.2 c, .inl (K.2.1.1, n, .inl (H c))) := ws_at hc hs
theorem ws_zarr (hc : c < 78) (hs : sh c = (2, n)) : (wsOf K H)[c]? = some (K.2.2 c, .inl (K.2.1.2.1, n, .inl (H c))) := ws_at hc hs
theorem ws_rarr (hc : c < 78) (hs : sh c = (3, n)) : (wsOf K H)[c]? = some (K.2.2 c, .inl (K.2.1.2.2, n, .inr (.inr (.inr (.inr (fun i => (rf c i).map K.2.2)))))) := ws_at hc hs
theorem fs_int {ci N k : Nat} (hN : clN.getD ci 0 = N) (hk : k < N) (hr : rf c k = none) : ((List.range (clN.getD ci 0)).map (fv K H c))[k]? = some (.int (H c k)) := by
  rw [rg_get _ (by rw [hN]; exact hk)]
  simp [fv, hr]
theorem fs_ref {ci N k r : Nat} (hN : clN.getD ci 0 = N) (hk : k < N) (hr : rf c k = some r) : ((List.range (clN.getD ci 0)).map (fv K H c))[k]? = some (.ref (K.2.2 r)) := by
  rw [rg_get _ (by rw [hN]; exact hk)]
  simp [fv, hr]
theorem cellO_row {H2 : Hp} {i : Nat} (h : H2 i = H i) (q : Nat × Nat) : cellO K H2 i q = cellO K H i q := by
  have e : fv K H2 i = fv K H i := by funext k; unfold fv; rw [h]
  unfold cellO
  rw [e, h]
theorem ws_upd {H2 : Hp} (h : ∀ i, i ≠ c → H2 i = H i) {x : va_E} (hx : cellO K H2 c (sh c) = x) : (wsOf K H).set c (K.2.2 c, x) = wsOf K H2 := by
  subst hx
  exact rg_set (fun c => (K.2.2 c, cellO K H c (sh c))) (fun c => (K.2.2 c, cellO K H2 c (sh c))) 78 c (fun i hi => by rw [cellO_row (h i hi)])
theorem hset_ne {k i : Nat} {v : Int32} (h : i ≠ c) : hset H c k v i = H i := if_neg h
theorem hset_eq {k : Nat} {v : Int32} : hset H c k v c = upd (H c) k v := if_pos rfl
theorem ws_put {k ci : Nat} {v : Int32} (_ : c < 78) (hs : sh c = (0, ci)) (hr : rf c k = none) : (wsOf K H).set c (K.2.2 c, .inr (ci, ((List.range (clN.getD ci 0)).map (fv K H c)).set k (.int v))) = wsOf K (hset H c k v) := by
  refine ws_upd (fun i hi => hset_ne hi) ?_
  rw [hs]
  show (Sum.inr (ci, (List.range (clN.getD ci 0)).map (fv K (hset H c k v) c)) : va_E) = _
  congr 2
  have e1 : fv K (hset H c k v) c k = .int v := by simp [fv, hr, hset_eq, upd]
  rw [← e1]
  refine (rg_set (fv K H c) (fv K (hset H c k v) c) _ k (fun i hi => ?_)).symm
  unfold fv
  rw [hset_eq]
  simp [upd, hi]
theorem ws_aput {k : Nat} {v : Int32} (_ : c < 78) (hs : sh c = (1, n)) : (wsOf K H).set c (K.2.2 c, .inl (K.2.1.1, n, .inl (upd (H c) k v))) = wsOf K (hset H c k v) :=
  ws_upd (fun i hi => hset_ne hi) (by rw [hs]; show (Sum.inl (K.2.1.1, n, .inl (hset H c k v c)) : va_E) = _; rw [hset_eq])
theorem ws_zput {k : Nat} {v : Int32} (_ : c < 78) (hs : sh c = (2, n)) : (wsOf K H).set c (K.2.2 c, .inl (K.2.1.2.1, n, .inl (upd (H c) k v))) = wsOf K (hset H c k v) :=
  ws_upd (fun i hi => hset_ne hi) (by rw [hs]; show (Sum.inl (K.2.1.2.1, n, .inl (hset H c k v c)) : va_E) = _; rw [hset_eq])
theorem ws_acpy {c0 sp dp m : Nat} (_ : c < 78) (hs : sh c = (1, n)) : (wsOf K H).set c (K.2.2 c, .inl (K.2.1.1, n, .inl (va_cpy (H c0) (H c) sp dp m))) = wsOf K (hcpy H c0 sp c dp m) :=
  ws_upd (fun i hi => if_neg hi) (by rw [hs]; show (Sum.inl (K.2.1.1, n, .inl (hcpy H c0 sp c dp m c)) : va_E) = _; rw [show hcpy H c0 sp c dp m c = va_cpy (H c0) (H c) sp dp m from if_pos rfl])
theorem vD {A : Nat → Prop} {H2 : Hp} (h : va_D A (wsOf K H)) : va_D A (wsOf K H2) := by
  have key : ∀ (i : Nat) (q : Nat × va_E), (wsOf K H2)[i]? = some q → ∃ e, (wsOf K H)[i]? = some (q.1, e) := by
    intro i q hq
    by_cases hi : i < 78
    · rw [ws_at hi rfl] at hq
      obtain rfl := Option.some.inj hq
      exact ⟨_, ws_at hi rfl⟩
    · have : (wsOf K H2)[i]? = none := by unfold wsOf; simp; omega
      rw [this] at hq
      cases hq
  refine ⟨fun i j p q hp hq hpq => ?_, fun k q hk => ?_⟩
  · obtain ⟨e1, h1⟩ := key i p hp
    obtain ⟨e2, h2⟩ := key j q hq
    exact h.1 i j _ _ h1 h2 hpq
  · obtain ⟨e1, h1⟩ := key k q hk
    exact h.2 k (q.1, e1) h1
end Ws
/-! locals -/
def clr (L : List Value) (i : Nat) : List Value := match i with
  | 0 => L
  | j + 1 => match L[j]? with
    | some (.long _) => L.set j .null
    | some (.double _) => L.set j .null
    | _ => L
def stL (L : List Value) (i : Nat) (v : Value) : List Value := (clr L i).set i v
def stL2 (L : List Value) (i : Nat) (v : Value) : List Value := ((clr L i).set i v).set (i + 1) .null
def LH (K : GC) (ls : Array Slot) (n : Nat) (L : List Value) : Prop := ls.size = n ∧ lv_wf ls ∧ ∀ (i : Nat) (v : Value), L[i]? = some v → v ≠ .null → ls[i]? = some (.val (mv K v))
def lvl (K : GC) (L : List Value) : List (Nat × Value) := (List.range L.length).filterMap (fun i => match L[i]? with
  | some v => if v = .null then none else some (i, mv K v)
  | none => none)
theorem lvl_mem {K : GC} {L : List Value} {i : Nat} {v : Value} (h : L[i]? = some v) (hv : v ≠ .null) : (i, mv K v) ∈ lvl K L := by
  refine List.mem_filterMap.mpr ⟨i, List.mem_range.mpr (List.getElem?_eq_some_iff.mp h).1, ?_⟩
  simp [h, hv]
theorem lvl_of {K : GC} {L : List Value} {q : Nat × Value} (h : q ∈ lvl K L) : ∃ v, L[q.1]? = some v ∧ v ≠ .null ∧ q.2 = mv K v := by
  obtain ⟨i, -, hi⟩ := List.mem_filterMap.mp h
  split at hi
  next v hv =>
    split at hi
    · cases hi
    next hn =>
      cases hi
      exact ⟨v, hv, hn, rfl⟩
  next => cases hi
theorem clr_of {L : List Value} {i j : Nat} {w : Value} (h : (clr L i)[j]? = some w) (hw : w ≠ .null) : L[j]? = some w ∧ ¬ (j + 1 = i ∧ w.category = 2) := by
  unfold clr at h
  split at h
  · exact ⟨h, fun q => by omega⟩
  next i k =>
    have aux : ∀ y : Value, L[k]? = some y → y.category = 2 → (L.set k .null)[j]? = some w → L[j]? = some w ∧ ¬ (j + 1 = k + 1 ∧ w.category = 2) := by
      intro y hy _ h
      rw [List.getElem?_set] at h
      split at h
      next hk =>
        split at h
        · exact absurd (Option.some.inj h).symm hw
        · cases h
      next hk => exact ⟨h, fun q => hk (by omega)⟩
    split at h
    next y hy => exact aux _ hy rfl h
    next y hy => exact aux _ hy rfl h
    next h1 h2 =>
      refine ⟨h, fun q => ?_⟩
      have e : j = k := by omega
      subst e
      cases w with
      | long x => exact h1 x h
      | double x => exact h2 x h
      | _ => simp [Value.category] at q
theorem LH.has {K : GC} {ls : Array Slot} {n : Nat} {L : List Value} (h : LH K ls n L) : lv_has ls n (lvl K L) := by
  refine ⟨h.1, h.2.1, fun q hq => ?_⟩
  obtain ⟨v, h1, h2, h3⟩ := lvl_of hq
  rw [h3]
  exact h.2.2 _ _ h1 h2
theorem LH.at {K : GC} {ls : Array Slot} {n i : Nat} {L : List Value} {v : Value} (_ : LH K ls n L) (hl : L[i]? = some v) (hv : v ≠ .null) : ∃ k : Nat, (lvl K L)[k]? = some (i, mv K v) := List.getElem?_of_mem (lvl_mem hl hv)
theorem LH.st1 {K : GC} {ls ls2 : Array Slot} {n i : Nat} {L : List Value} {x : Value} (_ : LH K ls n L) (h2 : lv_has ls2 n ((i, mv K x) :: (lvl K L).filter (fun q => !(q.1 == i) && !(q.1 + 1 == i && q.2.category == 2)))) : LH K ls2 n (stL L i x) := by
  refine ⟨h2.1, h2.2.1, fun j w hj hw => ?_⟩
  unfold stL at hj
  rw [List.getElem?_set] at hj
  split at hj
  next e =>
    subst e
    split at hj
    · obtain rfl := Option.some.inj hj
      exact h2.2.2 _ List.mem_cons_self
    · cases hj
  next e =>
    obtain ⟨g1, g2⟩ := clr_of hj hw
    refine h2.2.2 (j, mv K w) (List.mem_cons_of_mem _ (List.mem_filter.mpr ⟨lvl_mem g1 hw, ?_⟩))
    simp only [mv_cat, Bool.and_eq_true, Bool.not_eq_true', beq_eq_false_iff_ne, Bool.and_eq_false_iff, beq_iff_eq]
    refine ⟨fun q => e q.symm, ?_⟩
    by_cases hq : j + 1 = i
    · exact Or.inr (fun z => g2 ⟨hq, z⟩)
    · exact Or.inl hq
theorem LH.st2 {K : GC} {ls ls2 : Array Slot} {n i : Nat} {L : List Value} {x : Value} (_ : LH K ls n L) (h2 : lv_has ls2 n ((i, mv K x) :: (lvl K L).filter (fun q => !(q.1 == i) && (!(q.1 == i + 1) && !(q.1 + 1 == i && q.2.category == 2))))) : LH K ls2 n (stL2 L i x) := by
  refine ⟨h2.1, h2.2.1, fun j w hj hw => ?_⟩
  unfold stL2 at hj
  rw [List.getElem?_set] at hj
  split at hj
  next e =>
    split at hj
    · exact absurd (Option.some.inj hj).symm hw
    · cases hj
  next e0 =>
    rw [List.getElem?_set] at hj
    split at hj
    next e =>
      subst e
      split at hj
      · obtain rfl := Option.some.inj hj
        exact h2.2.2 _ List.mem_cons_self
      · cases hj
    next e =>
      obtain ⟨g1, g2⟩ := clr_of hj hw
      refine h2.2.2 (j, mv K w) (List.mem_cons_of_mem _ (List.mem_filter.mpr ⟨lvl_mem g1 hw, ?_⟩))
      simp only [mv_cat, Bool.and_eq_true, Bool.not_eq_true', beq_eq_false_iff_ne, Bool.and_eq_false_iff, beq_iff_eq]
      refine ⟨fun q => e q.symm, fun q => e0 q.symm, ?_⟩
      by_cases hq : j + 1 = i
      · exact Or.inr (fun z => g2 ⟨hq, z⟩)
      · exact Or.inl hq
/-! the judgement -/
def AG (K : GC) (sz : Nat) : Nat → Prop := fun q => (∃ c, c < 78 ∧ q = K.2.2 c) ∨ sz ≤ q
def KS (K : GC) (A : Nat → Prop) (U : State) (Hm : Heap) : Prop :=
  va_K K.1 classes [(K.2.1.1, .int), (K.2.1.2.1, .boolean), (K.2.1.2.2, .object RX4)] U ∧
  (va_Z "MatchFund" "KIND_ABOVE" "[I" (.ref (K.2.2 78)) A U Hm ∧ va_T .int (K.2.2 78) 6 (fun j => .int (stH 78 j)) A U Hm) ∧
  (va_Z "MatchFund$Asks" "SIZE_BODIES" "[I" (.ref (K.2.2 79)) A U Hm ∧ va_T .int (K.2.2 79) 6 (fun j => .int (stH 79 j)) A U Hm) ∧
  (va_Z "MatchFund$Asks" "MARK_BODIES" "[I" (.ref (K.2.2 80)) A U Hm ∧ va_T .int (K.2.2 80) 6 (fun j => .int (stH 80 j)) A U Hm) ∧
  va_Nw (.methodLinkNest "MatchFund$Tape" 85 yX7_within "MatchFund") U ∧
  va_Nw (.fieldLinkNest "MatchFund$Asks" 55 "MatchFund" "KIND_ABOVE" "[I" "MatchFund") U
def PcG (K : GC) (av : List Value) (H : Hp) (sz : Nat) : Array Value → State → Prop := va_Pc (av.map (mv K)) (fun U => U.heap.size = sz ∧ va_P K.1 classes (wsOf K H) U.heap ∧ va_D (AG K sz) (wsOf K H) ∧ KS K (AG K sz) U U.heap)
def QcG (K : GC) (post : Option Value → Hp → Prop) (sz : Nat) : Array Value → State → Outcome → State → Prop := fun _ st oc t =>
  (∃ (r : Option Value) (H2 : Hp), oc = .returned (r.map (mv K)) ∧ post r H2 ∧ va_P K.1 classes (wsOf K H2) t.heap) ∧ va_F (AG K sz) st t
def Sem (d : Nat) (M : Md) (av : List Value) (H : Hp) (post : Option Value → Hp → Prop) : Prop :=
  ∀ (l : Launch) (K : GC) (sz : Nat), Met l M.1 (mcode M :: gtbl) (rmD d) (PcG K av H sz) (QcG K post sz) 0 0 (AG K sz)
def Cx (own : String) (M : Md) (p : Program) (s : State) (m : MethodId) (args : Array Value) (meth : Method) (c : Code) (K : GC) : Prop :=
  p.tables.exec = Jvm.exec ∧ c.code = M.2.1 ∧ c.maxLocals = M.2.2.1 ∧ meth.sig.returnType = M.2.2.2 ∧ meth.locks = false ∧ s.vm.findClass own = some m.cls ∧ (∀ w ∈ mcode M :: gtbl, w.before args s = true) ∧ va_D (AG K s.heap.size) (wsOf K (fun _ _ => 0)) ∧ KS K (AG K s.heap.size) s s.heap
def V (D : Nat) (own : String) (M : Md) (pc : Nat) (L S : List Value) (H : Hp) (post : Option Value → Hp → Prop) : Prop :=
  ∀ (p : Program) (l : Launch) (e : Env) (s : State) (m : MethodId) (args : Array Value) (below : List Frame) (meth : Method) (c : Code) (K : GC) (Hm : Heap) (locs : List Loc) (ls : Array Slot),
    Cx own M p s m args meth c K → va_P K.1 classes (wsOf K H) Hm → va_S (AG K s.heap.size) s.heap Hm locs → LH K ls M.2.2.1 L →
    W p l e (rmD D) s m args below meth c Hm locs 0 0 (MQ below (QcG K post s.heap.size) args s 0 0 (AG K s.heap.size)) (F0 m pc ls (S.map (mv K)))

section Rows
variable {D : Nat} {own : String} {M : Md} {pc : Nat} {L S : List Value} {H : Hp} {post : Option Value → Hp → Prop}
theorem st_iload {i : Nat} {x : Int32} (hd : decode M.2.1 pc = .ok (.iload i, 2)) (hl : L[i]? = some (.int x)) (k : V D own M (pc + 2) L (.int x :: S) H post) : V D own M pc L (S) H post := by
  intro p l e s m args below meth c K Hm locs ls hC hP hS hL
  obtain ⟨hx, hb, hml, hr, hlk, hown, hts, hD, hK⟩ := id hC
  exact lv_iload hx hb hd (hL.2.2 i _ hl (by simp)) (k p l e s m args below meth c K Hm locs ls hC hP hS hL)
theorem st_iload_n {i : Fin 4} {j : Nat} {x : Int32} (hd : decode M.2.1 pc = .ok (.iload_n i, 1)) (hi : (i : Nat) = j) (hl : L[j]? = some (.int x)) (k : V D own M (pc + 1) L (.int x :: S) H post) : V D own M pc L (S) H post := by
  intro p l e s m args below meth c K Hm locs ls hC hP hS hL
  obtain ⟨hx, hb, hml, hr, hlk, hown, hts, hD, hK⟩ := id hC
  exact lv_iload_n hx hb hd hi (hL.2.2 j _ hl (by simp)) (k p l e s m args below meth c K Hm locs ls hC hP hS hL)
theorem st_lload {i : Nat} {x : Int64} (hd : decode M.2.1 pc = .ok (.lload i, 2)) (hl : L[i]? = some (.long x)) (k : V D own M (pc + 2) L (.long x :: S) H post) : V D own M pc L (S) H post := by
  intro p l e s m args below meth c K Hm locs ls hC hP hS hL
  obtain ⟨hx, hb, hml, hr, hlk, hown, hts, hD, hK⟩ := id hC
  exact lv_lload hx hb hd (hL.2.2 i _ hl (by simp)) (k p l e s m args below meth c K Hm locs ls hC hP hS hL)
theorem st_lload_n {i : Fin 4} {j : Nat} {x : Int64} (hd : decode M.2.1 pc = .ok (.lload_n i, 1)) (hi : (i : Nat) = j) (hl : L[j]? = some (.long x)) (k : V D own M (pc + 1) L (.long x :: S) H post) : V D own M pc L (S) H post := by
  intro p l e s m args below meth c K Hm locs ls hC hP hS hL
  obtain ⟨hx, hb, hml, hr, hlk, hown, hts, hD, hK⟩ := id hC
  exact lv_lload_n hx hb hd hi (hL.2.2 j _ hl (by simp)) (k p l e s m args below meth c K Hm locs ls hC hP hS hL)
theorem st_aload {i : Nat} {x : Nat} (hd : decode M.2.1 pc = .ok (.aload i, 2)) (hl : L[i]? = some (.ref x)) (k : V D own M (pc + 2) L (.ref x :: S) H post) : V D own M pc L (S) H post := by
  intro p l e s m args below meth c K Hm locs ls hC hP hS hL
  obtain ⟨hx, hb, hml, hr, hlk, hown, hts, hD, hK⟩ := id hC
  exact lv_aload hx hb hd (hL.2.2 i _ hl (by simp)) (k p l e s m args below meth c K Hm locs ls hC hP hS hL)
theorem st_aload_n {i : Fin 4} {j : Nat} {x : Nat} (hd : decode M.2.1 pc = .ok (.aload_n i, 1)) (hi : (i : Nat) = j) (hl : L[j]? = some (.ref x)) (k : V D own M (pc + 1) L (.ref x :: S) H post) : V D own M pc L (S) H post := by
  intro p l e s m args below meth c K Hm locs ls hC hP hS hL
  obtain ⟨hx, hb, hml, hr, hlk, hown, hts, hD, hK⟩ := id hC
  exact lv_aload_n hx hb hd hi (hL.2.2 j _ hl (by simp)) (k p l e s m args below meth c K Hm locs ls hC hP hS hL)
theorem st_istore {i : Nat} {x : Int32} (hd : decode M.2.1 pc = .ok (.istore i, 2)) (hn : i < M.2.2.1) (L2 : List Value) (hL2 : stL L i (.int x) = L2) (k : V D own M (pc + 2) L2 S H post) : V D own M pc L (.int x :: S) H post := by
  intro p l e s m args below meth c K Hm locs ls hC hP hS hL
  obtain ⟨hx, hb, hml, hr, hlk, hown, hts, hD, hK⟩ := id hC
  exact lv_istore hx hb hd hL.has hn rfl (fun ls2 h2 => (k p l e s m args below meth c K Hm locs ls2 hC hP hS (hL2 ▸ hL.st1 (x := .int x) h2)))
theorem st_istore_n {i : Fin 4} {j : Nat} {x : Int32} (hd : decode M.2.1 pc = .ok (.istore_n i, 1)) (hi : (i : Nat) = j) (hn : j < M.2.2.1) (L2 : List Value) (hL2 : stL L j (.int x) = L2) (k : V D own M (pc + 1) L2 S H post) : V D own M pc L (.int x :: S) H post := by
  intro p l e s m args below meth c K Hm locs ls hC hP hS hL
  obtain ⟨hx, hb, hml, hr, hlk, hown, hts, hD, hK⟩ := id hC
  exact lv_istore_n hx hb hd hi hL.has hn rfl (fun ls2 h2 => (k p l e s m args below meth c K Hm locs ls2 hC hP hS (hL2 ▸ hL.st1 (x := .int x) h2)))
theorem st_lstore {i : Nat} {x : Int64} (hd : decode M.2.1 pc = .ok (.lstore i, 2)) (hn : i + 1 < M.2.2.1) (L2 : List Value) (hL2 : stL2 L i (.long x) = L2) (k : V D own M (pc + 2) L2 S H post) : V D own M pc L (.long x :: S) H post := by
  intro p l e s m args below meth c K Hm locs ls hC hP hS hL
  obtain ⟨hx, hb, hml, hr, hlk, hown, hts, hD, hK⟩ := id hC
  exact lv_lstore hx hb hd hL.has hn rfl (fun ls2 h2 => (k p l e s m args below meth c K Hm locs ls2 hC hP hS (hL2 ▸ hL.st2 (x := .long x) h2)))
theorem st_lstore_n {i : Fin 4} {j : Nat} {x : Int64} (hd : decode M.2.1 pc = .ok (.lstore_n i, 1)) (hi : (i : Nat) = j) (hn : j + 1 < M.2.2.1) (L2 : List Value) (hL2 : stL2 L j (.long x) = L2) (k : V D own M (pc + 1) L2 S H post) : V D own M pc L (.long x :: S) H post := by
  intro p l e s m args below meth c K Hm locs ls hC hP hS hL
  obtain ⟨hx, hb, hml, hr, hlk, hown, hts, hD, hK⟩ := id hC
  exact lv_lstore_n hx hb hd hi hL.has hn rfl (fun ls2 h2 => (k p l e s m args below meth c K Hm locs ls2 hC hP hS (hL2 ▸ hL.st2 (x := .long x) h2)))
theorem st_astore {i : Nat} {x : Nat} (hd : decode M.2.1 pc = .ok (.astore i, 2)) (hn : i < M.2.2.1) (L2 : List Value) (hL2 : stL L i (.ref x) = L2) (k : V D own M (pc + 2) L2 S H post) : V D own M pc L (.ref x :: S) H post := by
  intro p l e s m args below meth c K Hm locs ls hC hP hS hL
  obtain ⟨hx, hb, hml, hr, hlk, hown, hts, hD, hK⟩ := id hC
  exact lv_astore hx hb hd hL.has hn rfl (fun ls2 h2 => (k p l e s m args below meth c K Hm locs ls2 hC hP hS (hL2 ▸ hL.st1 (x := .ref x) h2)))
theorem st_astore_n {i : Fin 4} {j : Nat} {x : Nat} (hd : decode M.2.1 pc = .ok (.astore_n i, 1)) (hi : (i : Nat) = j) (hn : j < M.2.2.1) (L2 : List Value) (hL2 : stL L j (.ref x) = L2) (k : V D own M (pc + 1) L2 S H post) : V D own M pc L (.ref x :: S) H post := by
  intro p l e s m args below meth c K Hm locs ls hC hP hS hL
  obtain ⟨hx, hb, hml, hr, hlk, hown, hts, hD, hK⟩ := id hC
  exact lv_astore_n hx hb hd hi hL.has hn rfl (fun ls2 h2 => (k p l e s m args below meth c K Hm locs ls2 hC hP hS (hL2 ▸ hL.st1 (x := .ref x) h2)))
theorem st_iinc {i : Nat} {x v : Int32} {n : Int} (hd : decode M.2.1 pc = .ok (.iinc i n, 3)) (hl : L[i]? = some (.int x)) (hv : x + Int32.ofInt n = v) (hn : i < M.2.2.1) (L2 : List Value) (hL2 : stL L i (.int v) = L2) (k : V D own M (pc + 3) L2 S H post) : V D own M pc L (S) H post := by
  intro p l e s m args below meth c K Hm locs ls hC hP hS hL
  obtain ⟨hx, hb, hml, hr, hlk, hown, hts, hD, hK⟩ := id hC
  obtain ⟨k0, hk0⟩ := hL.at hl (by simp)
  exact lv_iinc hx hb hd hL.has hk0 hv hn rfl (fun ls2 h2 => (k p l e s m args below meth c K Hm locs ls2 hC hP hS (hL2 ▸ hL.st1 (x := .int v) h2)))
theorem st_iconst {n : Int} {v : Int32} (hd : decode M.2.1 pc = .ok (.iconst n, 1)) (hv : Int32.ofInt n = v) (k : V D own M (pc + 1) L (.int v :: S) H post) : V D own M pc L (S) H post := by
  intro p l e s m args below meth c K Hm locs ls hC hP hS hL
  obtain ⟨hx, hb, hml, hr, hlk, hown, hts, hD, hK⟩ := id hC
  exact lv_iconst hx hb hd hv (k p l e s m args below meth c K Hm locs ls hC hP hS hL)
theorem st_bipush {n : Int} {v : Int32} (hd : decode M.2.1 pc = .ok (.bipush n, 2)) (hv : (Int8.ofInt n).toInt32 = v) (k : V D own M (pc + 2) L (.int v :: S) H post) : V D own M pc L (S) H post := by
  intro p l e s m args below meth c K Hm locs ls hC hP hS hL
  obtain ⟨hx, hb, hml, hr, hlk, hown, hts, hD, hK⟩ := id hC
  exact lv_bipush hx hb hd hv (k p l e s m args below meth c K Hm locs ls hC hP hS hL)
theorem st_sipush {n : Int} {v : Int32} (hd : decode M.2.1 pc = .ok (.sipush n, 3)) (hv : (Int16.ofInt n).toInt32 = v) (k : V D own M (pc + 3) L (.int v :: S) H post) : V D own M pc L (S) H post := by
  intro p l e s m args below meth c K Hm locs ls hC hP hS hL
  obtain ⟨hx, hb, hml, hr, hlk, hown, hts, hD, hK⟩ := id hC
  exact lv_sipush hx hb hd hv (k p l e s m args below meth c K Hm locs ls hC hP hS hL)
theorem st_lconst {n : Fin 2} {v : Int64} (hd : decode M.2.1 pc = .ok (.lconst n, 1)) (hv : Int64.ofNat (n : Nat) = v) (k : V D own M (pc + 1) L (.long v :: S) H post) : V D own M pc L (S) H post := by
  intro p l e s m args below meth c K Hm locs ls hC hP hS hL
  obtain ⟨hx, hb, hml, hr, hlk, hown, hts, hD, hK⟩ := id hC
  exact lv_lconst hx hb hd hv (k p l e s m args below meth c K Hm locs ls hC hP hS hL)
theorem st_ldc {n : Nat} {v : Int32} (hd : decode M.2.1 pc = .ok (.ldc n, 2)) (hw : Cond.constant own n v ∈ gtbl) (k : V D own M (pc + 2) L (.int v :: S) H post) : V D own M pc L (S) H post := by
  intro p l e s m args below meth c K Hm locs ls hC hP hS hL
  obtain ⟨hx, hb, hml, hr, hlk, hown, hts, hD, hK⟩ := id hC
  exact lv_ldc hx hb hown (hts _ (List.mem_cons_of_mem _ hw)) hd (k p l e s m args below meth c K Hm locs ls hC hP hS hL)
theorem st_ldcw {n : Nat} {v : Int32} (hd : decode M.2.1 pc = .ok (.ldc_w n, 3)) (hw : Cond.constant own n v ∈ gtbl) (k : V D own M (pc + 3) L (.int v :: S) H post) : V D own M pc L (S) H post := by
  intro p l e s m args below meth c K Hm locs ls hC hP hS hL
  obtain ⟨hx, hb, hml, hr, hlk, hown, hts, hD, hK⟩ := id hC
  exact lv_ldcw hx hb hown (hts _ (List.mem_cons_of_mem _ hw)) hd (k p l e s m args below meth c K Hm locs ls hC hP hS hL)
theorem st_ldc2 {n : Nat} {v : Int64} (hd : decode M.2.1 pc = .ok (.ldc2_w n, 3)) (hw : Cond.constantLong own n v ∈ gtbl) (k : V D own M (pc + 3) L (.long v :: S) H post) : V D own M pc L (S) H post := by
  intro p l e s m args below meth c K Hm locs ls hC hP hS hL
  obtain ⟨hx, hb, hml, hr, hlk, hown, hts, hD, hK⟩ := id hC
  exact lv_ldc2 hx hb hown (hts _ (List.mem_cons_of_mem _ hw)) hd (k p l e s m args below meth c K Hm locs ls hC hP hS hL)
theorem st_iadd {x y : Int32} (hd : decode M.2.1 pc = .ok (.iadd, 1))  (k : V D own M (pc + 1) L (.int (x + y) :: S) H post) : V D own M pc L (.int y :: .int x :: S) H post := by
  intro p l e s m args below meth c K Hm locs ls hC hP hS hL
  obtain ⟨hx, hb, hml, hr, hlk, hown, hts, hD, hK⟩ := id hC
  exact lv_iadd hx hb hd (k p l e s m args below meth c K Hm locs ls hC hP hS hL)
theorem st_isub {x y : Int32} (hd : decode M.2.1 pc = .ok (.isub, 1))  (k : V D own M (pc + 1) L (.int (x - y) :: S) H post) : V D own M pc L (.int y :: .int x :: S) H post := by
  intro p l e s m args below meth c K Hm locs ls hC hP hS hL
  obtain ⟨hx, hb, hml, hr, hlk, hown, hts, hD, hK⟩ := id hC
  exact lv_isub hx hb hd (k p l e s m args below meth c K Hm locs ls hC hP hS hL)
theorem st_imul {x y : Int32} (hd : decode M.2.1 pc = .ok (.imul, 1))  (k : V D own M (pc + 1) L (.int (x * y) :: S) H post) : V D own M pc L (.int y :: .int x :: S) H post := by
  intro p l e s m args below meth c K Hm locs ls hC hP hS hL
  obtain ⟨hx, hb, hml, hr, hlk, hown, hts, hD, hK⟩ := id hC
  exact lv_imul hx hb hd (k p l e s m args below meth c K Hm locs ls hC hP hS hL)
theorem st_iand {x y : Int32} (hd : decode M.2.1 pc = .ok (.iand, 1))  (k : V D own M (pc + 1) L (.int (x &&& y) :: S) H post) : V D own M pc L (.int y :: .int x :: S) H post := by
  intro p l e s m args below meth c K Hm locs ls hC hP hS hL
  obtain ⟨hx, hb, hml, hr, hlk, hown, hts, hD, hK⟩ := id hC
  exact lv_iand hx hb hd (k p l e s m args below meth c K Hm locs ls hC hP hS hL)
theorem st_ior {x y : Int32} (hd : decode M.2.1 pc = .ok (.ior, 1))  (k : V D own M (pc + 1) L (.int (x ||| y) :: S) H post) : V D own M pc L (.int y :: .int x :: S) H post := by
  intro p l e s m args below meth c K Hm locs ls hC hP hS hL
  obtain ⟨hx, hb, hml, hr, hlk, hown, hts, hD, hK⟩ := id hC
  exact lv_ior hx hb hd (k p l e s m args below meth c K Hm locs ls hC hP hS hL)
theorem st_ixor {x y : Int32} (hd : decode M.2.1 pc = .ok (.ixor, 1))  (k : V D own M (pc + 1) L (.int (x ^^^ y) :: S) H post) : V D own M pc L (.int y :: .int x :: S) H post := by
  intro p l e s m args below meth c K Hm locs ls hC hP hS hL
  obtain ⟨hx, hb, hml, hr, hlk, hown, hts, hD, hK⟩ := id hC
  exact lv_ixor hx hb hd (k p l e s m args below meth c K Hm locs ls hC hP hS hL)
theorem st_ishl {x y : Int32} (hd : decode M.2.1 pc = .ok (.ishl, 1))  (k : V D own M (pc + 1) L (.int (x <<< (y &&& 31)) :: S) H post) : V D own M pc L (.int y :: .int x :: S) H post := by
  intro p l e s m args below meth c K Hm locs ls hC hP hS hL
  obtain ⟨hx, hb, hml, hr, hlk, hown, hts, hD, hK⟩ := id hC
  exact lv_ishl hx hb hd (k p l e s m args below meth c K Hm locs ls hC hP hS hL)
theorem st_ishr {x y : Int32} (hd : decode M.2.1 pc = .ok (.ishr, 1))  (k : V D own M (pc + 1) L (.int (x >>> (y &&& 31)) :: S) H post) : V D own M pc L (.int y :: .int x :: S) H post := by
  intro p l e s m args below meth c K Hm locs ls hC hP hS hL
  obtain ⟨hx, hb, hml, hr, hlk, hown, hts, hD, hK⟩ := id hC
  exact lv_ishr hx hb hd (k p l e s m args below meth c K Hm locs ls hC hP hS hL)
theorem st_idiv {x y : Int32} (hd : decode M.2.1 pc = .ok (.idiv, 1)) (hne : ¬ y = 0) (k : V D own M (pc + 1) L (.int (x / y) :: S) H post) : V D own M pc L (.int y :: .int x :: S) H post := by
  intro p l e s m args below meth c K Hm locs ls hC hP hS hL
  obtain ⟨hx, hb, hml, hr, hlk, hown, hts, hD, hK⟩ := id hC
  exact lv_idiv hx hb hd hne (k p l e s m args below meth c K Hm locs ls hC hP hS hL)
theorem st_irem {x y : Int32} (hd : decode M.2.1 pc = .ok (.irem, 1)) (hne : ¬ y = 0) (k : V D own M (pc + 1) L (.int (x - x / y * y) :: S) H post) : V D own M pc L (.int y :: .int x :: S) H post := by
  intro p l e s m args below meth c K Hm locs ls hC hP hS hL
  obtain ⟨hx, hb, hml, hr, hlk, hown, hts, hD, hK⟩ := id hC
  exact lv_irem hx hb hd hne (k p l e s m args below meth c K Hm locs ls hC hP hS hL)
theorem st_ineg {x : Int32} (hd : decode M.2.1 pc = .ok (.ineg, 1))  (k : V D own M (pc + 1) L (.int (-x) :: S) H post) : V D own M pc L (.int x :: S) H post := by
  intro p l e s m args below meth c K Hm locs ls hC hP hS hL
  obtain ⟨hx, hb, hml, hr, hlk, hown, hts, hD, hK⟩ := id hC
  exact lv_ineg hx hb hd (k p l e s m args below meth c K Hm locs ls hC hP hS hL)
theorem st_ladd {x y : Int64} (hd : decode M.2.1 pc = .ok (.ladd, 1))  (k : V D own M (pc + 1) L (.long (x + y) :: S) H post) : V D own M pc L (.long y :: .long x :: S) H post := by
  intro p l e s m args below meth c K Hm locs ls hC hP hS hL
  obtain ⟨hx, hb, hml, hr, hlk, hown, hts, hD, hK⟩ := id hC
  exact lv_ladd hx hb hd (k p l e s m args below meth c K Hm locs ls hC hP hS hL)
theorem st_lsub {x y : Int64} (hd : decode M.2.1 pc = .ok (.lsub, 1))  (k : V D own M (pc + 1) L (.long (x - y) :: S) H post) : V D own M pc L (.long y :: .long x :: S) H post := by
  intro p l e s m args below meth c K Hm locs ls hC hP hS hL
  obtain ⟨hx, hb, hml, hr, hlk, hown, hts, hD, hK⟩ := id hC
  exact lv_lsub hx hb hd (k p l e s m args below meth c K Hm locs ls hC hP hS hL)
theorem st_lmul {x y : Int64} (hd : decode M.2.1 pc = .ok (.lmul, 1))  (k : V D own M (pc + 1) L (.long (x * y) :: S) H post) : V D own M pc L (.long y :: .long x :: S) H post := by
  intro p l e s m args below meth c K Hm locs ls hC hP hS hL
  obtain ⟨hx, hb, hml, hr, hlk, hown, hts, hD, hK⟩ := id hC
  exact lv_lmul hx hb hd (k p l e s m args below meth c K Hm locs ls hC hP hS hL)
theorem st_ldiv {x y : Int64} (hd : decode M.2.1 pc = .ok (.ldiv, 1)) (hne : ¬ y = 0) (k : V D own M (pc + 1) L (.long (x / y) :: S) H post) : V D own M pc L (.long y :: .long x :: S) H post := by
  intro p l e s m args below meth c K Hm locs ls hC hP hS hL
  obtain ⟨hx, hb, hml, hr, hlk, hown, hts, hD, hK⟩ := id hC
  exact lv_ldiv hx hb hd hne (k p l e s m args below meth c K Hm locs ls hC hP hS hL)
theorem st_lrem {x y : Int64} (hd : decode M.2.1 pc = .ok (.lrem, 1)) (hne : ¬ y = 0) (k : V D own M (pc + 1) L (.long (x - x / y * y) :: S) H post) : V D own M pc L (.long y :: .long x :: S) H post := by
  intro p l e s m args below meth c K Hm locs ls hC hP hS hL
  obtain ⟨hx, hb, hml, hr, hlk, hown, hts, hD, hK⟩ := id hC
  exact lv_lrem hx hb hd hne (k p l e s m args below meth c K Hm locs ls hC hP hS hL)
theorem st_lcmp {x y : Int64} (hd : decode M.2.1 pc = .ok (.lcmp, 1))  (k : V D own M (pc + 1) L (.int (lg_cmp x y) :: S) H post) : V D own M pc L (.long y :: .long x :: S) H post := by
  intro p l e s m args below meth c K Hm locs ls hC hP hS hL
  obtain ⟨hx, hb, hml, hr, hlk, hown, hts, hD, hK⟩ := id hC
  exact W.lcmp hx hb hd (k p l e s m args below meth c K Hm locs ls hC hP hS hL)
theorem st_i2l {x : Int32} (hd : decode M.2.1 pc = .ok (.i2l, 1))  (k : V D own M (pc + 1) L (.long x.toInt64 :: S) H post) : V D own M pc L (.int x :: S) H post := by
  intro p l e s m args below meth c K Hm locs ls hC hP hS hL
  obtain ⟨hx, hb, hml, hr, hlk, hown, hts, hD, hK⟩ := id hC
  exact lv_i2l hx hb hd rfl (k p l e s m args below meth c K Hm locs ls hC hP hS hL)
theorem st_l2i {x : Int64} (hd : decode M.2.1 pc = .ok (.l2i, 1))  (k : V D own M (pc + 1) L (.int x.toInt32 :: S) H post) : V D own M pc L (.long x :: S) H post := by
  intro p l e s m args below meth c K Hm locs ls hC hP hS hL
  obtain ⟨hx, hb, hml, hr, hlk, hown, hts, hD, hK⟩ := id hC
  exact lv_l2i hx hb hd rfl (k p l e s m args below meth c K Hm locs ls hC hP hS hL)
theorem st_i2b {x : Int32} (hd : decode M.2.1 pc = .ok (.i2b, 1))  (k : V D own M (pc + 1) L (.int x.toInt8.toInt32 :: S) H post) : V D own M pc L (.int x :: S) H post := by
  intro p l e s m args below meth c K Hm locs ls hC hP hS hL
  obtain ⟨hx, hb, hml, hr, hlk, hown, hts, hD, hK⟩ := id hC
  exact lv_i2b hx hb hd rfl (k p l e s m args below meth c K Hm locs ls hC hP hS hL)
theorem st_i2s {x : Int32} (hd : decode M.2.1 pc = .ok (.i2s, 1))  (k : V D own M (pc + 1) L (.int x.toInt16.toInt32 :: S) H post) : V D own M pc L (.int x :: S) H post := by
  intro p l e s m args below meth c K Hm locs ls hC hP hS hL
  obtain ⟨hx, hb, hml, hr, hlk, hown, hts, hD, hK⟩ := id hC
  exact lv_i2s hx hb hd rfl (k p l e s m args below meth c K Hm locs ls hC hP hS hL)
theorem st_dup {x : Value} (hd : decode M.2.1 pc = .ok (.dup, 1)) (hv : x.category = 1) (k : V D own M (pc + 1) L (x :: x :: S) H post) : V D own M pc L (x :: S) H post := by
  intro p l e s m args below meth c K Hm locs ls hC hP hS hL
  obtain ⟨hx, hb, hml, hr, hlk, hown, hts, hD, hK⟩ := id hC
  exact lv_dup hx hb hd (by rw [mv_cat]; exact hv) (k p l e s m args below meth c K Hm locs ls hC hP hS hL)
theorem st_dup2 {x y : Value} (hd : decode M.2.1 pc = .ok (.dup2, 1)) (hv : x.category = 1) (hw : y.category = 1) (k : V D own M (pc + 1) L (x :: y :: x :: y :: S) H post) : V D own M pc L (x :: y :: S) H post := by
  intro p l e s m args below meth c K Hm locs ls hC hP hS hL
  obtain ⟨hx, hb, hml, hr, hlk, hown, hts, hD, hK⟩ := id hC
  exact lv_dup2_11 hx hb hd (by rw [mv_cat]; exact hv) (by rw [mv_cat]; exact hw) (k p l e s m args below meth c K Hm locs ls hC hP hS hL)
theorem st_if_eq {x : Int32} {off : Int} (hd : decode M.2.1 pc = .ok (.ifCond .eq off, 3)) (tgt : Nat) (ht : (pc : Int) + off = (tgt : Int)) (kt : x = 0 → V D own M tgt L S H post) (kf : ¬ x = 0 → V D own M (pc + 3) L S H post) : V D own M pc L (.int x :: S) H post := by
  intro p l e s m args below meth c K Hm locs ls hC hP hS hL
  obtain ⟨hx, hb, hml, hr, hlk, hown, hts, hD, hK⟩ := id hC
  exact lv_if_eq hx hb hd ht (fun h => kt h p l e s m args below meth c K Hm locs ls hC hP hS hL) (fun h => kf h p l e s m args below meth c K Hm locs ls hC hP hS hL)
theorem st_if_ne {x : Int32} {off : Int} (hd : decode M.2.1 pc = .ok (.ifCond .ne off, 3)) (tgt : Nat) (ht : (pc : Int) + off = (tgt : Int)) (kt : ¬ x = 0 → V D own M tgt L S H post) (kf : x = 0 → V D own M (pc + 3) L S H post) : V D own M pc L (.int x :: S) H post := by
  intro p l e s m args below meth c K Hm locs ls hC hP hS hL
  obtain ⟨hx, hb, hml, hr, hlk, hown, hts, hD, hK⟩ := id hC
  exact lv_if_ne hx hb hd ht (fun h => kt h p l e s m args below meth c K Hm locs ls hC hP hS hL) (fun h => kf h p l e s m args below meth c K Hm locs ls hC hP hS hL)
theorem st_if_lt {x : Int32} {off : Int} (hd : decode M.2.1 pc = .ok (.ifCond .lt off, 3)) (tgt : Nat) (ht : (pc : Int) + off = (tgt : Int)) (kt : x < 0 → V D own M tgt L S H post) (kf : ¬ x < 0 → V D own M (pc + 3) L S H post) : V D own M pc L (.int x :: S) H post := by
  intro p l e s m args below meth c K Hm locs ls hC hP hS hL
  obtain ⟨hx, hb, hml, hr, hlk, hown, hts, hD, hK⟩ := id hC
  exact lv_if_lt hx hb hd ht (fun h => kt h p l e s m args below meth c K Hm locs ls hC hP hS hL) (fun h => kf h p l e s m args below meth c K Hm locs ls hC hP hS hL)
theorem st_if_ge {x : Int32} {off : Int} (hd : decode M.2.1 pc = .ok (.ifCond .ge off, 3)) (tgt : Nat) (ht : (pc : Int) + off = (tgt : Int)) (kt : 0 ≤ x → V D own M tgt L S H post) (kf : ¬ 0 ≤ x → V D own M (pc + 3) L S H post) : V D own M pc L (.int x :: S) H post := by
  intro p l e s m args below meth c K Hm locs ls hC hP hS hL
  obtain ⟨hx, hb, hml, hr, hlk, hown, hts, hD, hK⟩ := id hC
  exact lv_if_ge hx hb hd ht (fun h => kt h p l e s m args below meth c K Hm locs ls hC hP hS hL) (fun h => kf h p l e s m args below meth c K Hm locs ls hC hP hS hL)
theorem st_if_gt {x : Int32} {off : Int} (hd : decode M.2.1 pc = .ok (.ifCond .gt off, 3)) (tgt : Nat) (ht : (pc : Int) + off = (tgt : Int)) (kt : 0 < x → V D own M tgt L S H post) (kf : ¬ 0 < x → V D own M (pc + 3) L S H post) : V D own M pc L (.int x :: S) H post := by
  intro p l e s m args below meth c K Hm locs ls hC hP hS hL
  obtain ⟨hx, hb, hml, hr, hlk, hown, hts, hD, hK⟩ := id hC
  exact lv_if_gt hx hb hd ht (fun h => kt h p l e s m args below meth c K Hm locs ls hC hP hS hL) (fun h => kf h p l e s m args below meth c K Hm locs ls hC hP hS hL)
theorem st_if_le {x : Int32} {off : Int} (hd : decode M.2.1 pc = .ok (.ifCond .le off, 3)) (tgt : Nat) (ht : (pc : Int) + off = (tgt : Int)) (kt : x ≤ 0 → V D own M tgt L S H post) (kf : ¬ x ≤ 0 → V D own M (pc + 3) L S H post) : V D own M pc L (.int x :: S) H post := by
  intro p l e s m args below meth c K Hm locs ls hC hP hS hL
  obtain ⟨hx, hb, hml, hr, hlk, hown, hts, hD, hK⟩ := id hC
  exact lv_if_le hx hb hd ht (fun h => kt h p l e s m args below meth c K Hm locs ls hC hP hS hL) (fun h => kf h p l e s m args below meth c K Hm locs ls hC hP hS hL)
theorem st_ic_eq {x y : Int32} {off : Int} (hd : decode M.2.1 pc = .ok (.if_icmp .eq off, 3)) (tgt : Nat) (ht : (pc : Int) + off = (tgt : Int)) (kt : x = y → V D own M tgt L S H post) (kf : ¬ x = y → V D own M (pc + 3) L S H post) : V D own M pc L (.int y :: .int x :: S) H post := by
  intro p l e s m args below meth c K Hm locs ls hC hP hS hL
  obtain ⟨hx, hb, hml, hr, hlk, hown, hts, hD, hK⟩ := id hC
  exact lv_icmp_eq hx hb hd ht (fun h => kt h p l e s m args below meth c K Hm locs ls hC hP hS hL) (fun h => kf h p l e s m args below meth c K Hm locs ls hC hP hS hL)
theorem st_ic_ne {x y : Int32} {off : Int} (hd : decode M.2.1 pc = .ok (.if_icmp .ne off, 3)) (tgt : Nat) (ht : (pc : Int) + off = (tgt : Int)) (kt : ¬ x = y → V D own M tgt L S H post) (kf : x = y → V D own M (pc + 3) L S H post) : V D own M pc L (.int y :: .int x :: S) H post := by
  intro p l e s m args below meth c K Hm locs ls hC hP hS hL
  obtain ⟨hx, hb, hml, hr, hlk, hown, hts, hD, hK⟩ := id hC
  exact lv_icmp_ne hx hb hd ht (fun h => kt h p l e s m args below meth c K Hm locs ls hC hP hS hL) (fun h => kf h p l e s m args below meth c K Hm locs ls hC hP hS hL)
theorem st_ic_lt {x y : Int32} {off : Int} (hd : decode M.2.1 pc = .ok (.if_icmp .lt off, 3)) (tgt : Nat) (ht : (pc : Int) + off = (tgt : Int)) (kt : x < y → V D own M tgt L S H post) (kf : ¬ x < y → V D own M (pc + 3) L S H post) : V D own M pc L (.int y :: .int x :: S) H post := by
  intro p l e s m args below meth c K Hm locs ls hC hP hS hL
  obtain ⟨hx, hb, hml, hr, hlk, hown, hts, hD, hK⟩ := id hC
  exact lv_icmp_lt hx hb hd ht (fun h => kt h p l e s m args below meth c K Hm locs ls hC hP hS hL) (fun h => kf h p l e s m args below meth c K Hm locs ls hC hP hS hL)
theorem st_ic_ge {x y : Int32} {off : Int} (hd : decode M.2.1 pc = .ok (.if_icmp .ge off, 3)) (tgt : Nat) (ht : (pc : Int) + off = (tgt : Int)) (kt : y ≤ x → V D own M tgt L S H post) (kf : ¬ y ≤ x → V D own M (pc + 3) L S H post) : V D own M pc L (.int y :: .int x :: S) H post := by
  intro p l e s m args below meth c K Hm locs ls hC hP hS hL
  obtain ⟨hx, hb, hml, hr, hlk, hown, hts, hD, hK⟩ := id hC
  exact lv_icmp_ge hx hb hd ht (fun h => kt h p l e s m args below meth c K Hm locs ls hC hP hS hL) (fun h => kf h p l e s m args below meth c K Hm locs ls hC hP hS hL)
theorem st_ic_gt {x y : Int32} {off : Int} (hd : decode M.2.1 pc = .ok (.if_icmp .gt off, 3)) (tgt : Nat) (ht : (pc : Int) + off = (tgt : Int)) (kt : y < x → V D own M tgt L S H post) (kf : ¬ y < x → V D own M (pc + 3) L S H post) : V D own M pc L (.int y :: .int x :: S) H post := by
  intro p l e s m args below meth c K Hm locs ls hC hP hS hL
  obtain ⟨hx, hb, hml, hr, hlk, hown, hts, hD, hK⟩ := id hC
  exact lv_icmp_gt hx hb hd ht (fun h => kt h p l e s m args below meth c K Hm locs ls hC hP hS hL) (fun h => kf h p l e s m args below meth c K Hm locs ls hC hP hS hL)
theorem st_ic_le {x y : Int32} {off : Int} (hd : decode M.2.1 pc = .ok (.if_icmp .le off, 3)) (tgt : Nat) (ht : (pc : Int) + off = (tgt : Int)) (kt : x ≤ y → V D own M tgt L S H post) (kf : ¬ x ≤ y → V D own M (pc + 3) L S H post) : V D own M pc L (.int y :: .int x :: S) H post := by
  intro p l e s m args below meth c K Hm locs ls hC hP hS hL
  obtain ⟨hx, hb, hml, hr, hlk, hown, hts, hD, hK⟩ := id hC
  exact lv_icmp_le hx hb hd ht (fun h => kt h p l e s m args below meth c K Hm locs ls hC hP hS hL) (fun h => kf h p l e s m args below meth c K Hm locs ls hC hP hS hL)
theorem st_goto {off : Int} (hd : decode M.2.1 pc = .ok (.goto off, 3)) (tgt : Nat) (ht : (pc : Int) + off = (tgt : Int)) (k : V D own M tgt L S H post) : V D own M pc L (S) H post := by
  intro p l e s m args below meth c K Hm locs ls hC hP hS hL
  obtain ⟨hx, hb, hml, hr, hlk, hown, hts, hD, hK⟩ := id hC
  exact lv_goto hx hb hd ht (k p l e s m args below meth c K Hm locs ls hC hP hS hL)
theorem st_tabIn {x : Int32} {dflt lo hi off : Int} {offs : Array Int} {len : Nat} (hd : decode M.2.1 pc = .ok (.tableswitch dflt lo hi offs, len)) (h1 : ¬ x.toInt < lo) (h2 : ¬ hi < x.toInt) (ho : offs[(x.toInt - lo).toNat]? = some off) (tgt : Nat) (ht : (pc : Int) + off = (tgt : Int)) (k : V D own M tgt L S H post) : V D own M pc L (.int x :: S) H post := by
  intro p l e s m args below meth c K Hm locs ls hC hP hS hL
  obtain ⟨hx, hb, hml, hr, hlk, hown, hts, hD, hK⟩ := id hC
  exact lv_tableIn hx hb hd h1 h2 ho ht (k p l e s m args below meth c K Hm locs ls hC hP hS hL)
theorem st_tabOut {x : Int32} {dflt lo hi : Int} {offs : Array Int} {len : Nat} (hd : decode M.2.1 pc = .ok (.tableswitch dflt lo hi offs, len)) (h : x.toInt < lo ∨ hi < x.toInt) (tgt : Nat) (ht : (pc : Int) + dflt = (tgt : Int)) (k : V D own M tgt L S H post) : V D own M pc L (.int x :: S) H post := by
  intro p l e s m args below meth c K Hm locs ls hC hP hS hL
  obtain ⟨hx, hb, hml, hr, hlk, hown, hts, hD, hK⟩ := id hC
  exact lv_tableOut hx hb hd h ht (k p l e s m args below meth c K Hm locs ls hC hP hS hL)
theorem st_lookup {x : Int32} {dflt off : Int} {ps : Array (Int × Int)} {len : Nat} (hd : decode M.2.1 pc = .ok (.lookupswitch dflt ps, len)) (hp : (ps.toList.zip (ps.toList.drop 1)).all (fun (a, next) => a.1 < next.1) = true) (ho : Op.lookupswitch.offset ps.toList dflt x.toInt = off) (tgt : Nat) (ht : (pc : Int) + off = (tgt : Int)) (k : V D own M tgt L S H post) : V D own M pc L (.int x :: S) H post := by
  intro p l e s m args below meth c K Hm locs ls hC hP hS hL
  obtain ⟨hx, hb, hml, hr, hlk, hown, hts, hD, hK⟩ := id hC
  exact lv_lookup hx hb hd hp ho ht (k p l e s m args below meth c K Hm locs ls hC hP hS hL)
theorem st_getI {c0 ci n N : Nat} {C : String} {T : u_T} (hd : decode M.2.1 pc = .ok (.getfield n, 3)) (hc : c0 < 78) (hs : sh c0 = (0, ci)) (hq : classes[ci]? = some (C, T, N)) (hN : clN.getD ci 0 = N) (hin : ∀ w ∈ u_ws C T N, w ∈ gtbl) (k0 : Nat) (hk : k0 < N) (hw : Cond.fieldLink own n C (T k0).2.1 (T k0).2.2.1 ∈ gtbl) (hT : (T k0).1 = C) (hrf : rf c0 k0 = none) (k : V D own M (pc + 3) L (.int (H c0 k0) :: S) H post) : V D own M pc L (.ref c0 :: S) H post := by
  intro p l e s m args below meth c K Hm locs ls hC hP hS hL
  obtain ⟨hx, hb, hml, hr, hlk, hown, hts, hD, hK⟩ := id hC
  refine va_get (v := .int (H c0 k0)) hx hb hts (fun w h => List.mem_cons_of_mem _ (hin w h)) hown hK.1 hP c0 (ws_obj hc hs) hq k0 hk (hts _ (List.mem_cons_of_mem _ hw)) (fun x h => by rw [hT] at h; exact h) (fs_int hN hk hrf) hd (k p l e s m args below meth c K Hm locs ls hC hP hS hL)
theorem st_getR {c0 ci n N : Nat} {C : String} {T : u_T} (hd : decode M.2.1 pc = .ok (.getfield n, 3)) (hc : c0 < 78) (hs : sh c0 = (0, ci)) (hq : classes[ci]? = some (C, T, N)) (hN : clN.getD ci 0 = N) (hin : ∀ w ∈ u_ws C T N, w ∈ gtbl) (k0 : Nat) (hk : k0 < N) (hw : Cond.fieldLink own n C (T k0).2.1 (T k0).2.2.1 ∈ gtbl) (hT : (T k0).1 = C) (r : Nat) (hrf : rf c0 k0 = some r) (k : V D own M (pc + 3) L (.ref r :: S) H post) : V D own M pc L (.ref c0 :: S) H post := by
  intro p l e s m args below meth c K Hm locs ls hC hP hS hL
  obtain ⟨hx, hb, hml, hr, hlk, hown, hts, hD, hK⟩ := id hC
  refine va_get (v := .ref (K.2.2 r)) hx hb hts (fun w h => List.mem_cons_of_mem _ (hin w h)) hown hK.1 hP c0 (ws_obj hc hs) hq k0 hk (hts _ (List.mem_cons_of_mem _ hw)) (fun x h => by rw [hT] at h; exact h) (fs_ref hN hk hrf) hd (k p l e s m args below meth c K Hm locs ls hC hP hS hL)
theorem st_put {c0 ci n N : Nat} {C : String} {T : u_T} {x : Int32} (hd : decode M.2.1 pc = .ok (.putfield n, 3)) (hc : c0 < 78) (hs : sh c0 = (0, ci)) (hq : classes[ci]? = some (C, T, N)) (hN : clN.getD ci 0 = N) (hin : ∀ w ∈ u_ws C T N, w ∈ gtbl) (ty0 : Nat → FieldType) (hty : ∀ k, k < N → parseFieldDescriptor (T k).2.2.1 = some (ty0 k)) (hnm : ∀ a, a < N → ∀ b, b < N → a ≠ b → (T a).2.1 ≠ (T b).2.1) (k0 : Nat) (hk : k0 < N) (hw : Cond.fieldLink own n C (T k0).2.1 (T k0).2.2.1 ∈ gtbl) (hT : (T k0).1 = C) (hfin : (T k0).2.2.2 = false) (hrf : rf c0 k0 = none) (hn : narrow (ty0 k0) (.int x) = .int x) (hfit : fits (ty0 k0) (.int x) = true) (k : V D own M (pc + 3) L S (hset H c0 k0 x) post) : V D own M pc L (.int x :: .ref c0 :: S) H post := by
  intro p l e s m args below meth c K Hm locs ls hC hP hS hL
  obtain ⟨hx, hb, hml, hr, hlk, hown, hts, hD, hK⟩ := id hC
  refine va_put (ty := ty0 k0) (v := .int x) hx hb hts (fun w h => List.mem_cons_of_mem _ (hin w h)) ty0 hty hnm hown hK.1 hP (vD hD) hS c0 (ws_obj hc hs) hq k0 hk (hts _ (List.mem_cons_of_mem _ hw)) (fun x h => by rw [hT] at h; exact h) hfin (hty k0 hk) hn hfit (by rw [List.length_map, List.length_range, hN]; exact hk) hd (fun H1 locs1 hP1 _ hS1 => ?_)
  rw [ws_put hc hs hrf] at hP1
  exact k p l e s m args below meth c K H1 locs1 ls hC hP1 hS1 hL
theorem st_iald {c0 n : Nat} {i : Int32} (hd : decode M.2.1 pc = .ok (.iaload, 1)) (hc : c0 < 78) (hs : sh c0 = (1, n)) (v : Int32) (hv : ag H c0 n i = some v) (k : V D own M (pc + 1) L (.int v :: S) H post) : V D own M pc L (.int i :: .ref c0 :: S) H post := by
  intro p l e s m args below meth c K Hm locs ls hC hP hS hL
  obtain ⟨hx, hb, hml, hr, hlk, hown, hts, hD, hK⟩ := id hC
  obtain ⟨hin, rfl⟩ := ag_some hv
  exact va_iald hx hb hK.1 hP c0 0 (ws_arr hc hs) rfl hin hd (k p l e s m args below meth c K Hm locs ls hC hP hS hL)
theorem st_zald {c0 n : Nat} {i : Int32} (hd : decode M.2.1 pc = .ok (.baload, 1)) (hc : c0 < 78) (hs : sh c0 = (2, n)) (v : Int32) (hv : ag H c0 n i = some v) (k : V D own M (pc + 1) L (.int v :: S) H post) : V D own M pc L (.int i :: .ref c0 :: S) H post := by
  intro p l e s m args below meth c K Hm locs ls hC hP hS hL
  obtain ⟨hx, hb, hml, hr, hlk, hown, hts, hD, hK⟩ := id hC
  obtain ⟨hin, rfl⟩ := ag_some hv
  exact va_zald hx hb hK.1 hP c0 1 (ws_zarr hc hs) rfl hin hd (k p l e s m args below meth c K Hm locs ls hC hP hS hL)
theorem st_aald {c0 n : Nat} {i : Int32} (hd : decode M.2.1 pc = .ok (.aaload, 1)) (hc : c0 < 78) (hs : sh c0 = (3, n)) (hi : vp_in i n) (r : Nat) (hr0 : rf c0 i.toNatClampNeg = some r) (k : V D own M (pc + 1) L (.ref r :: S) H post) : V D own M pc L (.int i :: .ref c0 :: S) H post := by
  intro p l e s m args below meth c K Hm locs ls hC hP hS hL
  obtain ⟨hx, hb, hml, hr, hlk, hown, hts, hD, hK⟩ := id hC
  refine va_aldq hx hb hK.1 hP c0 2 (ws_rarr hc hs) rfl hi hd ?_
  rw [hr0]
  exact (k p l e s m args below meth c K Hm locs ls hC hP hS hL)
theorem st_iast {c0 n : Nat} {i x : Int32} (hd : decode M.2.1 pc = .ok (.iastore, 1)) (hc : c0 < 78) (hs : sh c0 = (1, n)) (H2 : Hp) (hv : as H c0 n i x = some H2) (k : V D own M (pc + 1) L S H2 post) : V D own M pc L (.int x :: .int i :: .ref c0 :: S) H post := by
  intro p l e s m args below meth c K Hm locs ls hC hP hS hL
  obtain ⟨hx, hb, hml, hr, hlk, hown, hts, hD, hK⟩ := id hC
  obtain ⟨hin, rfl⟩ := as_some hv
  refine va_iast hx hb hK.1 hP (vD hD) hS c0 0 (ws_arr hc hs) rfl hin hd (fun H1 locs1 hP1 _ hS1 => ?_)
  rw [ws_aput hc hs] at hP1
  exact k p l e s m args below meth c K H1 locs1 ls hC hP1 hS1 hL
theorem st_zast {c0 n : Nat} {i x : Int32} (hd : decode M.2.1 pc = .ok (.bastore, 1)) (hc : c0 < 78) (hs : sh c0 = (2, n)) (hn : vp_nar .boolean x = x) (H2 : Hp) (hv : as H c0 n i x = some H2) (k : V D own M (pc + 1) L S H2 post) : V D own M pc L (.int x :: .int i :: .ref c0 :: S) H post := by
  intro p l e s m args below meth c K Hm locs ls hC hP hS hL
  obtain ⟨hx, hb, hml, hr, hlk, hown, hts, hD, hK⟩ := id hC
  obtain ⟨hin, rfl⟩ := as_some hv
  refine va_zast hx hb hK.1 hP (vD hD) hS c0 1 (ws_zarr hc hs) rfl hin hd (fun H1 locs1 hP1 _ hS1 => ?_)
  rw [hn, ws_zput hc hs] at hP1
  exact k p l e s m args below meth c K H1 locs1 ls hC hP1 hS1 hL
theorem st_copy {c0 c1 n0 n1 idx : Nat} {n sp dp : Int32} (hd : decode M.2.1 pc = .ok (.invokestatic idx, 3)) (hD1 : 1 ≤ D) (h0 : c0 < 78) (hs0 : sh c0 = (1, n0)) (h1 : c1 < 78) (hs1 : sh c1 = (1, n1)) (hw : Cond.methodLink own idx arraycopyName ∈ gtbl) (hnat : Cond.native arraycopyName ∈ gtbl) (hstat : Cond.static arraycopyName ∈ gtbl) (hini : Cond.initialized "java/lang/System" ∈ gtbl) (hsum : (S.map fun v => v.category).sum ≤ 8) (H2 : Hp) (hv : ac H c0 n0 sp c1 n1 dp n = some H2) (k : V D own M (pc + 3) L S H2 post) : V D own M pc L (.int n :: .int dp :: .ref c1 :: .int sp :: .ref c0 :: S) H post := by
  intro p l e s m args below meth c K Hm locs ls hC hP hS hL
  obtain ⟨hx, hb, hml, hr, hlk, hown, hts, hD, hK⟩ := id hC
  obtain ⟨q1, q2, q3, q4, q5, rfl⟩ := ac_some hv
  refine va_copyi hx hb (hml.trans hL.1.symm) hown (hts _ (List.mem_cons_of_mem _ hw)) (hts _ (List.mem_cons_of_mem _ hnat)) (hts _ (List.mem_cons_of_mem _ hstat)) (hts _ (List.mem_cons_of_mem _ hini)) hK.1 hP (vD hD) hS c0 c1 0 0 (ws_arr h0 hs0) (ws_arr h1 hs1) rfl rfl rfl q1 q2 q3 q4 q5 (fun _ _ => rfl) hD1 ?_ hd (fun H1 locs1 hP1 _ hS1 => ?_)
  · rw [mv_sum]
    show _ + (nativeFrameWords "java/lang/System" "arraycopy" 5 + 11) ≤ 64 * D
    have : nativeFrameWords "java/lang/System" "arraycopy" 5 = 7 := by decide
    omega
  · rw [ws_acpy h1 hs1] at hP1
    exact k p l e s m args below meth c K H1 locs1 ls hC hP1 hS1 hL
theorem st_getsKA {n : Nat} (hd : decode M.2.1 pc = .ok (.getstatic n, 3)) (hw : Cond.fieldLink own n "MatchFund" "KIND_ABOVE" "[I" ∈ gtbl) (k : V D own M (pc + 3) L (.ref 78 :: S) H post) : V D own M pc L (S) H post := by
  intro p l e s m args below meth c K Hm locs ls hC hP hS hL
  obtain ⟨hx, hb, hml, hr, hlk, hown, hts, hD, hK⟩ := id hC
  exact va_gets hx hb hK.2.1.1 hS hown (hts _ (List.mem_cons_of_mem _ hw)) (fun _ h => h) hd (k p l e s m args below meth c K Hm locs ls hC hP hS hL)
theorem st_sald78 (hd : decode M.2.1 pc = .ok (.iaload, 1)) {i : Int32} (v : Int32) (hv : ag stH 78 6 i = some v) (k : V D own M (pc + 1) L (.int v :: S) H post) : V D own M pc L (.int i :: .ref 78 :: S) H post := by
  intro p l e s m args below meth c K Hm locs ls hC hP hS hL
  obtain ⟨hx, hb, hml, hr, hlk, hown, hts, hD, hK⟩ := id hC
  obtain ⟨hin, rfl⟩ := ag_some hv
  exact va_ti hx hb hK.2.1.2 hS hin rfl hd (k p l e s m args below meth c K Hm locs ls hC hP hS hL)
theorem st_getsSB {n : Nat} (hd : decode M.2.1 pc = .ok (.getstatic n, 3)) (hw : Cond.fieldLink own n "MatchFund$Asks" "SIZE_BODIES" "[I" ∈ gtbl) (k : V D own M (pc + 3) L (.ref 79 :: S) H post) : V D own M pc L (S) H post := by
  intro p l e s m args below meth c K Hm locs ls hC hP hS hL
  obtain ⟨hx, hb, hml, hr, hlk, hown, hts, hD, hK⟩ := id hC
  exact va_gets hx hb hK.2.2.1.1 hS hown (hts _ (List.mem_cons_of_mem _ hw)) (fun _ h => h) hd (k p l e s m args below meth c K Hm locs ls hC hP hS hL)
theorem st_sald79 (hd : decode M.2.1 pc = .ok (.iaload, 1)) {i : Int32} (v : Int32) (hv : ag stH 79 6 i = some v) (k : V D own M (pc + 1) L (.int v :: S) H post) : V D own M pc L (.int i :: .ref 79 :: S) H post := by
  intro p l e s m args below meth c K Hm locs ls hC hP hS hL
  obtain ⟨hx, hb, hml, hr, hlk, hown, hts, hD, hK⟩ := id hC
  obtain ⟨hin, rfl⟩ := ag_some hv
  exact va_ti hx hb hK.2.2.1.2 hS hin rfl hd (k p l e s m args below meth c K Hm locs ls hC hP hS hL)
theorem st_getsMB {n : Nat} (hd : decode M.2.1 pc = .ok (.getstatic n, 3)) (hw : Cond.fieldLink own n "MatchFund$Asks" "MARK_BODIES" "[I" ∈ gtbl) (k : V D own M (pc + 3) L (.ref 80 :: S) H post) : V D own M pc L (S) H post := by
  intro p l e s m args below meth c K Hm locs ls hC hP hS hL
  obtain ⟨hx, hb, hml, hr, hlk, hown, hts, hD, hK⟩ := id hC
  exact va_gets hx hb hK.2.2.2.1.1 hS hown (hts _ (List.mem_cons_of_mem _ hw)) (fun _ h => h) hd (k p l e s m args below meth c K Hm locs ls hC hP hS hL)
theorem st_sald80 (hd : decode M.2.1 pc = .ok (.iaload, 1)) {i : Int32} (v : Int32) (hv : ag stH 80 6 i = some v) (k : V D own M (pc + 1) L (.int v :: S) H post) : V D own M pc L (.int i :: .ref 80 :: S) H post := by
  intro p l e s m args below meth c K Hm locs ls hC hP hS hL
  obtain ⟨hx, hb, hml, hr, hlk, hown, hts, hD, hK⟩ := id hC
  obtain ⟨hin, rfl⟩ := ag_some hv
  exact va_ti hx hb hK.2.2.2.1.2 hS hin rfl hd (k p l e s m args below meth c K Hm locs ls hC hP hS hL)
theorem st_getsN {n : Nat} (hd : decode M.2.1 pc = .ok (.getstatic n, 3)) (ho : own = "MatchFund$Asks") (hn : n = 55) (k : V D own M (pc + 3) L (.ref 78 :: S) H post) : V D own M pc L (S) H post := by
  intro p l e s m args below meth c K Hm locs ls hC hP hS hL
  obtain ⟨hx, hb, hml, hr, hlk, hown, hts, hD, hK⟩ := id hC
  subst ho; subst hn
  exact va_getsN hx hb hK.2.1.1 hS hown (va_Nw.use rfl hK.2.2.2.2.2) (fun _ h => h) hd (k p l e s m args below meth c K Hm locs ls hC hP hS hL)
theorem st_mmax {idx : Nat} {x y : Int32} (hd : decode M.2.1 pc = .ok (.invokestatic idx, 3)) (hD1 : 1 ≤ D) (hw : Cond.methodLink own idx Lib.Math.max.name ∈ gtbl) (hstat : Cond.static Lib.Math.max.name ∈ gtbl) (hini : Cond.initialized "java/lang/Math" ∈ gtbl) (hcode : Cond.code Lib.Math.max.name Lib.Math.max.code 2 (some .int) ∈ gtbl) (hsum : (S.map fun v => v.category).sum ≤ 8) (k : V D own M (pc + 3) L (.int (if x < y then y else x) :: S) H post) : V D own M pc L (.int y :: .int x :: S) H post := by
  intro p l e s m args below meth c K Hm locs ls hC hP hS hL
  obtain ⟨hx, hb, hml, hr, hlk, hown, hts, hD, hK⟩ := id hC
  exact va_mmax hx hb (hml.trans hL.1.symm) hown (hts _ (List.mem_cons_of_mem _ hw)) (hts _ (List.mem_cons_of_mem _ hstat)) (hts _ (List.mem_cons_of_mem _ hini)) (hts _ (List.mem_cons_of_mem _ hcode)) hD1 (by rw [mv_sum]; show _ + 13 ≤ 64 * D; omega) (Nat.zero_le _) (Nat.zero_le _) hd (k p l e s m args below meth c K Hm locs ls hC hP hS hL)
theorem st_mmin {idx : Nat} {x y : Int32} (hd : decode M.2.1 pc = .ok (.invokestatic idx, 3)) (hD1 : 1 ≤ D) (hw : Cond.methodLink own idx Lib.Math.min.name ∈ gtbl) (hstat : Cond.static Lib.Math.min.name ∈ gtbl) (hini : Cond.initialized "java/lang/Math" ∈ gtbl) (hcode : Cond.code Lib.Math.min.name Lib.Math.min.code 2 (some .int) ∈ gtbl) (hsum : (S.map fun v => v.category).sum ≤ 8) (k : V D own M (pc + 3) L (.int (if y < x then y else x) :: S) H post) : V D own M pc L (.int y :: .int x :: S) H post := by
  intro p l e s m args below meth c K Hm locs ls hC hP hS hL
  obtain ⟨hx, hb, hml, hr, hlk, hown, hts, hD, hK⟩ := id hC
  exact va_mmin hx hb (hml.trans hL.1.symm) hown (hts _ (List.mem_cons_of_mem _ hw)) (hts _ (List.mem_cons_of_mem _ hstat)) (hts _ (List.mem_cons_of_mem _ hini)) (hts _ (List.mem_cons_of_mem _ hcode)) hD1 (by rw [mv_sum]; show _ + 13 ≤ 64 * D; omega) (Nat.zero_le _) (Nat.zero_le _) hd (k p l e s m args below meth c K Hm locs ls hC hP hS hL)
theorem st_iret {x : Int32} (hd : decode M.2.1 pc = .ok (.ireturn, 1)) (hr0 : M.2.2.2 = some .int) (hp : post (some (.int x)) H)  : V D own M pc L ([.int x]) H post := by
  intro p l e s m args below meth c K Hm locs ls hC hP hS hL
  obtain ⟨hx, hb, hml, hr, hlk, hown, hts, hD, hK⟩ := id hC
  exact W.iret hx hb (hr.trans hr0) (fun t ht hW => ⟨⟨some (.int x), H, rfl, hp, by rw [ht]; exact hP⟩, hS.F ht⟩) hS.2.2 hd hlk
theorem st_zret {x : Int32} (hd : decode M.2.1 pc = .ok (.ireturn, 1)) (hr0 : M.2.2.2 = some .boolean) (hn : vp_nar .boolean x = x) (hp : post (some (.int x)) H)  : V D own M pc L ([.int x]) H post := by
  intro p l e s m args below meth c K Hm locs ls hC hP hS hL
  obtain ⟨hx, hb, hml, hr, hlk, hown, hts, hD, hK⟩ := id hC
  exact W.zret hx hb (hr.trans hr0) (congrArg Value.int hn) (fun t ht hW => ⟨⟨some (.int x), H, rfl, hp, by rw [ht]; exact hP⟩, hS.F ht⟩) hS.2.2 hd hlk
theorem st_lret {x : Int64} (hd : decode M.2.1 pc = .ok (.lreturn, 1)) (hr0 : M.2.2.2 = some .long) (hp : post (some (.long x)) H)  : V D own M pc L ([.long x]) H post := by
  intro p l e s m args below meth c K Hm locs ls hC hP hS hL
  obtain ⟨hx, hb, hml, hr, hlk, hown, hts, hD, hK⟩ := id hC
  exact W.lret hx hb (hr.trans hr0) (fun t ht hW => ⟨⟨some (.long x), H, rfl, hp, by rw [ht]; exact hP⟩, hS.F ht⟩) hS.2.2 hd hlk
theorem st_vret (hd : decode M.2.1 pc = .ok (.return_, 1)) (hr0 : M.2.2.2 = none) (hp : post none H)  : V D own M pc L ([]) H post := by
  intro p l e s m args below meth c K Hm locs ls hC hP hS hL
  obtain ⟨hx, hb, hml, hr, hlk, hown, hts, hD, hK⟩ := id hC
  exact W.vret hx hb (hr.trans hr0) (fun t ht hW => ⟨⟨none, H, rfl, hp, by rw [ht]; exact hP⟩, hS.F ht⟩) hS.2.2 hd hlk
end Rows
/-! forgetting locals; joining -/
def subL : List Value → List Value → Prop
  | [], _ => True
  | v :: l, [] => v = .null ∧ subL l []
  | v :: l, w :: m => (v = .null ∨ v = w) ∧ subL l m
theorem subL_at : ∀ {L2 L : List Value}, subL L2 L → ∀ {i : Nat} {v : Value}, L2[i]? = some v → v ≠ .null → L[i]? = some v
  | [], _, _, i, v, h, _ => by simp at h
  | w :: l, [], hs, i, v, h, hv => by
    cases i with
    | zero => simp at h; subst h; exact absurd hs.1 hv
    | succ i => exact absurd (subL_at (L2 := l) (L := []) hs.2 (i := i) (by simpa using h) hv) (by simp)
  | w :: l, x :: m, hs, i, v, h, hv => by
    cases i with
    | zero =>
      simp at h
      subst h
      rcases hs.1 with q | q
      · exact absurd q hv
      · simp [q]
    | succ i => simpa using subL_at (L2 := l) (L := m) hs.2 (i := i) (by simpa using h) hv
theorem st_sub {D : Nat} {own : String} {M : Md} {pc : Nat} {L S : List Value} {H : Hp} {post : Option Value → Hp → Prop} (L2 : List Value) (hs : subL L2 L) (k : V D own M pc L2 S H post) : V D own M pc L S H post :=
  fun p l e s m args below meth c K Hm locs ls hC hP hS hL => k p l e s m args below meth c K Hm locs ls hC hP hS ⟨hL.1, hL.2.1, fun i v h hv => hL.2.2 i v (subL_at hs h hv) hv⟩
/-! entering a method -/
def entL : List Value → List Value
  | [] => []
  | v :: vs => if v.category = 2 then v :: .null :: entL vs else v :: entL vs
theorem entL_at (K : GC) : ∀ (vs : List Value) (k i : Nat) (v : Value), (entL vs)[i]? = some v → v ≠ .null → (k + i, mv K v) ∈ lv_args k (vs.map (mv K))
  | [], k, i, v, h, _ => by simp [entL] at h
  | w :: vs, k, i, v, h, hv => by
    unfold entL at h
    show _ ∈ (k, mv K w) :: lv_args (if (mv K w).category = 2 then k + 2 else k + 1) (vs.map (mv K))
    rw [mv_cat]
    split at h
    next hc =>
      rw [if_pos hc]
      match i, h with
      | 0, h =>
        simp at h
        subst h
        exact List.mem_cons_self
      | 1, h => simp at h; exact absurd h.symm hv
      | j + 2, h =>
        have := entL_at K vs (k + 2) j v (by simpa using h) hv
        rw [show k + (j + 2) = k + 2 + j by omega]
        exact List.mem_cons_of_mem _ this
    next hc =>
      rw [if_neg hc]
      match i, h with
      | 0, h =>
        simp at h
        subst h
        exact List.mem_cons_self
      | j + 1, h =>
        have := entL_at K vs (k + 1) j v (by simpa using h) hv
        rw [show k + (j + 1) = k + 1 + j by omega]
        exact List.mem_cons_of_mem _ this
theorem entL_len (K : GC) : ∀ vs : List Value, (lg_sl (vs.map (mv K))).length = (entL vs).length
  | [] => rfl
  | w :: vs => by
    have ih := entL_len K vs
    unfold lg_sl at ih ⊢
    rw [List.map_cons, List.flatMap_cons, List.length_append, ih, mv_cat]
    rw [show entL (w :: vs) = if w.category = 2 then w :: .null :: entL vs else w :: entL vs from rfl]
    split <;> simp <;> omega
theorem KS.moved {K : GC} {A : Nat → Prop} {u U : State} {Hm : Heap} (hW : u.WarmedH U.vm) (h : KS K A u Hm) : KS K A U Hm :=
  ⟨va_K.moved hW.alike h.1, ⟨va_Z.moved hW.alike h.2.1.1, va_T.moved hW.alike h.2.1.2⟩, ⟨va_Z.moved hW.alike h.2.2.1.1, va_T.moved hW.alike h.2.2.1.2⟩, ⟨va_Z.moved hW.alike h.2.2.2.1.1, va_T.moved hW.alike h.2.2.2.1.2⟩, va_Nw.warmM hW h.2.2.2.2.1, va_Nw.warmF hW h.2.2.2.2.2⟩
theorem KS.same {K : GC} {A : Nat → Prop} {u U : State} {Hm : Heap} (hW : u.vm = U.vm) (h : KS K A u Hm) : KS K A U Hm := by
  have ha : u.vm.Alike U.vm := by rw [hW]; exact Vm.Alike.refl U.vm
  exact ⟨va_K.moved ha h.1, ⟨va_Z.moved ha h.2.1.1, va_T.moved ha h.2.1.2⟩, ⟨va_Z.moved ha h.2.2.1.1, va_T.moved ha h.2.2.1.2⟩, ⟨va_Z.moved ha h.2.2.2.1.1, va_T.moved ha h.2.2.2.1.2⟩, va_Nw.same rfl hW h.2.2.2.2.1, va_Nw.same rfl hW h.2.2.2.2.2⟩
theorem KS.kept {K : GC} {A : Nat → Prop} {U : State} {Hm H1 : Heap} (h : KS K A U Hm) (hq : ∀ a : Nat, a < Hm.size → ¬ A a → H1[a]? = Hm[a]?) : KS K A U H1 :=
  ⟨h.1, ⟨h.2.1.1.kept hq, h.2.1.2.kept hq⟩, ⟨h.2.2.1.1.kept hq, h.2.2.1.2.kept hq⟩, ⟨h.2.2.2.1.1.kept hq, h.2.2.2.1.2.kept hq⟩, h.2.2.2.2⟩
theorem KS.narrow {K : GC} {A B : Nat → Prop} {U : State} {Hm : Heap} (h : KS K A U Hm) (hq : ∀ q, B q → A q) : KS K B U Hm :=
  ⟨h.1, ⟨h.2.1.1.narrow hq, h.2.1.2.narrow hq⟩, ⟨h.2.2.1.1.narrow hq, h.2.2.1.2.narrow hq⟩, ⟨h.2.2.2.1.1.narrow hq, h.2.2.2.1.2.narrow hq⟩, h.2.2.2.2⟩
theorem PcG.blind (K : GC) (av : List Value) (H : Hp) (sz : Nat) : FrameBlind (PcG K av H sz) := fun a U g mk q => by
  obtain ⟨q0, q1, qP, qD, qK⟩ := q
  exact ⟨q0, q1, qP, qD, KS.same (u := U) (U := U.calling g mk a) rfl qK⟩
theorem AG_sub {K : GC} {a b : Nat} (h : a ≤ b) : ∀ q, AG K b q → AG K a q := fun q hq => hq.elim Or.inl (fun z => Or.inr (Nat.le_trans h z))
theorem sem_of {D : Nat} {own : String} {M : Md} {av : List Value} {H : Hp} {post : Option Value → Hp → Prop} (ho : M.1.cls = own) (hy : plainName own = true) (hlen : (entL av).length ≤ M.2.2.1) (L : List Value) (hs : subL L (entL av)) (k : V D own M 0 L [] H post) : Sem D M av H post := by
  subst ho
  intro l K sz
  refine Met.ofW (cc := M.2.1) (maxL := M.2.2.1) (ret := M.2.2.2) hy rfl ?_
  intro p e s m args below meth c s₁ B hml hv
  obtain ⟨rfl, hsz, hP, hD, hK⟩ := hv
  subst hsz
  have hl := lv_entry (av.map (mv K)) (n := M.2.2.1) (by rw [entL_len]; exact hlen)
  rw [lg_entry_eq]
  exact k p l e s m _ below meth c K s.heap [] _ ⟨B.exec, B.bytes, hml, B.returns, B.notSynchronized, findClass_of_methodNamed B.named, atoms_spec (ws := mcode M :: gtbl) B.pre, vD hD, hK⟩ hP va_S.rf
    ⟨hl.1, hl.2.1, fun i v h hv => by
      have := entL_at K av 0 i v (subL_at hs h hv) hv
      rw [Nat.zero_add] at this
      exact hl.2.2 _ this⟩
/-! calls -/
theorem gG (M : Md) {ws : List Cond} (h : ∀ w ∈ ws, w ∈ gtbl) : GoodIn (mcode M :: gtbl) ws := fun w hw => ⟨List.mem_cons_of_mem _ (h w hw), good_of_word (List.mem_filter.mp (h w hw)).2⟩
theorem st_run {D : Nat} {own : String} {M : Md} {pc : Nat} {L S St av : List Value} {H : Hp} {post : Option Value → Hp → Prop} {M2 : Md}
    (run : ∀ (p : Program) (l : Launch) (e : Env) (s : State) (m : MethodId) (args : Array Value) (below : List Frame) (meth : Method) (c : Code) (K : GC) (Hm : Heap) (locs : List Loc) (ls : Array Slot) (Q : Option Value → Hp → Prop),
      Cx own M p s m args meth c K → va_P K.1 classes (wsOf K H) Hm → va_S (AG K s.heap.size) s.heap Hm locs → LH K ls M.2.2.1 L → Met l M2.1 (mcode M2 :: gtbl) (rmD D) (PcG K av H Hm.size) (QcG K Q Hm.size) 0 0 (AG K Hm.size) → (∀ U : State, U.heap = Hm → s.WarmedH U.vm → PcG K av H Hm.size (av.map (mv K)).toArray U) →
      va_Run p l e (rmD (D + 1)) s m args below meth c Hm locs 0 0 0 0 (F0 m pc ls (St.map (mv K))) (S.map (mv K)) (QcG K Q Hm.size (av.map (mv K)).toArray) (AG K Hm.size))
    (k : Sem D M2 av H (fun r H2 => V (D + 1) own M (pc + 3) L (r.toList ++ S) H2 post)) : V (D + 1) own M pc L St H post := by
  intro p l e s m args below meth c K Hm locs ls hC hP hS hL T hT X
  have hz : s.heap.size ≤ Hm.size := hS.1
  have hpre : ∀ U : State, U.heap = Hm → s.WarmedH U.vm → PcG K av H Hm.size (av.map (mv K)).toArray U := by
    intro U hU hW
    obtain ⟨-, -, -, -, -, -, -, hD, hK⟩ := hC
    refine ⟨rfl, by rw [hU], by rw [hU]; exact hP, ?_, ?_⟩
    · have h1 : va_D (AG K s.heap.size) (wsOf K H) := vD hD
      refine ⟨h1.1, fun i q hq => ?_⟩
      by_cases hi : i < 78
      · rw [ws_at hi rfl] at hq
        obtain rfl := Option.some.inj hq
        exact Or.inl ⟨i, hi, rfl⟩
      · have : (wsOf K H)[i]? = none := by unfold wsOf; simp; omega
        rw [this] at hq
        cases hq
    · rw [hU]
      exact (KS.moved hW (hK.kept (fun a h1 h2 => hS.2.1 a h1 h2))).narrow (AG_sub hz)
  obtain ⟨v, st0, t, T2, L2, h0, X2, hL2, e1, e2, ⟨⟨r, H2, hv, hk, hP2⟩, hF⟩, st⟩ := run p l e s m args below meth c K Hm locs ls _ hC hP hS hL (k l K Hm.size) hpre T hT X
  have hv2 : v = r.map (mv K) := Outcome.returned.inj hv
  subst hv2
  have hF1 : Hm.size ≤ t.heap.size := by rw [← h0]; exact hF.1
  have hF2 : ∀ q : Nat, q < Hm.size → ¬ AG K Hm.size q → t.heap[q]? = Hm[q]? := by
    intro q h1 h2
    have h3 := hF.2 q (by rw [h0]; exact h1) h2
    rw [h0] at h3
    exact h3
  have hAG : ∀ q : Nat, q < Hm.size → AG K Hm.size q → AG K s.heap.size q := fun q _ h => AG_sub hz q h
  have hS2 : va_S (AG K s.heap.size) s.heap T2.heap (locs ++ L2) := by
    refine ⟨Nat.le_trans hz (by rw [e1]; exact hF1), fun q h1 h2 => ?_, fun q hq => ?_⟩
    · have h3 : q < Hm.size := Nat.lt_of_lt_of_le h1 hz
      rw [e1, hF2 q h3 (fun z => h2 (hAG q h3 z))]
      exact hS.2.1 q h1 h2
    · rcases List.mem_append.mp hq with h | h
      · exact hS.2.2 q h
      · exact AG_sub hz _ (hL2 q h)
  obtain ⟨t2, a1, b1⟩ := hk p l e s m args below meth c K T2.heap (locs ++ L2) ls hC (by rw [e1]; exact hP2) hS2 hL T2 rfl X2
  refine ⟨t2, st t2 ?_, b1⟩
  have e3 : (r.toList ++ S).map (mv K) = (r.map (mv K)).toList ++ S.map (mv K) := by cases r <;> simp
  rw [e3] at a1
  exact a1
theorem map_rev (K : GC) (av S : List Value) : (av.reverse ++ S).map (mv K) = (av.map (mv K)).reverse ++ S.map (mv K) := by
  rw [List.map_append, List.map_reverse]
/-- what the tables say of a method that is called -/
def CalleeOk (M2 : Md) (n : Nat) : Prop := (M2.1.cls ≠ "java/lang/invoke/MethodHandle" ∧ M2.1.cls ≠ "java/lang/invoke/VarHandle" ∧ (parseMethodDescriptor M2.1.desc).map (fun d => d.parameters.length) = some n) ∧ M2.2.2.1 ≤ 45 ∧ mcode M2 ∈ gtbl ∧ Cond.initialized M2.1.cls ∈ gtbl
theorem room_ok {D n : Nat} (h : n ≤ 45) : (rmD D).frames + 1 ≤ (rmD (D + 1)).frames ∧ 8 + (n + 11) + (rmD D).locals ≤ (rmD (D + 1)).locals := ⟨Nat.le_refl _, by show 8 + (n + 11) + 64 * D ≤ 64 * (D + 1); omega⟩
theorem st_callV {D : Nat} {own : String} {M : Md} {pc : Nat} {L S St : List Value} {H : Hp} {post : Option Value → Hp → Prop} {M2 : Md} {idx n c0 ci : Nat} {r : vw_C} (av : List Value)
    (hd : decode M.2.1 pc = .ok (.invokevirtual idx, 3)) (hk : CalleeOk M2 n) (hinst : Cond.instanceMethod M2.1 ∈ gtbl) (hsel : Cond.selects M2.1.cls M2.1 M2.1 ∈ gtbl) (hw : Cond.methodLink own idx M2.1 ∈ gtbl) (hn : av.length = n) (hc : c0 < 78) (hs : sh c0 = (0, ci)) (hq : classes[ci]? = some r) (hr : r.1 = M2.1.cls) (hst : St = av.reverse ++ .ref c0 :: S) (hsum : (S.map fun v => v.category).sum ≤ 8)
    (k : Sem D M2 (.ref c0 :: av) H (fun r H2 => V (D + 1) own M (pc + 3) L (r.toList ++ S) H2 post)) : V (D + 1) own M pc L St H post := by
  obtain ⟨hdd, hmx, hcd, hini⟩ := hk
  subst hst
  refine st_run (S := S) (fun p l e s m args below meth c K Hm locs ls Q hC hP hS hL hM hpre => ?_) k
  obtain ⟨hx, hb, hml, hrt, hlk, hown, hts, hD, hK⟩ := id hC
  have hG : GoodIn (mcode M :: gtbl) (wsV own idx M2.1.cls M2.1 (mcode M2 :: gtbl)) := gG M (fun w hw2 => by
    unfold wsV at hw2
    rcases List.mem_append.mp hw2 with h | h
    · simp only [List.mem_cons, List.not_mem_nil, or_false] at h
      rcases h with rfl | rfl | rfl | rfl
      · exact hw
      · exact hinst
      · exact hsel
      · exact hini
    · rcases List.mem_cons.mp h with rfl | h
      · exact hcd
      · exact h)
  have cw := cwV (R := rmD (D + 1)) (rm := rmD D) (mc := 0) (ms := 0) (C := M2.1.cls) (own := own) (index := idx) (bytes := M2.2.1) (maxL := M2.2.2.1) (ret := M2.2.2.2) n hts hG rfl rfl rfl ⟨rfl, hdd⟩ (room_ok hmx)
  have hrc := va_recv hK.1 hP hq (ws_obj hc hs)
  rw [hr] at hrc
  exact va_runV (As := av.map (mv K)) (rest := S.map (mv K)) (b := K.2.2 c0) ⟨hx, hb, hml, hown, hts⟩ hM cw ⟨PcG.blind K _ H _, hrc, hpre⟩ rfl (by rw [List.length_map]; exact hn) hL.1 (by rw [map_rev]; rfl) (lv_room (by rw [mv_sum]; exact hsum)) hd ⟨Nat.zero_le _, Nat.zero_le _⟩
theorem st_callS {D : Nat} {own : String} {M : Md} {pc : Nat} {L S St : List Value} {H : Hp} {post : Option Value → Hp → Prop} {M2 : Md} {idx n : Nat} (av : List Value)
    (hd : decode M.2.1 pc = .ok (.invokestatic idx, 3)) (hk : CalleeOk M2 n) (hstat : Cond.static M2.1 ∈ gtbl) (hw : Cond.methodLink own idx M2.1 ∈ gtbl) (hn : av.length = n) (hst : St = av.reverse ++ S) (hsum : (S.map fun v => v.category).sum ≤ 8)
    (k : Sem D M2 av H (fun r H2 => V (D + 1) own M (pc + 3) L (r.toList ++ S) H2 post)) : V (D + 1) own M pc L St H post := by
  obtain ⟨hdd, hmx, hcd, hini⟩ := hk
  subst hst
  refine st_run (S := S) (fun p l e s m args below meth c K Hm locs ls Q hC hP hS hL hM hpre => ?_) k
  obtain ⟨hx, hb, hml, hrt, hlk, hown, hts, hD, hK⟩ := id hC
  have hG : GoodIn (mcode M :: gtbl) (va_wsS own idx M2.1 (mcode M2 :: gtbl)) := gG M (fun w hw2 => by
    unfold va_wsS at hw2
    rcases List.mem_append.mp hw2 with h | h
    · simp only [List.mem_cons, List.not_mem_nil, or_false] at h
      rcases h with rfl | rfl | rfl
      · exact hw
      · exact hstat
      · exact hini
    · rcases List.mem_cons.mp h with rfl | h
      · exact hcd
      · exact h)
  have cw := va_cwS (R := rmD (D + 1)) (rm := rmD D) (mc := 0) (ms := 0) (own := own) (index := idx) (bytes := M2.2.1) (maxL := M2.2.2.1) (ret := M2.2.2.2) n hts hG rfl rfl rfl hdd (room_ok hmx)
  exact va_runS (As := av.map (mv K)) (rest := S.map (mv K)) ⟨hx, hb, hml, hown, hts⟩ hM cw ⟨PcG.blind K _ H _, hpre⟩ rfl (by rw [List.length_map]; exact hn) hL.1 (by rw [map_rev]) (lv_room (by rw [mv_sum]; exact hsum)) hd ⟨Nat.zero_le _, Nat.zero_le _⟩
/-- the one call of a nest mate's private method: Tape.readNumber calls MatchFund.within -/
theorem st_callN {D : Nat} {M : Md} {pc : Nat} {L S St : List Value} {H : Hp} {post : Option Value → Hp → Prop} {M2 : Md} {n : Nat} (av : List Value)
    (hd : decode M.2.1 pc = .ok (.invokestatic 85, 3)) (hm2 : M2.1 = yX7_within) (hk : CalleeOk M2 n) (hstat : Cond.static M2.1 ∈ gtbl) (hn : av.length = n) (hst : St = av.reverse ++ S) (hsum : (S.map fun v => v.category).sum ≤ 8)
    (k : Sem D M2 av H (fun r H2 => V (D + 1) "MatchFund$Tape" M (pc + 3) L (r.toList ++ S) H2 post)) : V (D + 1) "MatchFund$Tape" M pc L St H post := by
  obtain ⟨hdd, hmx, hcd, hini⟩ := hk
  subst hst
  refine st_run (S := S) (fun p l e s m args below meth c K Hm locs ls Q hC hP hS hL hM hpre => ?_) k
  obtain ⟨hx, hb, hml, hrt, hlk, hown, hts, hD, hK⟩ := id hC
  have hG : GoodIn (mcode M :: gtbl) (mcode M2 :: gtbl) := gG M (fun w h => by
    rcases List.mem_cons.mp h with rfl | h
    · exact hcd
    · exact h)
  have hnw : va_Nw (.methodLinkNest "MatchFund$Tape" 85 M2.1 "MatchFund") s := by rw [hm2]; exact hK.2.2.2.2.1
  have cw := va_cnB (R := rmD (D + 1)) (rm := rmD D) (mc := 0) (ms := 0) (bytes := M2.2.1) (maxL := M2.2.2.1) (ret := M2.2.2.2) n hts hG rfl rfl rfl hnw (hts _ (List.mem_cons_of_mem _ hini)) hdd (room_ok hmx)
  exact va_runSN (As := av.map (mv K)) (rest := S.map (mv K)) ⟨hx, hb, hml, hown, hts⟩ hM ⟨cw, hts _ (List.mem_cons_of_mem _ hstat), trivial⟩ ⟨PcG.blind K _ H _, hpre⟩ rfl (by rw [List.length_map]; exact hn) hL.1 (by rw [map_rev]) (lv_room (by rw [mv_sum]; exact hsum)) hd ⟨Nat.zero_le _, Nat.zero_le _⟩

