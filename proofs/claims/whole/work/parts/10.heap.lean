/-! the heap of this claim as numbers: cells by number (cell k stands at base + k), what they are, and their ints -/
abbrev mx_Sk : Type := List (Nat ⊕ (Nat × List (Option Nat)))
abbrev mx_I : Type := Nat → Nat → Int32
abbrev mx_H : Type := mx_Sk × mx_I
abbrev mx_G : Type := va_G × ClassId × Nat × (Nat → Nat) × Nat × (Nat → Int32)
def mx_A (G : mx_G) : Nat → Prop := fun q => G.2.2.1 ≤ q
def mx_ad (G : mx_G) (k : Nat) : Nat := if k < 1000 then G.2.2.1 + k else G.2.2.2.1 k
def mx_cv (G : mx_G) : Value → Value
  | .ref k => .ref (mx_ad G k)
  | .int x => .int x
  | .long x => .long x
  | .float x => .float x
  | .double x => .double x
  | .null => .null
  | .retAddr x => .retAddr x
theorem mx_cv_cat (G : mx_G) (v : Value) : (mx_cv G v).category = v.category := by cases v <;> rfl
def mx_rv : Option Nat → Value
  | none => .null
  | some k => .ref k
def mx_ty (ci : Nat) : Nat → FieldType := match ci with
  | 0 => tyX0 | 1 => tyX1 | 2 => tyX2 | 3 => tyX3 | 4 => tyX4 | 5 => tyX5 | 6 => tyX6 | 7 => tyX7 | 8 => tyX8 | 9 => tyX9 | 10 => tyX10 | 11 => tyX11 | _ => tyX12
def mx_isR (ci k : Nat) : Bool := match mx_ty ci k with
  | .object _ => true
  | .array _ => true
  | _ => false
def mx_N (ci : Nat) : Nat := match ci with
  | 0 => 4 | 1 => 16 | 2 => 10 | 3 => 6 | 4 => 4 | 5 => 6 | 6 => 6 | 7 => 5 | 8 => 15 | 9 => 11 | 10 => 8 | 11 => 10 | _ => 33
def mx_fv (I : mx_I) (k ci : Nat) (refs : List (Option Nat)) (j : Nat) : Value := if mx_isR ci j = true then mx_rv (refs.getD j none) else .int (I k j)
def mx_fs (G : mx_G) (I : mx_I) (k ci : Nat) (refs : List (Option Nat)) : List Value := (List.range (mx_N ci)).map fun j => mx_cv G (mx_fv I k ci refs j)
def mx_cell (G : mx_G) (I : mx_I) (k : Nat) : (Nat ⊕ (Nat × List (Option Nat))) → va_E
  | .inl n => .inl (G.2.1, n, .inl (I k))
  | .inr o => .inr (o.1, mx_fs G I k o.1 o.2)
def mx_ws (G : mx_G) (h : mx_H) : va_W := h.1.mapIdx fun k c => (G.2.2.1 + k, mx_cell G h.2 k c)
def mx_W (G : mx_G) (h : mx_H) (H : Heap) : Prop := h.1.length ≤ 1000 ∧ va_P G.1 vwCl (mx_ws G h) H
def mx_row (I : mx_I) (k : Nat) (f : Nat → Int32) : mx_I := fun a => if a = k then f else I a
def mx_set (I : mx_I) (k i : Nat) (x : Int32) : mx_I := mx_row I k (upd (I k) i x)
theorem mx_ws_get {G : mx_G} {h : mx_H} {k : Nat} {c : Nat ⊕ (Nat × List (Option Nat))} (hk : h.1[k]? = some c) : (mx_ws G h)[k]? = some (G.2.2.1 + k, mx_cell G h.2 k c) := by
  simp [mx_ws, List.getElem?_mapIdx, hk]
theorem mx_ws_inv {G : mx_G} {h : mx_H} {k : Nat} {q : Nat × va_E} (hk : (mx_ws G h)[k]? = some q) : q.1 = G.2.2.1 + k ∧ k < h.1.length := by
  simp only [mx_ws, List.getElem?_mapIdx] at hk
  cases hc : h.1[k]? with
  | none => rw [hc] at hk; cases hk
  | some c =>
    rw [hc] at hk
    cases hk
    exact ⟨rfl, (List.getElem?_eq_some_iff.mp hc).1⟩
theorem mx_D (G : mx_G) (h : mx_H) : va_D (mx_A G) (mx_ws G h) := by
  refine ⟨fun i j p q hi hj e => ?_, fun k q hk => ?_⟩
  · have h1 := (mx_ws_inv hi).1
    have h2 := (mx_ws_inv hj).1
    omega
  · show G.2.2.1 ≤ q.1
    rw [(mx_ws_inv hk).1]
    omega
theorem mx_ad_lt {G : mx_G} {k : Nat} (h : k < 1000) : mx_ad G k = G.2.2.1 + k := by simp [mx_ad, h]
theorem mx_row_self (I : mx_I) (k : Nat) (f : Nat → Int32) : mx_row I k f k = f := by simp [mx_row]
theorem mx_row_ne {I : mx_I} {k a : Nat} {f : Nat → Int32} (h : a ≠ k) : mx_row I k f a = I a := by simp [mx_row, h]
theorem mx_cell_ne {G : mx_G} {I : mx_I} {k a : Nat} {f : Nat → Int32} (h : a ≠ k) (c : Nat ⊕ (Nat × List (Option Nat))) : mx_cell G (mx_row I k f) a c = mx_cell G I a c := by
  cases c with
  | inl n => simp [mx_cell, mx_row_ne h]
  | inr o => simp [mx_cell, mx_fs, mx_fv, mx_row_ne h]
theorem mx_ws_row {G : mx_G} {sk : mx_Sk} {I : mx_I} {k n : Nat} (hk : sk[k]? = some (.inl n)) (f : Nat → Int32) : mx_ws G (sk, mx_row I k f) = (mx_ws G (sk, I)).set k (G.2.2.1 + k, .inl (G.2.1, n, .inl f)) := by
  apply List.ext_getElem?
  intro j
  have hl : k < (mx_ws G (sk, I)).length := by simp [mx_ws]; exact (List.getElem?_eq_some_iff.mp hk).1
  by_cases hj : j = k
  · subst hj
    rw [List.getElem?_set_self hl]
    rw [mx_ws_get (h := (sk, mx_row I j f)) hk]
    simp [mx_cell, mx_row_self]
  · rw [List.getElem?_set_ne (Ne.symm hj)]
    simp only [mx_ws, List.getElem?_mapIdx]
    cases sk[j]? with
    | none => rfl
    | some c => simp [mx_cell_ne hj]
theorem mx_fs_get {G : mx_G} {I : mx_I} {k ci : Nat} {refs : List (Option Nat)} {j : Nat} (hj : j < mx_N ci) : (mx_fs G I k ci refs)[j]? = some (mx_cv G (mx_fv I k ci refs j)) := by
  simp [mx_fs, List.getElem?_map, List.getElem?_range hj]
theorem mx_fs_len (G : mx_G) (I : mx_I) (k ci : Nat) (refs : List (Option Nat)) : (mx_fs G I k ci refs).length = mx_N ci := by simp [mx_fs]
theorem mx_ws_fld {G : mx_G} {sk : mx_Sk} {I : mx_I} {k ci : Nat} {refs : List (Option Nat)} (hk : sk[k]? = some (.inr (ci, refs))) {j : Nat} (hj : j < mx_N ci) (hr : mx_isR ci j = false) (x : Int32) :
    mx_ws G (sk, mx_set I k j x) = (mx_ws G (sk, I)).set k (G.2.2.1 + k, .inr (ci, (mx_fs G I k ci refs).set j (.int x))) := by
  apply List.ext_getElem?
  intro i
  have hl : k < (mx_ws G (sk, I)).length := by simp [mx_ws]; exact (List.getElem?_eq_some_iff.mp hk).1
  by_cases hi : i = k
  · subst hi
    rw [List.getElem?_set_self hl]
    rw [mx_ws_get (h := (sk, mx_set I i j x)) hk]
    simp only [mx_cell]
    congr 4
    apply List.ext_getElem?
    intro q
    by_cases hq : q = j
    · subst hq
      rw [mx_fs_get hj, List.getElem?_set_self (by rw [mx_fs_len]; exact hj)]
      simp [mx_fv, hr, mx_set, mx_row_self, upd, mx_cv]
    · rw [List.getElem?_set_ne (Ne.symm hq)]
      by_cases hn : q < mx_N ci
      · rw [mx_fs_get hn, mx_fs_get hn]
        simp [mx_fv, mx_set, mx_row_self, upd, hq]
      · rw [List.getElem?_eq_none (by rw [mx_fs_len]; omega), List.getElem?_eq_none (by rw [mx_fs_len]; omega)]
  · rw [List.getElem?_set_ne (Ne.symm hi)]
    simp only [mx_ws, List.getElem?_mapIdx]
    cases sk[i]? with
    | none => rfl
    | some c => simp [mx_set, mx_cell_ne hi]
theorem mx_ws_ref {G : mx_G} {sk : mx_Sk} {I : mx_I} {k ci : Nat} {refs : List (Option Nat)} (hk : sk[k]? = some (.inr (ci, refs))) {j : Nat} (hj : j < mx_N ci) (hr : mx_isR ci j = true) (hl0 : j < refs.length) (r : Nat) :
    mx_ws G (sk.set k (.inr (ci, refs.set j (some r))), I) = (mx_ws G (sk, I)).set k (G.2.2.1 + k, .inr (ci, (mx_fs G I k ci refs).set j (.ref (mx_ad G r)))) := by
  apply List.ext_getElem?
  intro i
  have hlk : k < sk.length := (List.getElem?_eq_some_iff.mp hk).1
  have hl : k < (mx_ws G (sk, I)).length := by simp [mx_ws]; exact hlk
  by_cases hi : i = k
  · subst hi
    rw [List.getElem?_set_self hl]
    rw [mx_ws_get (h := (sk.set i (.inr (ci, refs.set j (some r))), I)) (c := .inr (ci, refs.set j (some r))) (by simp [List.getElem?_set_self hlk])]
    simp only [mx_cell]
    congr 4
    apply List.ext_getElem?
    intro q
    by_cases hq : q = j
    · subst hq
      rw [mx_fs_get hj, List.getElem?_set_self (by rw [mx_fs_len]; exact hj)]
      simp [mx_fv, hr, mx_rv, mx_cv, List.getElem?_set_self hl0]
    · rw [List.getElem?_set_ne (Ne.symm hq)]
      by_cases hn : q < mx_N ci
      · rw [mx_fs_get hn, mx_fs_get hn]
        simp [mx_fv, List.getElem?_set_ne (Ne.symm hq)]
      · rw [List.getElem?_eq_none (by rw [mx_fs_len]; omega), List.getElem?_eq_none (by rw [mx_fs_len]; omega)]
  · rw [List.getElem?_set_ne (Ne.symm hi)]
    simp only [mx_ws, List.getElem?_mapIdx, List.getElem?_set_ne (Ne.symm hi)]
/-! what the tables and the read-only cells give -/
def mx_strs : List (String × Nat × String) := [("TakeOver$Reader", 159, "take"), ("TakeOver$Reader", 161, "leave"), ("TakeOver$Reader", 163, "when"), ("TakeOver$Reader", 165, "or"), ("TakeOver$Reader", 167, "and"), ("TakeOver$Reader", 169, "not"), ("TakeOver$Reader", 171, "weight"), ("TakeOver$Reader", 173, "room"), ("TakeOver$Reader", 175, "since"), ("TakeOver$Reader", 177, "heap"), ("TakeOver$Reader", 179, "own"), ("TakeOver$Reader", 181, "hour"), ("TakeOver$Reader", 183, "trips"), ("TakeOver$Reader", 185, ""), ("TakeOverModel", 120, "when"), ("TakeOverModel", 122, "or"), ("TakeOverModel", 124, "and"), ("TakeOverModel", 126, "not"), ("TakeOverModel", 128, "take"), ("TakeOverModel", 130, "leave"), ("TakeOverModel", 103, "weight"), ("TakeOverModel", 109, "room"), ("TakeOverModel", 111, "since"), ("TakeOverModel", 113, "heap"), ("TakeOverModel", 114, "own"), ("TakeOverModel", 116, "hour"), ("TakeOverModel", 118, "trips")]
def mx_slen : List Nat := [4, 5, 4, 2, 3, 3, 6, 4, 5, 4, 3, 4, 5, 0, 4, 2, 3, 3, 4, 5, 6, 4, 5, 4, 3, 4, 5]
def mx_sbyt : List (List Int32) := [[116, 97, 107, 101], [108, 101, 97, 118, 101], [119, 104, 101, 110], [111, 114], [97, 110, 100], [110, 111, 116], [119, 101, 105, 103, 104, 116], [114, 111, 111, 109], [115, 105, 110, 99, 101], [104, 101, 97, 112], [111, 119, 110], [104, 111, 117, 114], [116, 114, 105, 112, 115], [], [119, 104, 101, 110], [111, 114], [97, 110, 100], [110, 111, 116], [116, 97, 107, 101], [108, 101, 97, 118, 101], [119, 101, 105, 103, 104, 116], [114, 111, 111, 109], [115, 105, 110, 99, 101], [104, 101, 97, 112], [111, 119, 110], [104, 111, 117, 114], [116, 114, 105, 112, 115]]
def mx_nest : List (String × Nat × MethodName) := [("TakeOver", 11, ⟨"TakeOver$Told", "<init>", "()V"⟩), ("TakeOver$Told", 11, ⟨"TakeOver$Loads", "<init>", "()V"⟩), ("TakeOver$Told", 20, ⟨"TakeOver$Crossers", "<init>", "()V"⟩), ("TakeOver$Told", 27, ⟨"TakeOver$Offers", "<init>", "()V"⟩), ("TakeOver$Told", 34, ⟨"TakeOver$Lists", "<init>", "()V"⟩), ("TakeOver$Told", 41, ⟨"TakeOver$Law", "<init>", "()V"⟩), ("TakeOver", 25, ⟨"TakeOver$Book", "<init>", "()V"⟩), ("TakeOver", 32, ⟨"TakeOver$Reader", "<init>", "()V"⟩), ("TakeOver$Reader", 17, ⟨"TakeOver$Law", "<init>", "()V"⟩), ("TakeOver$Course", 11, ⟨"TakeOver$Plan", "<init>", "()V"⟩)]
def mx_nestW (e : String × Nat × MethodName) : Cond := .methodLinkNest e.1 e.2.1 e.2.2 "TakeOver"
def mx_K (G : mx_G) (U : State) : Prop :=
  va_K G.1 vwCl [(G.2.1, .int)] U ∧ va_X (G.2.2.2.1 1000) G.2.2.2.2.1 G.2.2.2.2.2 U U.heap ∧ G.2.2.2.1 1000 < G.2.2.1 ∧ G.2.2.1 ≤ U.heap.size ∧
  (∀ i : Nat, i < 27 → vk_S 1 [mx_slen.getD i 0] [mx_sbyt.getD i []] (fun _ => G.2.2.2.1 (1001 + i)) (fun _ => G.2.2.2.1 (2001 + i)) (mx_A G) U U.heap) ∧
  (∀ (i : Nat) (e : String × Nat × String), mx_strs[i]? = some e → vk_R e.1 e.2.1 e.2.2 (G.2.2.2.1 (1001 + i)) U) ∧
  (∀ e ∈ mx_nest, va_Nw (mx_nestW e) U) ∧ va_Z "java/lang/String" "COMPACT_STRINGS" "Z" (.int 1) (mx_A G) U U.heap ∧
  (va_Z "jdk/internal/util/Preconditions" "SIOOBE_FORMATTER" "Ljava/util/function/BiFunction;" .null (mx_A G) U U.heap ∨ va_Z "jdk/internal/util/Preconditions" "SIOOBE_FORMATTER" "Ljava/util/function/BiFunction;" (.ref (G.2.2.2.1 3000)) (mx_A G) U U.heap)
theorem mx_K.to {G : mx_G} {s U : State} (h : mx_K G s) (hW : s.WarmedH U.vm) (hz : s.heap.size ≤ U.heap.size) (hq : ∀ a : Nat, a < s.heap.size → ¬ mx_A G a → U.heap[a]? = s.heap[a]?) : mx_K G U := by
  obtain ⟨h1, h2, h3, h4, h5, h6, h7, h8, h9⟩ := h
  refine ⟨va_K.moved hW.alike h1, va_X.kept (va_X.moved hW.alike h2) ?_, h3, Nat.le_trans h4 hz, fun i hi => vk_S.kept (vk_S.moved hW.alike (h5 i hi)) hq, fun i e he => vk_R.warm hW (h6 i e he), fun e he => va_Nw.warmM hW (h7 e he), va_Z.kept (va_Z.moved hW.alike h8) hq, h9.imp (fun z => va_Z.kept (va_Z.moved hW.alike z) hq) (fun z => va_Z.kept (va_Z.moved hW.alike z) hq)⟩
  exact hq _ (Nat.lt_of_lt_of_le h3 h4) (fun (z : G.2.2.1 ≤ _) => Nat.not_lt.mpr z h3)
def mx_wsM (M : mx_M) : List Cond := Cond.code M.1 M.2.1 M.2.2.1 M.2.2.2 :: mx_g
def mx_rm (d nc ns : Nat) : Room := { frames := d + 2, cells := nc, slots := ns, locals := 64 * d + 200 }
def mx_Pc (G : mx_G) (As : List Value) (h : mx_H) : Array Value → State → Prop := fun v U => v = (As.map (mx_cv G)).toArray ∧ mx_K G U ∧ mx_W G h U.heap ∧ U.heap.size = G.2.2.1 + h.1.length
def mx_Qc (G : mx_G) (Q : Option Value → mx_H → Prop) (nc : Nat) : Array Value → State → Outcome → State → Prop := fun _ st oc t =>
  (∃ (r : Option Value) (h' : mx_H), oc = .returned (r.map (mx_cv G)) ∧ Q r h' ∧ mx_W G h' t.heap ∧ st.heap.size + nc = G.2.2.1 + h'.1.length) ∧ va_F (mx_A G) st t
def mx_Spec (l : Launch) (M : mx_M) (d nc ns : Nat) (As : List Value) (h : mx_H) (Q : Option Value → mx_H → Prop) : Prop :=
  ∀ G : mx_G, Met l M.1 (mx_wsM M) (mx_rm d nc ns) (mx_Pc G As h) (mx_Qc G Q nc) nc ns (mx_A G)
def mx_C (M : mx_M) (G : mx_G) (p : Program) (s : State) (m : MethodId) (args : Array Value) (meth : Method) (c : Code) : Prop :=
  p.tables.exec = Jvm.exec ∧ c.code = M.2.1 ∧ c.maxLocals = M.2.2.1 ∧ meth.sig.returnType = M.2.2.2 ∧ meth.locks = false ∧ (M.1.name = "<init>" → meth.name = "<init>") ∧ s.vm.findClass M.1.cls = some m.cls ∧ (∀ w ∈ mx_g, w.before args s = true) ∧ mx_K G s
/-! locals by their places; retAddr 0 stands where nothing is known -/
def mx_la (L : List Value) : List (Nat × Value) := (L.zipIdx.filter (fun q => q.1 != .retAddr 0)).map (fun q => (q.2, q.1))
theorem mx_la_mem {L : List Value} {i : Nat} {v : Value} : (i, v) ∈ mx_la L ↔ L[i]? = some v ∧ v ≠ .retAddr 0 := by
  simp only [mx_la, List.mem_map, List.mem_filter, Prod.exists, Prod.mk.injEq, bne_iff_ne]
  constructor
  · rintro ⟨a, b, ⟨h1, h2⟩, rfl, rfl⟩
    exact ⟨List.mk_mem_zipIdx_iff_getElem?.mp h1, h2⟩
  · rintro ⟨h1, h2⟩
    exact ⟨v, i, ⟨List.mk_mem_zipIdx_iff_getElem?.mpr h1, h2⟩, rfl, rfl⟩
theorem mx_la_at {ls : Array Slot} {n : Nat} {L : List Value} (h : lv_has ls n (mx_la L)) {i : Nat} {v : Value} (hi : L[i]? = some v) (hv : v ≠ .retAddr 0) : ls[i]? = some (.val v) := h.2.2 (i, v) (mx_la_mem.mpr ⟨hi, hv⟩)
theorem mx_lv_mono {ls : Array Slot} {n : Nat} {l l' : List (Nat × Value)} (h : lv_has ls n l) (hs : ∀ q ∈ l', q ∈ l) : lv_has ls n l' := ⟨h.1, h.2.1, fun q hq => h.2.2 q (hs q hq)⟩
def mx_nl (L : List Value) (i : Nat) : Bool := match i with
  | 0 => true
  | j + 1 => match L[j]? with
    | some w => w.category != 2
    | none => true
theorem mx_nl_cv (G : mx_G) (L : List Value) (i : Nat) : mx_nl (L.map (mx_cv G)) i = mx_nl L i := by
  cases i with
  | zero => rfl
  | succ j =>
    simp only [mx_nl, List.getElem?_map]
    cases L[j]? with
    | none => rfl
    | some w => simp [mx_cv_cat]
theorem mx_st1 {ls : Array Slot} {n : Nat} {L : List Value} {i : Nat} {v : Value} (hn : mx_nl L i = true)
    (h : lv_has ls n ((i, v) :: (mx_la L).filter (fun q => !(q.1 == i) && !(q.1 + 1 == i && q.2.category == 2)))) : lv_has ls n (mx_la (L.set i v)) := by
  refine mx_lv_mono h fun q hq => ?_
  obtain ⟨j, w⟩ := q
  obtain ⟨h1, h2⟩ := mx_la_mem.mp hq
  by_cases hj : j = i
  · subst hj
    have hl : j < L.length := by
      have := (List.getElem?_eq_some_iff.mp h1).1
      simpa using this
    rw [List.getElem?_set_self hl] at h1
    cases h1
    exact List.mem_cons_self
  · rw [List.getElem?_set_ne (Ne.symm hj)] at h1
    refine List.mem_cons_of_mem _ (List.mem_filter.mpr ⟨mx_la_mem.mpr ⟨h1, h2⟩, ?_⟩)
    by_cases hji : j + 1 = i
    · subst hji
      simp only [mx_nl, h1] at hn
      simp [hj]
      simpa using hn
    · simp [hj, hji]
theorem mx_st2 {ls : Array Slot} {n : Nat} {L : List Value} {i : Nat} {v : Value} (hn : mx_nl L i = true)
    (h : lv_has ls n ((i, v) :: (mx_la L).filter (fun q => !(q.1 == i) && (!(q.1 == i + 1) && !(q.1 + 1 == i && q.2.category == 2))))) : lv_has ls n (mx_la ((L.set i v).set (i + 1) (.retAddr 0))) := by
  refine mx_lv_mono h fun q hq => ?_
  obtain ⟨j, w⟩ := q
  obtain ⟨h1, h2⟩ := mx_la_mem.mp hq
  by_cases hj2 : j = i + 1
  · subst hj2
    have hl : i + 1 < (L.set i v).length := by
      have := (List.getElem?_eq_some_iff.mp h1).1
      simpa using this
    rw [List.getElem?_set_self hl] at h1
    cases h1
    exact absurd rfl h2
  · rw [List.getElem?_set_ne (Ne.symm hj2)] at h1
    by_cases hj : j = i
    · subst hj
      have hl : j < L.length := by
        have := (List.getElem?_eq_some_iff.mp h1).1
        simpa using this
      rw [List.getElem?_set_self hl] at h1
      cases h1
      exact List.mem_cons_self
    · rw [List.getElem?_set_ne (Ne.symm hj)] at h1
      refine List.mem_cons_of_mem _ (List.mem_filter.mpr ⟨mx_la_mem.mpr ⟨h1, h2⟩, ?_⟩)
      by_cases hji : j + 1 = i
      · subst hji
        simp only [mx_nl, h1] at hn
        simp [hj, hj2]
        simpa using hn
      · simp [hj, hji, hj2]
/-- the walk: from this place of method M the machine comes to an end as Z says -/
def mx_Go (l : Launch) (R : Room) (M : mx_M) (Z : mx_G → List Frame → Array Value → State → State → Prop) (uc us pc : Nat) (L st : List Value) (h : mx_H) : Prop :=
  ∀ (G : mx_G) (p : Program) (e : Env) (s : State) (m : MethodId) (args : Array Value) (below : List Frame) (meth : Method) (c : Code) (H : Heap) (locs : List Loc) (ls : Array Slot),
    mx_C M G p s m args meth c → s.heap.size + uc = G.2.2.1 + h.1.length → mx_W G h H → va_S (mx_A G) s.heap H locs → lv_has ls M.2.2.1 (mx_la (L.map (mx_cv G))) →
    W p l e R s m args below meth c H locs uc us (Z G below args s) (F0 m pc ls (st.map (mx_cv G)))
def mx_Z (Q : Option Value → mx_H → Prop) (nc ns : Nat) : mx_G → List Frame → Array Value → State → State → Prop := fun G below args s => MQ below (mx_Qc G Q nc) args s nc ns (mx_A G)
theorem mx_size {p : Program} {l : Launch} {e : Env} {R : Room} {s : State} {m : MethodId} {args : Array Value} {below : List Frame} {meth : Method} {c : Code} {T : State} {locs : List Loc} {uc us : Nat} {G : mx_G} {h : mx_H} {H : Heap}
    (X : Stand p l e R s m args below meth c T locs uc us) (hT : T.heap = H) (hb : G.2.2.1 ≤ s.heap.size) (hz : s.heap.size + uc = G.2.2.1 + h.1.length) (hW : mx_W G h H) (hS : s.heap.size ≤ H.size) : H.size = G.2.2.1 + h.1.length := by
  have h1 : T.heap.size ≤ s.heap.size + uc := X.same.2.2.1
  rw [hT] at h1
  rcases Nat.eq_zero_or_pos h.1.length with h0 | h0
  · omega
  · obtain ⟨c0, hc0⟩ : ∃ c0, h.1[h.1.length - 1]? = some c0 := ⟨_, List.getElem?_eq_getElem (by omega)⟩
    have h2 := (hW.2 _ _ (mx_ws_get (G := G) hc0)).lt
    simp only at h2
    omega
