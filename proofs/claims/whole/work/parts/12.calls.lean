/-! fields, arrays, calls, the end of a method, its entry -/
section HEAPRULES
variable {l : Launch} {R : Room} {M : mx_M} {Z : mx_G → List Frame → Array Value → State → State → Prop} {uc us pc : Nat} {L st : List Value} {h : mx_H}
theorem mx_C.K {G : mx_G} {p : Program} {s : State} {m : MethodId} {args : Array Value} {meth : Method} {c : Code} (C : mx_C M G p s m args meth c) : mx_K G s := C.2.2.2.2.2.2.2.2
theorem mx_C.own {G : mx_G} {p : Program} {s : State} {m : MethodId} {args : Array Value} {meth : Method} {c : Code} (C : mx_C M G p s m args meth c) : s.vm.findClass M.1.cls = some m.cls := C.2.2.2.2.2.2.1
theorem mx_C.wd {G : mx_G} {p : Program} {s : State} {m : MethodId} {args : Array Value} {meth : Method} {c : Code} (C : mx_C M G p s m args meth c) : ∀ w ∈ mx_g, w.before args s = true := C.2.2.2.2.2.2.2.1
theorem mx_k1000 {G : mx_G} {H : Heap} {k : Nat} {c : Nat ⊕ (Nat × List (Option Nat))} (hW : mx_W G h H) (hk : h.1[k]? = some c) : mx_ad G k = G.2.2.1 + k := mx_ad_lt (Nat.lt_of_lt_of_le (List.getElem?_eq_some_iff.mp hk).1 hW.1)
theorem g_getf {idx k ci j : Nat} {refs : List (Option Nat)} {C0 : String} {T : u_T} {N : Nat} {v : Value} (hcl : vwCl[ci]? = some (C0, T, N)) (hin : ∀ w ∈ u_ws C0 T N, w ∈ mx_g) (hN : mx_N ci = N) (hj : j < N)
    (hd : decode M.2.1 pc = .ok (.getfield idx, 3)) (hw : Cond.fieldLink M.1.cls idx (T j).1 (T j).2.1 (T j).2.2.1 ∈ mx_g) (hk : h.1[k]? = some (.inr (ci, refs))) (hv : mx_fv h.2 k ci refs j = v)
    (kk : mx_Go l R M Z uc us (pc + 3) L (v :: st) h) : mx_Go l R M Z uc us pc L (.ref k :: st) h := by
  intro G p e s m args below meth c H locs ls C hz hW hS hl
  have e9 := mx_k1000 hW hk
  have k9 := kk G p e s m args below meth c H locs ls C hz hW hS hl
  subst hv
  show W p l e R s m args below meth c H locs uc us (Z G below args s) (F0 m pc ls (.ref (mx_ad G k) :: st.map (mx_cv G)))
  rw [e9]
  exact va_get (D := G.1) (ci := ci) C.1 C.2.1 C.wd hin C.own C.K.1 hW.2 k (mx_ws_get hk) hcl j hj (C.wd _ hw) (fun _ q => q) (mx_fs_get (by rw [hN]; exact hj)) hd k9
theorem g_putf {idx k ci j : Nat} {refs : List (Option Nat)} {C0 : String} {T : u_T} {N : Nat} {x : Int32} {ty0 : Nat → FieldType} (hcl : vwCl[ci]? = some (C0, T, N)) (hin : ∀ w ∈ u_ws C0 T N, w ∈ mx_g) (hty : ∀ k, k < N → parseFieldDescriptor (T k).2.2.1 = some (ty0 k)) (hnm : ∀ a, a < N → ∀ b, b < N → a ≠ b → (T a).2.1 ≠ (T b).2.1)
    (hN : mx_N ci = N) (hj : j < N) (hr : mx_isR ci j = false) (hf : (T j).2.2.2 = false) (hn : narrow (ty0 j) (.int x) = .int x) (hfit : fits (ty0 j) (.int x) = true)
    (hd : decode M.2.1 pc = .ok (.putfield idx, 3)) (hw : Cond.fieldLink M.1.cls idx (T j).1 (T j).2.1 (T j).2.2.1 ∈ mx_g) (hk : h.1[k]? = some (.inr (ci, refs)))
    (kk : mx_Go l R M Z uc us (pc + 3) L st (h.1, mx_set h.2 k j x)) : mx_Go l R M Z uc us pc L (.int x :: .ref k :: st) h := by
  intro G p e s m args below meth c H locs ls C hz hW hS hl
  have e9 := mx_k1000 hW hk
  show W p l e R s m args below meth c H locs uc us (Z G below args s) (F0 m pc ls (.int x :: .ref (mx_ad G k) :: st.map (mx_cv G)))
  rw [e9]
  refine va_put (D := G.1) (ci := ci) (v := .int x) (ty := ty0 j) C.1 C.2.1 C.wd hin ty0 hty hnm C.own C.K.1 hW.2 (mx_D G h) hS k (mx_ws_get hk) hcl j hj (C.wd _ hw) (fun _ q => q) hf (hty j hj) hn hfit (by rw [mx_fs_len, hN]; exact hj) hd (fun H1 locs1 hP1 _ hS1 => ?_)
  exact kk G p e s m args below meth c H1 locs1 ls C hz ⟨hW.1, by rw [mx_ws_fld (sk := h.1) (I := h.2) hk (by rw [hN]; exact hj) hr]; exact hP1⟩ hS1 hl
theorem g_putr {idx k ci j r : Nat} {refs : List (Option Nat)} {C0 : String} {T : u_T} {N : Nat} {ty0 : Nat → FieldType} (hcl : vwCl[ci]? = some (C0, T, N)) (hin : ∀ w ∈ u_ws C0 T N, w ∈ mx_g) (hty : ∀ k, k < N → parseFieldDescriptor (T k).2.2.1 = some (ty0 k)) (hnm : ∀ a, a < N → ∀ b, b < N → a ≠ b → (T a).2.1 ≠ (T b).2.1)
    (hN : mx_N ci = N) (hj : j < N) (hr : mx_isR ci j = true) (hf : (T j).2.2.2 = false) (hn : ∀ q, narrow (ty0 j) (.ref q) = .ref q) (hfit : ∀ q, fits (ty0 j) (.ref q) = true)
    (hd : decode M.2.1 pc = .ok (.putfield idx, 3)) (hw : Cond.fieldLink M.1.cls idx (T j).1 (T j).2.1 (T j).2.2.1 ∈ mx_g) (hk : h.1[k]? = some (.inr (ci, refs))) (hl0 : j < refs.length)
    (kk : mx_Go l R M Z uc us (pc + 3) L st (h.1.set k (.inr (ci, refs.set j (some r))), h.2)) : mx_Go l R M Z uc us pc L (.ref r :: .ref k :: st) h := by
  intro G p e s m args below meth c H locs ls C hz hW hS hl
  have e9 := mx_k1000 hW hk
  show W p l e R s m args below meth c H locs uc us (Z G below args s) (F0 m pc ls (.ref (mx_ad G r) :: .ref (mx_ad G k) :: st.map (mx_cv G)))
  rw [e9]
  refine va_put (D := G.1) (ci := ci) (v := .ref (mx_ad G r)) (ty := ty0 j) C.1 C.2.1 C.wd hin ty0 hty hnm C.own C.K.1 hW.2 (mx_D G h) hS k (mx_ws_get hk) hcl j hj (C.wd _ hw) (fun _ q => q) hf (hty j hj) (hn _) (hfit _) (by rw [mx_fs_len, hN]; exact hj) hd (fun H1 locs1 hP1 _ hS1 => ?_)
  exact kk G p e s m args below meth c H1 locs1 ls C (by simpa using hz) ⟨by simpa using hW.1, by rw [mx_ws_ref (sk := h.1) (I := h.2) hk (by rw [hN]; exact hj) hr hl0]; exact hP1⟩ hS1 hl
theorem g_putrF {idx k ci j r : Nat} {refs : List (Option Nat)} {C0 : String} {T : u_T} {N : Nat} {ty0 : Nat → FieldType} (hcl : vwCl[ci]? = some (C0, T, N)) (hin : ∀ w ∈ u_ws C0 T N, w ∈ mx_g) (hty : ∀ k, k < N → parseFieldDescriptor (T k).2.2.1 = some (ty0 k)) (hnm : ∀ a, a < N → ∀ b, b < N → a ≠ b → (T a).2.1 ≠ (T b).2.1)
    (hN : mx_N ci = N) (hj : j < N) (hr : mx_isR ci j = true) (hf : (T j).2.2.2 = true) (hn : ∀ q, narrow (ty0 j) (.ref q) = .ref q) (hfit : ∀ q, fits (ty0 j) (.ref q) = true) (hin2 : M.1.name = "<init>") (hdecl : (T j).1 = M.1.cls)
    (hd : decode M.2.1 pc = .ok (.putfield idx, 3)) (hw : Cond.fieldLink M.1.cls idx (T j).1 (T j).2.1 (T j).2.2.1 ∈ mx_g) (hk : h.1[k]? = some (.inr (ci, refs))) (hl0 : j < refs.length)
    (kk : mx_Go l R M Z uc us (pc + 3) L st (h.1.set k (.inr (ci, refs.set j (some r))), h.2)) : mx_Go l R M Z uc us pc L (.ref r :: .ref k :: st) h := by
  intro G p e s m args below meth c H locs ls C hz hW hS hl
  have e9 := mx_k1000 hW hk
  show W p l e R s m args below meth c H locs uc us (Z G below args s) (F0 m pc ls (.ref (mx_ad G r) :: .ref (mx_ad G k) :: st.map (mx_cv G)))
  rw [e9]
  refine va_putF (D := G.1) (ci := ci) (v := .ref (mx_ad G r)) (ty := ty0 j) C.1 C.2.1 C.wd hin ty0 hty hnm C.own C.K.1 hW.2 (mx_D G h) hS k (mx_ws_get hk) hcl j hj (C.wd _ hw) (fun _ q => q) hf (C.2.2.2.2.2.1 hin2) hdecl (hty j hj) (hn _) (hfit _) (by rw [mx_fs_len, hN]; exact hj) hd (fun H1 locs1 hP1 _ hS1 => ?_)
  exact kk G p e s m args below meth c H1 locs1 ls C (by simpa using hz) ⟨by simpa using hW.1, by rw [mx_ws_ref (sk := h.1) (I := h.2) hk (by rw [hN]; exact hj) hr hl0]; exact hP1⟩ hS1 hl
theorem g_iald {k n : Nat} {i : Int32} (hd : decode M.2.1 pc = .ok (.iaload, 1)) (hk : h.1[k]? = some (.inl n)) (hi : vp_in i n)
    (kk : mx_Go l R M Z uc us (pc + 1) L (.int (h.2 k i.toNatClampNeg) :: st) h) : mx_Go l R M Z uc us pc L (.int i :: .ref k :: st) h := by
  intro G p e s m args below meth c H locs ls C hz hW hS hl
  have e9 := mx_k1000 hW hk
  have k9 := kk G p e s m args below meth c H locs ls C hz hW hS hl
  show W p l e R s m args below meth c H locs uc us (Z G below args s) (F0 m pc ls (.int i :: .ref (mx_ad G k) :: st.map (mx_cv G)))
  rw [e9]
  exact va_iald C.1 C.2.1 C.K.1 hW.2 k 0 (mx_ws_get hk) rfl hi hd k9
theorem g_iast {k n : Nat} {i x : Int32} (hd : decode M.2.1 pc = .ok (.iastore, 1)) (hk : h.1[k]? = some (.inl n)) (hi : vp_in i n)
    (kk : mx_Go l R M Z uc us (pc + 1) L st (h.1, mx_set h.2 k i.toNatClampNeg x)) : mx_Go l R M Z uc us pc L (.int x :: .int i :: .ref k :: st) h := by
  intro G p e s m args below meth c H locs ls C hz hW hS hl
  have e9 := mx_k1000 hW hk
  show W p l e R s m args below meth c H locs uc us (Z G below args s) (F0 m pc ls (.int x :: .int i :: .ref (mx_ad G k) :: st.map (mx_cv G)))
  rw [e9]
  refine va_iast C.1 C.2.1 C.K.1 hW.2 (mx_D G h) hS k 0 (mx_ws_get hk) rfl hi hd (fun H1 locs1 hP1 _ hS1 => ?_)
  exact kk G p e s m args below meth c H1 locs1 ls C hz ⟨hW.1, by unfold mx_set; rw [mx_ws_row (sk := h.1) (I := h.2) hk]; exact hP1⟩ hS1 hl
theorem g_alen {k n : Nat} {v : Int32} (hd : decode M.2.1 pc = .ok (.arraylength, 1)) (hk : h.1[k]? = some (.inl n)) (hv : Int32.ofNat n = v)
    (kk : mx_Go l R M Z uc us (pc + 1) L (.int v :: st) h) : mx_Go l R M Z uc us pc L (.ref k :: st) h := by
  intro G p e s m args below meth c H locs ls C hz hW hS hl
  have e9 := mx_k1000 hW hk
  have k9 := kk G p e s m args below meth c H locs ls C hz hW hS hl
  show W p l e R s m args below meth c H locs uc us (Z G below args s) (F0 m pc ls (.ref (mx_ad G k) :: st.map (mx_cv G)))
  rw [e9]
  exact va_alen (x := (n, .inl (h.2 k))) C.1 C.2.1 C.K.1 hW.2 k 0 (mx_ws_get hk) rfl hv hd k9
theorem g_objInit {idx k : Nat} (hd : decode M.2.1 pc = .ok (.invokespecial idx, 3)) (hw1 : Cond.methodLink M.1.cls idx Lib.objectInit ∈ mx_g) (hw2 : Cond.instanceMethod Lib.objectInit ∈ mx_g) (hw3 : Cond.code Lib.objectInit ⟨#[0xb1]⟩ 1 none ∈ mx_g)
    (hst : (st.map fun v => v.category).sum ≤ 8) (hfr : 1 ≤ R.frames) (hlo : 20 ≤ R.locals)
    (kk : mx_Go l R M Z uc us (pc + 3) L st h) : mx_Go l R M Z uc us pc L (.ref k :: st) h := by
  intro G p e s m args below meth c H locs ls C hz hW hS hl
  have k9 := kk G p e s m args below meth c H locs ls C hz hW hS hl
  have hs9 : ((st.map (mx_cv G)).map fun v => v.category).sum ≤ 8 := by
    rw [List.map_map]
    have : ((fun v : Value => v.category) ∘ mx_cv G) = fun v => v.category := by funext v; exact mx_cv_cat G v
    rw [this]
    exact hst
  have hr9 := lv_room (m := m) (pc := pc) (ls := ls) (rest := (Value.ref (mx_ad G k)) :: st.map (mx_cv G)) hs9
  exact W.objInit C.1 C.2.1 C.own (C.wd _ hw1) (C.wd _ hw2) (C.wd _ hw3) rfl (by rw [C.2.2.1]; exact hl.1) rfl hd hfr (Nat.le_trans (Nat.add_le_add_right hr9 12) hlo) k9
theorem mx_cats (G : mx_G) (st : List Value) : ((st.map (mx_cv G)).map fun v => v.category).sum = (st.map fun v => v.category).sum := by
  rw [List.map_map]
  have : ((fun v : Value => v.category) ∘ mx_cv G) = fun v => v.category := by funext v; exact mx_cv_cat G v
  rw [this]
theorem g_copy {idx k0 k1 n0 n1 : Nat} {sp dp n : Int32} (hd : decode M.2.1 pc = .ok (.invokestatic idx, 3)) (hw1 : Cond.methodLink M.1.cls idx arraycopyName ∈ mx_g) (hw2 : Cond.native arraycopyName ∈ mx_g) (hw3 : Cond.static arraycopyName ∈ mx_g) (hw4 : Cond.initialized "java/lang/System" ∈ mx_g)
    (hk0 : h.1[k0]? = some (.inl n0)) (hk1 : h.1[k1]? = some (.inl n1)) (h1 : ¬ sp < 0) (h2 : ¬ dp < 0) (h3 : ¬ n < 0) (h4 : sp.toNatClampNeg + n.toNatClampNeg ≤ n0) (h5 : dp.toNatClampNeg + n.toNatClampNeg ≤ n1)
    (hst : (st.map fun v => v.category).sum ≤ 8) (hfr : 1 ≤ R.frames) (hlo : 8 + (nativeFrameWords "java/lang/System" "arraycopy" 5 + 11) ≤ R.locals)
    (kk : mx_Go l R M Z uc us (pc + 3) L st (h.1, mx_row h.2 k1 (va_cpy (h.2 k0) (h.2 k1) sp.toNatClampNeg dp.toNatClampNeg n.toNatClampNeg))) : mx_Go l R M Z uc us pc L (.int n :: .int dp :: .ref k1 :: .int sp :: .ref k0 :: st) h := by
  intro G p e s m args below meth c H locs ls C hz hW hS hl
  have e0 := mx_k1000 hW hk0
  have e1 := mx_k1000 hW hk1
  show W p l e R s m args below meth c H locs uc us (Z G below args s) (F0 m pc ls (.int n :: .int dp :: .ref (mx_ad G k1) :: .int sp :: .ref (mx_ad G k0) :: st.map (mx_cv G)))
  rw [e0, e1]
  refine va_copyi C.1 C.2.1 (by rw [C.2.2.1]; exact hl.1.symm) C.own (C.wd _ hw1) (C.wd _ hw2) (C.wd _ hw3) (C.wd _ hw4) C.K.1 hW.2 (mx_D G h) hS k0 k1 0 0 (ty := .int) (mx_ws_get hk0) (mx_ws_get hk1) rfl rfl rfl h1 h2 h3 h4 h5 (fun _ _ => rfl) hfr (by rw [mx_cats]; omega) hd (fun H1 locs1 hP1 _ hS1 => ?_)
  exact kk G p e s m args below meth c H1 locs1 ls C hz ⟨hW.1, by rw [mx_ws_row (sk := h.1) (I := h.2) hk1]; exact hP1⟩ hS1 hl
end HEAPRULES
section CALLRULES
variable {l : Launch} {R : Room} {M : mx_M} {Z : mx_G → List Frame → Array Value → State → State → Prop} {uc us pc : Nat} {L st : List Value} {h : mx_H}
theorem mx_blind (G : mx_G) (As : List Value) (h : mx_H) : FrameBlind (mx_Pc G As h) := by
  intro a U g mk q
  obtain ⟨q1, q2, q3, q4⟩ := q
  exact ⟨q1, mx_K.to (s := U) (U := U.calling g mk a) q2 (State.WarmedH.refl U) (Nat.le_refl _) (fun _ _ _ => rfl), q3, q4⟩
theorem mx_goodIn {ws : List Cond} (h : ∀ w ∈ ws, w ∈ mx_g) : GoodIn mx_g ws := fun w hw => ⟨h w hw, mx_g_good (h w hw)⟩
theorem mx_wsM_in {M' : mx_M} {n : Nat} (hM : mx_ok M' n) : ∀ w ∈ mx_wsM M', w ∈ mx_g := by
  intro w hw
  rcases List.mem_cons.mp hw with rfl | hw
  · exact hM.1
  · exact hw
/-- behind a call -/
theorem mx_after {G : mx_G} {p : Program} {e : Env} {s : State} {m : MethodId} {args : Array Value} {below : List Frame} {meth : Method} {c : Code} {H : Heap} {locs : List Loc} {ls : Array Slot} {nc' ns' : Nat} {st0 : List Value} {Q' : Option Value → mx_H → Prop} {a : Array Value}
    (C : mx_C M G p s m args meth c) (hz : s.heap.size + uc = G.2.2.1 + h.1.length) (hW : mx_W G h H) (hS : va_S (mx_A G) s.heap H locs) (hl : lv_has ls M.2.2.1 (mx_la (L.map (mx_cv G))))
    (hr : s.heap.size ≤ H.size → H.size = G.2.2.1 + h.1.length → va_Run p l e R s m args below meth c H locs uc us nc' ns' (F0 m pc ls st0) (st.map (mx_cv G)) (mx_Qc G Q' nc' a) (mx_A G))
    (kk : ∀ r h', Q' r h' → mx_Go l R M Z (uc + nc') (us + ns') (pc + 3) L (r.toList ++ st) h') :
    W p l e R s m args below meth c H locs uc us (Z G below args s) (F0 m pc ls st0) := by
  intro T hT X
  have hsz := mx_size X hT C.K.2.2.2.1 hz hW hS.1
  obtain ⟨v, st₀, t, T', L', h0, X', hL, e1, e2, ⟨⟨r, h', hv, hq, hW', hz'⟩, hF⟩, go⟩ := hr hS.1 hsz T hT X
  have hv' : v = r.map (mx_cv G) := by injection hv
  subst hv'
  have hF1 := hF.1
  have hF2 := hF.2
  rw [h0] at hz' hF1 hF2
  have hS' : va_S (mx_A G) s.heap T'.heap (locs ++ L') := ⟨Nat.le_trans hS.1 (by rw [e1]; exact hF1), fun q q1 q2 => by rw [e1, hF2 q (Nat.lt_of_lt_of_le q1 hS.1) q2]; exact hS.2.1 q q1 q2, fun q hq => by
      rcases List.mem_append.mp hq with g1 | g1
      · exact hS.2.2 q g1
      · exact hL q g1⟩
  obtain ⟨t2, a1, b1⟩ := kk r h' hq G p e s m args below meth c T'.heap (locs ++ L') ls C (by omega) (by rw [e1]; exact hW') hS' hl T' rfl X'
  refine ⟨t2, go t2 ?_, b1⟩
  have e3 : (r.map (mx_cv G)).toList ++ st.map (mx_cv G) = (r.toList ++ st).map (mx_cv G) := by cases r <;> rfl
  show Steps p.tables e below (T'.setTop (F0 m (pc + 3) ls ((r.map (mx_cv G)).toList ++ st.map (mx_cv G)))) t2
  rw [e3]
  exact a1
theorem mx_pre {G : mx_G} {p : Program} {s : State} {m : MethodId} {args : Array Value} {meth : Method} {c : Code} {H : Heap} {locs : List Loc} (C : mx_C M G p s m args meth c) (hW : mx_W G h H) (hS : va_S (mx_A G) s.heap H locs) (hsz : H.size = G.2.2.1 + h.1.length) (As : List Value) :
    ∀ U : State, U.heap = H → s.WarmedH U.vm → mx_Pc G As h (As.map (mx_cv G)).toArray U := by
  intro U hU hW9
  exact ⟨rfl, mx_K.to C.K hW9 (by rw [hU]; exact hS.1) (fun a q1 q2 => by rw [hU]; exact hS.2.1 a q1 q2), by rw [hU]; exact hW, by rw [hU]; exact hsz⟩
theorem g_callV {M' : mx_M} {idx k ci d nc' ns' : Nat} {refs : List (Option Nat)} {q : vw_C} {As : List Value} {Q' : Option Value → mx_H → Prop} (S : mx_Spec l M' d nc' ns' (.ref k :: As) h Q') (hd : decode M.2.1 pc = .ok (.invokevirtual idx, 3)) (hw : Cond.methodLink M.1.cls idx M'.1 ∈ mx_g) (hM : mx_okV M' As.length) (hk : h.1[k]? = some (.inr (ci, refs))) (hcl : vwCl[ci]? = some q) (hq : M'.1.cls = q.1)
    (hst : (st.map fun v => v.category).sum ≤ 8) (hfr : d + 3 ≤ R.frames) (hlo : 8 + (M'.2.2.1 + 11) + (64 * d + 200) ≤ R.locals) (hce : uc + nc' ≤ R.cells) (hsl : us + ns' ≤ R.slots)
    (kk : ∀ r h', Q' r h' → mx_Go l R M Z (uc + nc') (us + ns') (pc + 3) L (r.toList ++ st) h') : mx_Go l R M Z uc us pc L (As.reverse ++ .ref k :: st) h := by
  intro G p e s m args below meth c H locs ls C hz hW hS hl
  have e9 := mx_k1000 hW hk
  have es : (As.reverse ++ .ref k :: st).map (mx_cv G) = (As.map (mx_cv G)).reverse ++ .ref (G.2.2.1 + k) :: st.map (mx_cv G) := by
    simp [mx_cv, e9]
  rw [es]
  refine mx_after (a := (Value.ref (G.2.2.1 + k) :: As.map (mx_cv G)).toArray) C hz hW hS hl (fun _ hsz => ?_) kk
  refine va_runV (C := q.1) (bytes := M'.2.1) (maxL := M'.2.2.1) (ret := M'.2.2.2) (n := As.length) (Ts := mx_g) (own := M.1.cls) (nL := M.2.2.1) (As := As.map (mx_cv G)) (rest := st.map (mx_cv G)) (b := G.2.2.1 + k) ⟨C.1, C.2.1, C.2.2.1, C.own, C.wd⟩ (S G) (cwV As.length C.wd (mx_goodIn ?_) rfl rfl rfl ⟨hq, hM.1.2.2⟩ ⟨hfr, hlo⟩) ⟨mx_blind _ _ _, ?_, ?_⟩ rfl (by simp) hl.1 rfl (lv_room (by rw [mx_cats]; exact hst)) hd ⟨hce, hsl⟩
  · intro w hw9
    unfold wsV at hw9
    rcases List.mem_append.mp hw9 with h9 | h9
    · simp only [List.mem_cons, List.not_mem_nil, or_false] at h9
      rcases h9 with rfl | rfl | rfl | rfl
      · exact hw
      · exact hM.2.1
      · rw [← hq]; exact hM.2.2
      · rw [← hq]; exact hM.1.2.1
    · exact mx_wsM_in hM.1 w h9
  · exact va_recv C.K.1 hW.2 hcl (mx_ws_get hk)
  · intro U hU hW9
    have h9 := mx_pre (M := M) C hW hS hsz (.ref k :: As) U hU hW9
    simpa [mx_cv, e9] using h9
theorem g_callS {M' : mx_M} {idx d nc' ns' : Nat} {As : List Value} {Q' : Option Value → mx_H → Prop} (S : mx_Spec l M' d nc' ns' As h Q') (hd : decode M.2.1 pc = .ok (.invokestatic idx, 3)) (hw : Cond.methodLink M.1.cls idx M'.1 ∈ mx_g) (hM : mx_ok M' As.length) (hM2 : Cond.static M'.1 ∈ mx_g)
    (hst : (st.map fun v => v.category).sum ≤ 8) (hfr : d + 3 ≤ R.frames) (hlo : 8 + (M'.2.2.1 + 11) + (64 * d + 200) ≤ R.locals) (hce : uc + nc' ≤ R.cells) (hsl : us + ns' ≤ R.slots)
    (kk : ∀ r h', Q' r h' → mx_Go l R M Z (uc + nc') (us + ns') (pc + 3) L (r.toList ++ st) h') : mx_Go l R M Z uc us pc L (As.reverse ++ st) h := by
  intro G p e s m args below meth c H locs ls C hz hW hS hl
  have es : (As.reverse ++ st).map (mx_cv G) = (As.map (mx_cv G)).reverse ++ st.map (mx_cv G) := by simp
  rw [es]
  refine mx_after (a := (As.map (mx_cv G)).toArray) C hz hW hS hl (fun _ hsz => ?_) kk
  refine va_runS (bytes := M'.2.1) (maxL := M'.2.2.1) (ret := M'.2.2.2) (n := As.length) (Ts := mx_g) (own := M.1.cls) (nL := M.2.2.1) (As := As.map (mx_cv G)) (rest := st.map (mx_cv G)) ⟨C.1, C.2.1, C.2.2.1, C.own, C.wd⟩ (S G) (va_cwS As.length C.wd (mx_goodIn ?_) rfl rfl rfl hM.2.2 ⟨hfr, hlo⟩) ⟨mx_blind _ _ _, mx_pre (M := M) C hW hS hsz As⟩ rfl (by simp) hl.1 rfl (lv_room (by rw [mx_cats]; exact hst)) hd ⟨hce, hsl⟩
  intro w hw9
  unfold va_wsS at hw9
  rcases List.mem_append.mp hw9 with h9 | h9
  · simp only [List.mem_cons, List.not_mem_nil, or_false] at h9
    rcases h9 with rfl | rfl | rfl
    · exact hw
    · exact hM2
    · exact hM.2.1
  · exact mx_wsM_in hM w h9
end CALLRULES
section ENDS
variable {l : Launch} {R : Room} {M : mx_M} {uc us pc nc ns : Nat} {L : List Value} {h : mx_H} {Q : Option Value → mx_H → Prop}
theorem g_iret {v : Int32} (hr : M.2.2.2 = some .int) (hd : decode M.2.1 pc = .ok (.ireturn, 1)) (huc : uc = nc) (hus : us ≤ ns) (q : Q (some (.int v)) h) : mx_Go l R M (mx_Z Q nc ns) uc us pc L [.int v] h := by
  intro G p e s m args below meth c H locs ls C hz hW hS hl
  subst huc
  refine W.widen (Nat.le_refl uc) hus ?_
  exact W.iret C.1 C.2.1 (C.2.2.2.1.trans hr) (fun t ht hW9 => ⟨⟨some (.int v), h, rfl, q, by rw [ht]; exact hW, hz⟩, hS.F ht⟩) hS.2.2 hd C.2.2.2.2.1
theorem g_zret {v : Int32} {ty : FieldType} (hr : M.2.2.2 = some ty) (hn : narrow ty (.int v) = .int v) (hd : decode M.2.1 pc = .ok (.ireturn, 1)) (huc : uc = nc) (hus : us ≤ ns) (q : Q (some (.int v)) h) : mx_Go l R M (mx_Z Q nc ns) uc us pc L [.int v] h := by
  intro G p e s m args below meth c H locs ls C hz hW hS hl
  subst huc
  refine W.widen (Nat.le_refl uc) hus ?_
  exact W.zret C.1 C.2.1 (C.2.2.2.1.trans hr) hn (fun t ht hW9 => ⟨⟨some (.int v), h, rfl, q, by rw [ht]; exact hW, hz⟩, hS.F ht⟩) hS.2.2 hd C.2.2.2.2.1
theorem g_lret {v : Int64} (hr : M.2.2.2 = some .long) (hd : decode M.2.1 pc = .ok (.lreturn, 1)) (huc : uc = nc) (hus : us ≤ ns) (q : Q (some (.long v)) h) : mx_Go l R M (mx_Z Q nc ns) uc us pc L [.long v] h := by
  intro G p e s m args below meth c H locs ls C hz hW hS hl
  subst huc
  refine W.widen (Nat.le_refl uc) hus ?_
  exact W.lret C.1 C.2.1 (C.2.2.2.1.trans hr) (fun t ht hW9 => ⟨⟨some (.long v), h, rfl, q, by rw [ht]; exact hW, hz⟩, hS.F ht⟩) hS.2.2 hd C.2.2.2.2.1
theorem g_vret (hr : M.2.2.2 = none) (hd : decode M.2.1 pc = .ok (.return_, 1)) (huc : uc = nc) (hus : us ≤ ns) (q : Q none h) : mx_Go l R M (mx_Z Q nc ns) uc us pc L [] h := by
  intro G p e s m args below meth c H locs ls C hz hW hS hl
  subst huc
  refine W.widen (Nat.le_refl uc) hus ?_
  exact W.vret C.1 C.2.1 (C.2.2.2.1.trans hr) (fun t ht hW9 => ⟨⟨none, h, rfl, q, by rw [ht]; exact hW, hz⟩, hS.F ht⟩) hS.2.2 hd C.2.2.2.2.1
theorem g_aret {k : Nat} {rt : FieldType} (hr : M.2.2.2 = some rt) (hrt : (∃ n, rt = .object n) ∨ ∃ t, rt = .array t) (hd : decode M.2.1 pc = .ok (.areturn, 1)) (huc : uc = nc) (hus : us ≤ ns) (q : Q (some (.ref k)) h) : mx_Go l R M (mx_Z Q nc ns) uc us pc L [.ref k] h := by
  intro G p e s m args below meth c H locs ls C hz hW hS hl
  subst huc
  refine W.widen (Nat.le_refl uc) hus ?_
  exact W.aret (v := .ref (mx_ad G k)) C.1 C.2.1 (C.2.2.2.1.trans hr) hrt (Or.inr ⟨_, rfl⟩) (fun t ht hW9 => ⟨⟨some (.ref k), h, rfl, q, by rw [ht]; exact hW, hz⟩, hS.F ht⟩) hS.2.2 hd C.2.2.2.2.1
end ENDS
theorem mx_args {As : List Value} (h : ∀ v ∈ As, v.category = 1) : ∀ i : Nat, lv_args i As = (As.zipIdx i).map (fun q => (q.2, q.1)) := by
  induction As with
  | nil => intro i; rfl
  | cons v vs ih =>
    intro i
    have h1 : v.category = 1 := h v List.mem_cons_self
    simp only [lv_args, h1, List.zipIdx_cons, List.map_cons]
    rw [if_neg (by decide), ih (fun w hw => h w (List.mem_cons_of_mem _ hw)) (i + 1)]
theorem mx_sl {As : List Value} (h : ∀ v ∈ As, v.category = 1) : (lg_sl As).length = As.length := by
  induction As with
  | nil => rfl
  | cons v vs ih =>
    have h1 : v.category = 1 := h v List.mem_cons_self
    have h2 := ih (fun w hw => h w (List.mem_cons_of_mem _ hw))
    show ((if v.category = 2 then [Slot.val v, Slot.second] else [Slot.val v]) ++ lg_sl vs).length = _
    rw [List.length_append, h2, h1]
    simp [Nat.add_comm]
/-- a method's contract out of the walk of its body -/
theorem mx_enter {l : Launch} {M : mx_M} {d nc ns : Nat} {As : List Value} {h : mx_H} {Q : Option Value → mx_H → Prop} (hp : plainName M.1.cls = true) (hc : ∀ v ∈ As, v.category = 1) (hn : As.length ≤ M.2.2.1)
    (k : mx_Go l (mx_rm d nc ns) M (mx_Z Q nc ns) 0 0 0 (As ++ List.replicate (M.2.2.1 - As.length) (.retAddr 0)) [] h) : mx_Spec l M d nc ns As h Q := by
  intro G
  refine Met.ofW (cc := M.2.1) (maxL := M.2.2.1) (ret := M.2.2.2) hp rfl ?_
  intro p e s m args below meth c s₁ B hml hv
  obtain ⟨rfl, hK, hW, hsz⟩ := hv
  have hcm : ∀ v ∈ As.map (mx_cv G), v.category = 1 := by
    intro v hv
    obtain ⟨w, hw, rfl⟩ := List.mem_map.mp hv
    rw [mx_cv_cat]
    exact hc w hw
  have hl := lv_entry (As.map (mx_cv G)) (n := M.2.2.1) (by rw [mx_sl hcm]; simpa using hn)
  rw [lg_entry_eq]
  generalize (lg_sl (As.map (mx_cv G)) ++ List.replicate (M.2.2.1 - (lg_sl (As.map (mx_cv G))).length) Slot.unset).toArray = ls at hl ⊢
  have hts := atoms_spec (ws := mx_wsM M) B.pre
  refine k G p e s m _ below meth c s.heap [] ls ⟨B.exec, B.bytes, hml, B.returns, B.notSynchronized, fun hn => (name_of_methodNamed B.named B.method).1.trans hn, findClass_of_methodNamed B.named, fun w hw => hts w (List.mem_cons_of_mem _ hw), hK⟩ hsz hW va_S.rf ?_
  refine mx_lv_mono hl fun q hq => ?_
  obtain ⟨j, w⟩ := q
  obtain ⟨h1, h2⟩ := mx_la_mem.mp hq
  rw [mx_args hcm]
  refine List.mem_map.mpr ⟨(w, j), List.mk_mem_zipIdx_iff_getElem?.mpr ?_, rfl⟩
  rw [List.map_append] at h1
  by_cases hj : j < (As.map (mx_cv G)).length
  · rw [List.getElem?_append_left hj] at h1
    exact h1
  · rw [List.getElem?_append_right (by omega)] at h1
    simp only [List.map_replicate] at h1
    have h3 := List.mem_of_getElem? h1
    have h4 := List.eq_of_mem_replicate h3
    exact absurd h4 h2
