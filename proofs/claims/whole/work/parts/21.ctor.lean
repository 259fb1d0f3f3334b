/-! making: a new object, a new row of ints, calls of constructors -/
def mx_zero (I : mx_I) (k : Nat) : mx_I := mx_row I k (fun _ => 0)
theorem mx_ws_lt {G : mx_G} {sk : mx_Sk} {I : mx_I} {x : Nat ⊕ (Nat × List (Option Nat))} {k : Nat} (h : k < sk.length) : (mx_ws G (sk ++ [x], mx_zero I sk.length))[k]? = (mx_ws G (sk, I))[k]? := by
  simp only [mx_ws, List.getElem?_mapIdx]
  rw [List.getElem?_append_left h]
  cases sk[k]? with
  | none => rfl
  | some c => simp [mx_zero, mx_cell_ne (Nat.ne_of_lt h)]
theorem mx_ws_new {G : mx_G} {sk : mx_Sk} {I : mx_I} {x : Nat ⊕ (Nat × List (Option Nat))} {H H' : Heap} (hP : va_P G.1 vwCl (mx_ws G (sk, I)) H) (ho : ∀ q, q < G.2.2.1 + sk.length → H'[q]? = H[q]?) (hn : va_at G.1 vwCl (G.2.2.1 + sk.length, mx_cell G (mx_zero I sk.length) sk.length x) H') : va_P G.1 vwCl (mx_ws G (sk ++ [x], mx_zero I sk.length)) H' := by
  intro k q hk
  have hi := mx_ws_inv hk
  have hl : k < sk.length + 1 := by simpa using hi.2
  by_cases hlt : k < sk.length
  · rw [mx_ws_lt hlt] at hk
    exact (hP k q hk).kept (ho q.1 (by rw [hi.1]; omega))
  · have e : k = sk.length := by omega
    subst e
    rw [mx_ws_get (h := (sk ++ [x], mx_zero I sk.length)) (c := x) (by simp)] at hk
    cases hk
    exact hn
theorem mx_sized {p : Program} {l : Launch} {e : Env} {R : Room} {s : State} {m : MethodId} {args : Array Value} {below : List Frame} {meth : Method} {c : Code} {locs : List Loc} {uc us : Nat} {G : mx_G} {h : mx_H} {H : Heap} {Q : State → Prop} {g : JFrame} (hb : G.2.2.1 ≤ s.heap.size) (hz : s.heap.size + uc = G.2.2.1 + h.1.length) (hW : mx_W G h H) (hS : s.heap.size ≤ H.size)
    (k : H.size = G.2.2.1 + h.1.length → W p l e R s m args below meth c H locs uc us Q g) : W p l e R s m args below meth c H locs uc us Q g := fun T hT X => k (mx_size X hT hb hz hW hS) T hT X
section CTOR
variable {l : Launch} {R : Room} {M : mx_M} {Z : mx_G → List Frame → Array Value → State → State → Prop} {uc us pc : Nat} {L st : List Value} {sk : mx_Sk} {I : mx_I}
theorem g_newa {n : Int32} {N n0 : Nat} (hd : decode M.2.1 pc = .ok (.newarray .int, 2)) (hn : ¬ n < 0) (hN : n.toNatClampNeg = N) (hN2 : N ≤ 10000) (hl0 : sk.length = n0) (hlen : n0 < 1000) (hce : uc + 1 ≤ R.cells) (hsl : us + N ≤ R.slots)
    (kk : mx_Go l R M Z (uc + 1) (us + N) (pc + 2) L (.ref n0 :: st) (sk ++ [.inl N], mx_zero I n0)) : mx_Go l R M Z uc us pc L (.int n :: st) (sk, I) := by
  subst hl0
  intro G p e s m args below meth c H locs ls C hz hW hS hl
  refine mx_sized C.K.2.2.2.1 hz hW hS.1 (fun hsz => ?_)
  simp only at hsz
  refine va_newaK (atype := .int) C.1 C.2.1 (C.wd _ la_3) rfl hd rfl hn hN (by show N * 4 ≤ 536870912; omega) hce hsl hsz (fun H' cA e1 z1 o1 hAr hNm => ?_)
  have hcA : cA = G.2.1 := by
    have h1 : s.vm.findClass ("[" ++ FieldType.int.toString) = some G.2.1 := (C.K.1.2 0 (G.2.1, .int) rfl).2
    exact Option.some.inj (hNm.symm.trans h1)
  subst hcA
  have hS' : va_S (mx_A G) s.heap H' locs := ⟨Nat.le_trans hS.1 (by rw [z1, hsz]; omega), fun q q1 q2 => by rw [o1 q (by rw [← hsz]; exact Nat.lt_of_lt_of_le q1 hS.1)]; exact hS.2.1 q q1 q2, hS.2.2⟩
  have k9 := kk G p e s m args below meth c H' locs ls C (by simp; simp only at hz; omega) ⟨by simp; omega, mx_ws_new hW.2 (fun q q1 => o1 q q1) ?_⟩ hS' hl
  · have e9 : mx_ad G sk.length = G.2.2.1 + sk.length := mx_ad_lt hlen
    simp only [List.map_cons, mx_cv, e9] at k9
    exact k9
  · show H'[G.2.2.1 + sk.length]? = some (vp_cell _ _)
    rw [e1, vp_cell_i]
    simp only [mx_zero, mx_row_self]
    rfl
theorem g_new {idx ci n0 : Nat} {C0 : String} {T0 : u_T} {N : Nat} {ty0 : Nat → FieldType} (hcl : vwCl[ci]? = some (C0, T0, N)) (hin : ∀ w ∈ u_ws C0 T0 N, w ∈ mx_g) (hty : ∀ k, k < N → parseFieldDescriptor (T0 k).2.2.1 = some (ty0 k)) (hN : mx_N ci = N) (hdef : ∀ j, j < N → defaultValue (ty0 j) = if mx_isR ci j = true then .null else .int 0)
    (hd : decode M.2.1 pc = .ok (.new idx, 3)) (hw : Cond.classLink M.1.cls idx C0 ∈ mx_g) (hw2 : Cond.instantiable C0 N ∈ mx_g) (hw3 : Cond.initialized C0 ∈ mx_g) (hl0 : sk.length = n0) (hlen : n0 < 1000) (hce : uc + 1 ≤ R.cells) (hsl : us + N ≤ R.slots)
    (kk : mx_Go l R M Z (uc + 1) (us + N) (pc + 3) L (.ref n0 :: st) (sk ++ [.inr (ci, List.replicate N none)], mx_zero I n0)) : mx_Go l R M Z uc us pc L st (sk, I) := by
  subst hl0
  intro G p e s m args below meth c H locs ls C hz hW hS hl
  refine mx_sized C.K.2.2.2.1 hz hW hS.1 (fun hsz => ?_)
  simp only at hsz
  have hKn := C.K.1.1 ci _ hcl
  refine W.newcK C.1 C.2.1 C.own (C.wd _ hw) (C.wd _ hw2) (C.wd _ hw3) rfl hd hce hsl hKn.2.1 hsz (fun H' kC hkC e1 z1 o1 => ?_)
  have hS' : va_S (mx_A G) s.heap H' locs := ⟨Nat.le_trans hS.1 (by rw [z1, hsz]; omega), fun q q1 q2 => by rw [o1 q (by rw [← hsz]; exact Nat.lt_of_lt_of_le q1 hS.1)]; exact hS.2.1 q q1 q2, hS.2.2⟩
  have k9 := kk G p e s m args below meth c H' locs ls C (by simp; simp only at hz; omega) ⟨by simp; omega, mx_ws_new hW.2 (fun q q1 => o1 q q1) ?_⟩ hS' hl
  · have e9 : mx_ad G sk.length = G.2.2.1 + sk.length := mx_ad_lt hlen
    simp only [List.map_cons, mx_cv, e9] at k9
    exact k9
  · refine ⟨_, hcl, (u_born ty0 C.wd hin hKn hkC e1 hty).to (fun j hj => ?_)⟩
    simp only [vp_V]
    rw [List.getD_eq_getElem?_getD, mx_fs_get (by rw [hN]; exact hj)]
    rw [hdef j hj]
    by_cases hr : mx_isR ci j = true
    · have e2 : (List.replicate N (none : Option Nat)).getD j none = none := by
        rw [List.getD_eq_getElem?_getD, List.getElem?_replicate]
        split <;> rfl
      simp only [mx_fv, hr, if_true, e2, mx_rv]
      rfl
    · simp only [mx_fv, hr]
      simp [mx_zero, mx_row_self, mx_cv]
theorem g_callI {M' : mx_M} {idx k d nc' ns' : Nat} {As : List Value} {h : mx_H} {Q' : Option Value → mx_H → Prop} {S : List Value} (Sp : mx_Spec l M' d nc' ns' (.ref k :: As) h Q') (hd : decode M.2.1 pc = .ok (.invokespecial idx, 3)) (hw : Cond.methodLink M.1.cls idx M'.1 ∈ mx_g) (hM : mx_ok M' As.length) (hMi : Cond.instanceMethod M'.1 ∈ mx_g) (hnm : M'.1.name = "<init>") (hr : M'.2.2.2 = none) (hk : k < 1000)
    (hst : (st.map fun v => v.category).sum ≤ 8) (hfr : d + 3 ≤ R.frames) (hlo : 8 + (M'.2.2.1 + 11) + (64 * d + 200) ≤ R.locals) (hce : uc + nc' ≤ R.cells) (hsl : us + ns' ≤ R.slots) (hS0 : As.reverse ++ .ref k :: st = S)
    (kk : ∀ r h', Q' r h' → mx_Go l R M Z (uc + nc') (us + ns') (pc + 3) L (r.toList ++ st) h') : mx_Go l R M Z uc us pc L S h := by
  subst hS0
  intro G p e s m args below meth c H locs ls C hz hW hS hl
  have e9 : mx_ad G k = G.2.2.1 + k := mx_ad_lt hk
  have es : (As.reverse ++ .ref k :: st).map (mx_cv G) = (As.map (mx_cv G)).reverse ++ .ref (G.2.2.1 + k) :: st.map (mx_cv G) := by
    simp [mx_cv, e9]
  rw [es]
  refine mx_after (a := (Value.ref (G.2.2.1 + k) :: As.map (mx_cv G)).toArray) C hz hW hS hl (fun _ hsz => ?_) kk
  obtain ⟨y, bytes, maxL, ret⟩ := M'
  simp only at hr
  subst hr
  refine va_runI (bytes := bytes) (maxL := maxL) (n := As.length) (Ts := mx_g) (own := M.1.cls) (nL := M.2.2.1) (As := As.map (mx_cv G)) (rest := st.map (mx_cv G)) (b := G.2.2.1 + k) ⟨C.1, C.2.1, C.2.2.1, C.own, C.wd⟩ (Sp G) (cwI As.length C.wd (mx_goodIn (mx_wsM_in hM)) rfl rfl rfl (C.wd _ hM.2.1) (C.wd _ hw) (C.wd _ hMi) hnm hM.2.2 ⟨hfr, hlo⟩) ⟨mx_blind _ _ _, ?_⟩ rfl (by simp) hl.1 rfl (lv_room (by rw [mx_cats]; exact hst)) hd ⟨hce, hsl⟩
  intro U hU hW9
  have h9 := mx_pre (M := M) C hW hS hsz (.ref k :: As) U hU hW9
  simpa [mx_cv, e9] using h9
theorem g_callIN {M' : mx_M} {idx k d nc' ns' : Nat} {As : List Value} {h : mx_H} {Q' : Option Value → mx_H → Prop} {S : List Value} (Sp : mx_Spec l M' d nc' ns' (.ref k :: As) h Q') (hd : decode M.2.1 pc = .ok (.invokespecial idx, 3)) (hw : (M.1.cls, idx, M'.1) ∈ mx_nest) (hM : mx_ok M' As.length) (hMi : Cond.instanceMethod M'.1 ∈ mx_g) (hnm : M'.1.name = "<init>") (hr : M'.2.2.2 = none) (hk : k < 1000)
    (hst : (st.map fun v => v.category).sum ≤ 8) (hfr : d + 3 ≤ R.frames) (hlo : 8 + (M'.2.2.1 + 11) + (64 * d + 200) ≤ R.locals) (hce : uc + nc' ≤ R.cells) (hsl : us + ns' ≤ R.slots) (hS0 : As.reverse ++ .ref k :: st = S)
    (kk : ∀ r h', Q' r h' → mx_Go l R M Z (uc + nc') (us + ns') (pc + 3) L (r.toList ++ st) h') : mx_Go l R M Z uc us pc L S h := by
  subst hS0
  intro G p e s m args below meth c H locs ls C hz hW hS hl
  have e9 : mx_ad G k = G.2.2.1 + k := mx_ad_lt hk
  have es : (As.reverse ++ .ref k :: st).map (mx_cv G) = (As.map (mx_cv G)).reverse ++ .ref (G.2.2.1 + k) :: st.map (mx_cv G) := by
    simp [mx_cv, e9]
  rw [es]
  refine mx_after (a := (Value.ref (G.2.2.1 + k) :: As.map (mx_cv G)).toArray) C hz hW hS hl (fun _ hsz => ?_) kk
  obtain ⟨y, bytes, maxL, ret⟩ := M'
  simp only at hr
  subst hr
  have hnw : va_Nw (.methodLinkNest M.1.cls idx y "TakeOver") s := C.K.2.2.2.2.2.2.1 _ hw
  refine va_runIN (host := "TakeOver") (bytes := bytes) (maxL := maxL) (n := As.length) (Ts := mx_g) (own := M.1.cls) (nL := M.2.2.1) (As := As.map (mx_cv G)) (rest := st.map (mx_cv G)) (b := G.2.2.1 + k) ⟨C.1, C.2.1, C.2.2.1, C.own, C.wd⟩ (Sp G) ⟨va_cnB As.length C.wd (mx_goodIn (mx_wsM_in hM)) rfl rfl rfl hnw (C.wd _ hM.2.1) hM.2.2 ⟨hfr, hlo⟩, hnm, C.wd _ hMi⟩ ⟨mx_blind _ _ _, ?_⟩ rfl (by simp) hl.1 rfl (lv_room (by rw [mx_cats]; exact hst)) hd ⟨hce, hsl⟩
  intro U hU hW9
  have h9 := mx_pre (M := M) C hW hS hsz (.ref k :: As) U hU hW9
  simpa [mx_cv, e9] using h9
def mx_S (L0 : Nat) (xs : Nat → Int32) (Z0 : mx_G → List Frame → Array Value → State → State → Prop) : mx_G → List Frame → Array Value → State → State → Prop := fun G below args s t => (G.2.2.2.2.1 = L0 ∧ G.2.2.2.2.2 = xs) → Z0 G below args s t
theorem mx_triv {p : Program} {e : Env} {s : State} {m : MethodId} {args : Array Value} {below : List Frame} {meth : Method} {c : Code} {H : Heap} {locs : List Loc} {g : JFrame} {P : Prop} {Q : State → Prop} (h : ¬ P) : W p l e R s m args below meth c H locs uc us (fun t => P → Q t) g := fun _ _ _ => ⟨_, Steps.refl _, fun q => absurd q h⟩
theorem g_sld {i : Int32} {L0 : Nat} {xs : Nat → Int32} {h : mx_H} (hd : decode M.2.1 pc = .ok (.iaload, 1)) (hi : vp_in i L0)
    (kk : mx_Go l R M (mx_S L0 xs Z) uc us (pc + 1) L (.int (xs i.toNatClampNeg) :: st) h) : mx_Go l R M (mx_S L0 xs Z) uc us pc L (.int i :: .ref 1000 :: st) h := by
  intro G p e s m args below meth c H locs ls C hz hW hS hl
  by_cases hG : G.2.2.2.2.1 = L0 ∧ G.2.2.2.2.2 = xs
  · have k9 := kk G p e s m args below meth c H locs ls C hz hW hS hl
    have e9 : mx_ad G 1000 = G.2.2.2.1 1000 := by unfold mx_ad; rw [if_neg (by decide)]
    show W p l e R s m args below meth c H locs uc us (mx_S L0 xs Z G below args s) (F0 m pc ls (.int i :: .ref (mx_ad G 1000) :: st.map (mx_cv G)))
    rw [e9]
    refine va_sld C.1 C.2.1 C.K.2.1 (Nat.lt_of_lt_of_le C.K.2.2.1 C.K.2.2.2.1) (fun (z : G.2.2.1 ≤ _) => Nat.not_lt.mpr z C.K.2.2.1) hS (by rw [hG.1]; exact hi) hd ?_
    rw [hG.2]
    exact k9
  · exact mx_triv hG
theorem g_slen {L0 : Nat} {xs : Nat → Int32} {h : mx_H} (hd : decode M.2.1 pc = .ok (.arraylength, 1))
    (kk : mx_Go l R M (mx_S L0 xs Z) uc us (pc + 1) L (.int (Int32.ofNat L0) :: st) h) : mx_Go l R M (mx_S L0 xs Z) uc us pc L (.ref 1000 :: st) h := by
  intro G p e s m args below meth c H locs ls C hz hW hS hl
  by_cases hG : G.2.2.2.2.1 = L0 ∧ G.2.2.2.2.2 = xs
  · have k9 := kk G p e s m args below meth c H locs ls C hz hW hS hl
    have e9 : mx_ad G 1000 = G.2.2.2.1 1000 := by unfold mx_ad; rw [if_neg (by decide)]
    show W p l e R s m args below meth c H locs uc us (mx_S L0 xs Z G below args s) (F0 m pc ls (.ref (mx_ad G 1000) :: st.map (mx_cv G)))
    rw [e9]
    refine va_slen C.1 C.2.1 C.K.2.1 (Nat.lt_of_lt_of_le C.K.2.2.1 C.K.2.2.2.1) (fun (z : G.2.2.1 ≤ _) => Nat.not_lt.mpr z C.K.2.2.1) hS hd ?_
    rw [hG.1]
    exact k9
  · exact mx_triv hG
end CTOR
