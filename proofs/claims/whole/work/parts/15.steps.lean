/-! the rules in the form in which a program lays them: the new locals are said, indices by number -/
section STEPS
variable {l : Launch} {R : Room} {M : mx_M} {Z : mx_G → List Frame → Array Value → State → State → Prop} {uc us pc : Nat} {L L' st : List Value} {h : mx_H} {sk : mx_Sk} {I : mx_I}
theorem s_istore {i : Nat} {x : Int32} (hd : decode M.2.1 pc = .ok (.istore i, 2)) (hn : i < M.2.2.1) (hp : mx_nl L i = true) (hs : L.set i (.int x) = L') (k : mx_Go l R M Z uc us (pc + 2) L' st h) : mx_Go l R M Z uc us pc L (.int x :: st) h := g_istore hd hn hp (by rw [hs]; exact k)
theorem s_istore_n {k0 : Fin 4} {i : Nat} {x : Int32} (hd : decode M.2.1 pc = .ok (.istore_n k0, 1)) (hi : (k0 : Nat) = i) (hn : i < M.2.2.1) (hp : mx_nl L i = true) (hs : L.set i (.int x) = L') (k : mx_Go l R M Z uc us (pc + 1) L' st h) : mx_Go l R M Z uc us pc L (.int x :: st) h := g_istore_n hd hi hn hp (by rw [hs]; exact k)
theorem s_astore {i : Nat} {x : Nat} (hd : decode M.2.1 pc = .ok (.astore i, 2)) (hn : i < M.2.2.1) (hp : mx_nl L i = true) (hs : L.set i (.ref x) = L') (k : mx_Go l R M Z uc us (pc + 2) L' st h) : mx_Go l R M Z uc us pc L (.ref x :: st) h := g_astore hd hn hp (by rw [hs]; exact k)
theorem s_astore_n {k0 : Fin 4} {i : Nat} {x : Nat} (hd : decode M.2.1 pc = .ok (.astore_n k0, 1)) (hi : (k0 : Nat) = i) (hn : i < M.2.2.1) (hp : mx_nl L i = true) (hs : L.set i (.ref x) = L') (k : mx_Go l R M Z uc us (pc + 1) L' st h) : mx_Go l R M Z uc us pc L (.ref x :: st) h := g_astore_n hd hi hn hp (by rw [hs]; exact k)
theorem s_lstore {i : Nat} {x : Int64} (hd : decode M.2.1 pc = .ok (.lstore i, 2)) (hn : i + 1 < M.2.2.1) (hp : mx_nl L i = true) (hs : (L.set i (.long x)).set (i + 1) (.retAddr 0) = L') (k : mx_Go l R M Z uc us (pc + 2) L' st h) : mx_Go l R M Z uc us pc L (.long x :: st) h := g_lstore hd hn hp (by rw [hs]; exact k)
theorem s_iinc {i : Nat} {n : Int} {x v : Int32} (hd : decode M.2.1 pc = .ok (.iinc i n, 3)) (hL : L[i]? = some (.int x)) (hn : i < M.2.2.1) (hp : mx_nl L i = true) (hv : x + Int32.ofInt n = v) (hs : L.set i (.int v) = L') (k : mx_Go l R M Z uc us (pc + 3) L' st h) : mx_Go l R M Z uc us pc L st h := g_iinc hd hL hn hp (by rw [hv, hs]; exact k)
theorem s_iald {k n j : Nat} {i v : Int32} (hd : decode M.2.1 pc = .ok (.iaload, 1)) (hk : sk[k]? = some (.inl n)) (hi : vp_in i n) (hj : i.toNatClampNeg = j) (hv : I k j = v) (kk : mx_Go l R M Z uc us (pc + 1) L (.int v :: st) (sk, I)) : mx_Go l R M Z uc us pc L (.int i :: .ref k :: st) (sk, I) := rg_iald hd hk hi (by rw [hj, hv]; exact kk)
theorem rd_ne {I : mx_I} {k i a b : Nat} {x v : Int32} (h : a ≠ k) (hr : I a b = v) : mx_set I k i x a b = v := by rw [mx_set, mx_row_ne h]; exact hr
theorem rd_sl {I : mx_I} {k i b : Nat} {x v : Int32} (h : b ≠ i) (hr : I k b = v) : mx_set I k i x k b = v := by rw [mx_set, mx_row_self, upd, if_neg h]; exact hr
theorem rd_eq {I : mx_I} {k i : Nat} {x : Int32} : mx_set I k i x k i = x := by simp [mx_set, mx_row_self, upd]
theorem s_iast {k n j : Nat} {i x : Int32} (hd : decode M.2.1 pc = .ok (.iastore, 1)) (hk : sk[k]? = some (.inl n)) (hi : vp_in i n) (hj : i.toNatClampNeg = j) (kk : mx_Go l R M Z uc us (pc + 1) L st (sk, mx_set I k j x)) : mx_Go l R M Z uc us pc L (.int x :: .int i :: .ref k :: st) (sk, I) := rp_iast hd hk hi (by rw [hj]; exact kk)
theorem nb_01 {v : Int32} (h : v = 0 ∨ v = 1) : narrow .boolean (.int v) = .int v := by rcases h with rfl | rfl <;> rfl
def mx_K1 (l : Launch) (M' : mx_M) (d : Nat) (As : List Value) (h : mx_H) (P : Option Value → mx_H → Prop) : Prop := ∃ Q', mx_Spec l M' d 0 0 As h Q' ∧ ∀ r h', Q' r h' → P r h'
theorem s_callV {M' : mx_M} {idx k ci d : Nat} {refs : List (Option Nat)} {q : vw_C} {As S : List Value} (hd : decode M.2.1 pc = .ok (.invokevirtual idx, 3)) (hw : Cond.methodLink M.1.cls idx M'.1 ∈ mx_g) (hM : mx_okV M' As.length) (hk : h.1[k]? = some (.inr (ci, refs))) (hcl : vwCl[ci]? = some q) (hq : M'.1.cls = q.1)
    (hst : (st.map fun v => v.category).sum ≤ 8) (hm : M'.2.2.1 ≤ 45) (hS : As.reverse ++ .ref k :: st = S) (K : mx_K1 l M' d (.ref k :: As) h (fun r h' => mx_Go l (mx_rm (d + 1) 0 0) M Z 0 0 (pc + 3) L (r.toList ++ st) h')) : mx_Go l (mx_rm (d + 1) 0 0) M Z 0 0 pc L S h := by
  subst hS
  obtain ⟨Q', S, K⟩ := K
  exact g_callV (R := mx_rm (d + 1) 0 0) S hd hw hM hk hcl hq hst (Nat.le_refl _) (by simp only [mx_rm]; omega) (Nat.le_refl _) (Nat.le_refl _) K
theorem s_callS {M' : mx_M} {idx d : Nat} {As S : List Value} (hd : decode M.2.1 pc = .ok (.invokestatic idx, 3)) (hw : Cond.methodLink M.1.cls idx M'.1 ∈ mx_g) (hM : mx_ok M' As.length) (hM2 : Cond.static M'.1 ∈ mx_g)
    (hst : (st.map fun v => v.category).sum ≤ 8) (hm : M'.2.2.1 ≤ 45) (hS : As.reverse ++ st = S) (K : mx_K1 l M' d As h (fun r h' => mx_Go l (mx_rm (d + 1) 0 0) M Z 0 0 (pc + 3) L (r.toList ++ st) h')) : mx_Go l (mx_rm (d + 1) 0 0) M Z 0 0 pc L S h := by
  subst hS
  obtain ⟨Q', S, K⟩ := K
  exact g_callS (R := mx_rm (d + 1) 0 0) S hd hw hM hM2 hst (Nat.le_refl _) (by simp only [mx_rm]; omega) (Nat.le_refl _) (Nat.le_refl _) K
theorem mx_nfw : nativeFrameWords "java/lang/System" "arraycopy" 5 ≤ 100 := by decide +kernel
def mx_copy (I : mx_I) (k0 k1 N : Nat) : mx_I := mx_row I k1 (va_cpy (I k0) (I k1) 0 0 N)
theorem rd_cp {I : mx_I} {k0 k1 N a b : Nat} {v : Int32} (h : a ≠ k1) (hr : I a b = v) : mx_copy I k0 k1 N a b = v := by rw [mx_copy, mx_row_ne h]; exact hr
theorem s_copy {idx k0 k1 n0 n1 N d : Nat} {n : Int32} (hd : decode M.2.1 pc = .ok (.invokestatic idx, 3)) (hw1 : Cond.methodLink M.1.cls idx arraycopyName ∈ mx_g) (hk0 : sk[k0]? = some (.inl n0)) (hk1 : sk[k1]? = some (.inl n1)) (hn : ¬ n < 0) (hN : n.toNatClampNeg = N) (h4 : N ≤ n0) (h5 : N ≤ n1) (hst : (st.map fun v => v.category).sum ≤ 8)
    (kk : mx_Go l (mx_rm (d + 1) 0 0) M Z uc us (pc + 3) L st (sk, mx_copy I k0 k1 N)) : mx_Go l (mx_rm (d + 1) 0 0) M Z uc us pc L (.int n :: .int 0 :: .ref k1 :: .int 0 :: .ref k0 :: st) (sk, I) := by
  have e0 : (0 : Int32).toNatClampNeg = 0 := by decide
  refine g_copy (h := (sk, I)) (n0 := n0) (n1 := n1) hd hw1 la_1 la_2 lii_System hk0 hk1 (by decide) (by decide) hn (by rw [e0, hN]; omega) (by rw [e0, hN]; omega) hst (by simp only [mx_rm]; omega) (by have := mx_nfw; simp only [mx_rm]; omega) ?_
  rw [e0, hN]
  exact kk
theorem s_max {idx d : Nat} {x y : Int32} (hst : (st.map fun v => v.category).sum ≤ 8) (hd : decode M.2.1 pc = .ok (.invokestatic idx, 3)) (hw : Cond.methodLink M.1.cls idx Lib.Math.max.name ∈ mx_g) (kk : mx_Go l (mx_rm (d + 1) 0 0) M Z 0 0 (pc + 3) L (.int (if x < y then y else x) :: st) h) : mx_Go l (mx_rm (d + 1) 0 0) M Z 0 0 pc L (.int y :: .int x :: st) h := by
  intro G p e s m args below meth c H locs ls C hz hW hS hl
  exact va_mmax C.1 C.2.1 (by rw [C.2.2.1]; exact hl.1.symm) C.own (C.wd _ hw) (C.wd _ osJ9_max_7cf53) (C.wd _ (show Cond.initialized "java/lang/Math" ∈ mx_g from okJ9_max_7cf53.2.1)) (C.wd _ (show Cond.code Lib.Math.max.name Lib.Math.max.code 2 (some .int) ∈ mx_g from okJ9_max_7cf53.1)) (by simp only [mx_rm]; omega) (by rw [mx_cats]; simp only [mx_rm]; omega) (Nat.zero_le _) (Nat.zero_le _) hd (kk G p e s m args below meth c H locs ls C hz hW hS hl)
theorem s_min {idx d : Nat} {x y : Int32} (hst : (st.map fun v => v.category).sum ≤ 8) (hd : decode M.2.1 pc = .ok (.invokestatic idx, 3)) (hw : Cond.methodLink M.1.cls idx Lib.Math.min.name ∈ mx_g) (kk : mx_Go l (mx_rm (d + 1) 0 0) M Z 0 0 (pc + 3) L (.int (if y < x then y else x) :: st) h) : mx_Go l (mx_rm (d + 1) 0 0) M Z 0 0 pc L (.int y :: .int x :: st) h := by
  intro G p e s m args below meth c H locs ls C hz hW hS hl
  exact va_mmin C.1 C.2.1 (by rw [C.2.2.1]; exact hl.1.symm) C.own (C.wd _ hw) (C.wd _ osJ9_min_7cf53) (C.wd _ (show Cond.initialized "java/lang/Math" ∈ mx_g from okJ9_min_7cf53.2.1)) (C.wd _ (show Cond.code Lib.Math.min.name Lib.Math.min.code 2 (some .int) ∈ mx_g from okJ9_min_7cf53.1)) (by simp only [mx_rm]; omega) (by rw [mx_cats]; simp only [mx_rm]; omega) (Nat.zero_le _) (Nat.zero_le _) hd (kk G p e s m args below meth c H locs ls C hz hW hS hl)
theorem mx_i32 {x v : Int32} {n : Int} (hn : v.toInt = n) (h : ¬ x = v) : x.toInt ≠ n := fun e => h (Int32.toInt_inj.mp (e.trans hn.symm))
end STEPS
