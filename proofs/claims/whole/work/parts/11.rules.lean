section RULES
variable {l : Launch} {R : Room} {M : mx_M} {Z : mx_G → List Frame → Array Value → State → State → Prop} {uc us pc : Nat} {L st : List Value} {h : mx_H}
theorem g_iconst {n : Int} {v : Int32} (hd : decode M.2.1 pc = .ok (.iconst n, 1)) (hv : Int32.ofInt n = v)
    (k : mx_Go l R M Z uc us (pc + 1) L (.int v :: st) h) : mx_Go l R M Z uc us pc L (st) h := by
  intro G p e s m args below meth c H locs ls C hz hW hS hl
  exact lv_iconst C.1 C.2.1 hd hv (k G p e s m args below meth c H locs ls C hz hW hS hl)
theorem g_bipush {n : Int} {v : Int32} (hd : decode M.2.1 pc = .ok (.bipush n, 2)) (hv : (Int8.ofInt n).toInt32 = v)
    (k : mx_Go l R M Z uc us (pc + 2) L (.int v :: st) h) : mx_Go l R M Z uc us pc L (st) h := by
  intro G p e s m args below meth c H locs ls C hz hW hS hl
  exact lv_bipush C.1 C.2.1 hd hv (k G p e s m args below meth c H locs ls C hz hW hS hl)
theorem g_sipush {n : Int} {v : Int32} (hd : decode M.2.1 pc = .ok (.sipush n, 3)) (hv : (Int16.ofInt n).toInt32 = v)
    (k : mx_Go l R M Z uc us (pc + 3) L (.int v :: st) h) : mx_Go l R M Z uc us pc L (st) h := by
  intro G p e s m args below meth c H locs ls C hz hW hS hl
  exact lv_sipush C.1 C.2.1 hd hv (k G p e s m args below meth c H locs ls C hz hW hS hl)
theorem g_lconst {n : Fin 2} {v : Int64} (hd : decode M.2.1 pc = .ok (.lconst n, 1)) (hv : Int64.ofNat (n : Nat) = v)
    (k : mx_Go l R M Z uc us (pc + 1) L (.long v :: st) h) : mx_Go l R M Z uc us pc L (st) h := by
  intro G p e s m args below meth c H locs ls C hz hW hS hl
  exact lv_lconst C.1 C.2.1 hd hv (k G p e s m args below meth c H locs ls C hz hW hS hl)
theorem g_iadd {x y : Int32} (hd : decode M.2.1 pc = .ok (.iadd, 1)) 
    (k : mx_Go l R M Z uc us (pc + 1) L (.int (x + y) :: st) h) : mx_Go l R M Z uc us pc L (.int y :: .int x :: st) h := by
  intro G p e s m args below meth c H locs ls C hz hW hS hl
  exact lv_iadd C.1 C.2.1 hd  (k G p e s m args below meth c H locs ls C hz hW hS hl)
theorem g_isub {x y : Int32} (hd : decode M.2.1 pc = .ok (.isub, 1)) 
    (k : mx_Go l R M Z uc us (pc + 1) L (.int (x - y) :: st) h) : mx_Go l R M Z uc us pc L (.int y :: .int x :: st) h := by
  intro G p e s m args below meth c H locs ls C hz hW hS hl
  exact lv_isub C.1 C.2.1 hd  (k G p e s m args below meth c H locs ls C hz hW hS hl)
theorem g_imul {x y : Int32} (hd : decode M.2.1 pc = .ok (.imul, 1)) 
    (k : mx_Go l R M Z uc us (pc + 1) L (.int (x * y) :: st) h) : mx_Go l R M Z uc us pc L (.int y :: .int x :: st) h := by
  intro G p e s m args below meth c H locs ls C hz hW hS hl
  exact lv_imul C.1 C.2.1 hd  (k G p e s m args below meth c H locs ls C hz hW hS hl)
theorem g_iand {x y : Int32} (hd : decode M.2.1 pc = .ok (.iand, 1)) 
    (k : mx_Go l R M Z uc us (pc + 1) L (.int (x &&& y) :: st) h) : mx_Go l R M Z uc us pc L (.int y :: .int x :: st) h := by
  intro G p e s m args below meth c H locs ls C hz hW hS hl
  exact lv_iand C.1 C.2.1 hd  (k G p e s m args below meth c H locs ls C hz hW hS hl)
theorem g_ior {x y : Int32} (hd : decode M.2.1 pc = .ok (.ior, 1)) 
    (k : mx_Go l R M Z uc us (pc + 1) L (.int (x ||| y) :: st) h) : mx_Go l R M Z uc us pc L (.int y :: .int x :: st) h := by
  intro G p e s m args below meth c H locs ls C hz hW hS hl
  exact lv_ior C.1 C.2.1 hd  (k G p e s m args below meth c H locs ls C hz hW hS hl)
theorem g_ixor {x y : Int32} (hd : decode M.2.1 pc = .ok (.ixor, 1)) 
    (k : mx_Go l R M Z uc us (pc + 1) L (.int (x ^^^ y) :: st) h) : mx_Go l R M Z uc us pc L (.int y :: .int x :: st) h := by
  intro G p e s m args below meth c H locs ls C hz hW hS hl
  exact lv_ixor C.1 C.2.1 hd  (k G p e s m args below meth c H locs ls C hz hW hS hl)
theorem g_ishl {x y : Int32} (hd : decode M.2.1 pc = .ok (.ishl, 1)) 
    (k : mx_Go l R M Z uc us (pc + 1) L (.int (x <<< (y &&& 31)) :: st) h) : mx_Go l R M Z uc us pc L (.int y :: .int x :: st) h := by
  intro G p e s m args below meth c H locs ls C hz hW hS hl
  exact lv_ishl C.1 C.2.1 hd  (k G p e s m args below meth c H locs ls C hz hW hS hl)
theorem g_ishr {x y : Int32} (hd : decode M.2.1 pc = .ok (.ishr, 1)) 
    (k : mx_Go l R M Z uc us (pc + 1) L (.int (x >>> (y &&& 31)) :: st) h) : mx_Go l R M Z uc us pc L (.int y :: .int x :: st) h := by
  intro G p e s m args below meth c H locs ls C hz hW hS hl
  exact lv_ishr C.1 C.2.1 hd  (k G p e s m args below meth c H locs ls C hz hW hS hl)
theorem g_iushr {x y : Int32} (hd : decode M.2.1 pc = .ok (.iushr, 1)) 
    (k : mx_Go l R M Z uc us (pc + 1) L (.int ((x.toUInt32 >>> (y.toUInt32 &&& Int32.toUInt32 31)).toInt32) :: st) h) : mx_Go l R M Z uc us pc L (.int y :: .int x :: st) h := by
  intro G p e s m args below meth c H locs ls C hz hW hS hl
  exact lv_iushr C.1 C.2.1 hd rfl (k G p e s m args below meth c H locs ls C hz hW hS hl)
theorem g_idiv {x y : Int32} (hd : decode M.2.1 pc = .ok (.idiv, 1)) (hne : ¬ y = 0)
    (k : mx_Go l R M Z uc us (pc + 1) L (.int (x / y) :: st) h) : mx_Go l R M Z uc us pc L (.int y :: .int x :: st) h := by
  intro G p e s m args below meth c H locs ls C hz hW hS hl
  exact lv_idiv C.1 C.2.1 hd hne (k G p e s m args below meth c H locs ls C hz hW hS hl)
theorem g_irem {x y : Int32} (hd : decode M.2.1 pc = .ok (.irem, 1)) (hne : ¬ y = 0)
    (k : mx_Go l R M Z uc us (pc + 1) L (.int (x - x / y * y) :: st) h) : mx_Go l R M Z uc us pc L (.int y :: .int x :: st) h := by
  intro G p e s m args below meth c H locs ls C hz hW hS hl
  exact lv_irem C.1 C.2.1 hd hne (k G p e s m args below meth c H locs ls C hz hW hS hl)
theorem g_ineg {x : Int32} (hd : decode M.2.1 pc = .ok (.ineg, 1)) 
    (k : mx_Go l R M Z uc us (pc + 1) L (.int (-x) :: st) h) : mx_Go l R M Z uc us pc L (.int x :: st) h := by
  intro G p e s m args below meth c H locs ls C hz hW hS hl
  exact lv_ineg C.1 C.2.1 hd  (k G p e s m args below meth c H locs ls C hz hW hS hl)
theorem g_ladd {x y : Int64} (hd : decode M.2.1 pc = .ok (.ladd, 1)) 
    (k : mx_Go l R M Z uc us (pc + 1) L (.long (x + y) :: st) h) : mx_Go l R M Z uc us pc L (.long y :: .long x :: st) h := by
  intro G p e s m args below meth c H locs ls C hz hW hS hl
  exact lv_ladd C.1 C.2.1 hd  (k G p e s m args below meth c H locs ls C hz hW hS hl)
theorem g_lsub {x y : Int64} (hd : decode M.2.1 pc = .ok (.lsub, 1)) 
    (k : mx_Go l R M Z uc us (pc + 1) L (.long (x - y) :: st) h) : mx_Go l R M Z uc us pc L (.long y :: .long x :: st) h := by
  intro G p e s m args below meth c H locs ls C hz hW hS hl
  exact lv_lsub C.1 C.2.1 hd  (k G p e s m args below meth c H locs ls C hz hW hS hl)
theorem g_lmul {x y : Int64} (hd : decode M.2.1 pc = .ok (.lmul, 1)) 
    (k : mx_Go l R M Z uc us (pc + 1) L (.long (x * y) :: st) h) : mx_Go l R M Z uc us pc L (.long y :: .long x :: st) h := by
  intro G p e s m args below meth c H locs ls C hz hW hS hl
  exact lv_lmul C.1 C.2.1 hd  (k G p e s m args below meth c H locs ls C hz hW hS hl)
theorem g_lcmp {x y : Int64} (hd : decode M.2.1 pc = .ok (.lcmp, 1)) 
    (k : mx_Go l R M Z uc us (pc + 1) L (.int (lg_cmp x y) :: st) h) : mx_Go l R M Z uc us pc L (.long y :: .long x :: st) h := by
  intro G p e s m args below meth c H locs ls C hz hW hS hl
  exact W.lcmp C.1 C.2.1 hd  (k G p e s m args below meth c H locs ls C hz hW hS hl)
theorem g_i2l {x : Int32} (hd : decode M.2.1 pc = .ok (.i2l, 1)) 
    (k : mx_Go l R M Z uc us (pc + 1) L (.long x.toInt64 :: st) h) : mx_Go l R M Z uc us pc L (.int x :: st) h := by
  intro G p e s m args below meth c H locs ls C hz hW hS hl
  exact lv_i2l C.1 C.2.1 hd rfl (k G p e s m args below meth c H locs ls C hz hW hS hl)
theorem g_i2c {x : Int32} (hd : decode M.2.1 pc = .ok (.i2c, 1)) 
    (k : mx_Go l R M Z uc us (pc + 1) L (.int ((x.toUInt32 % 65536).toInt32) :: st) h) : mx_Go l R M Z uc us pc L (.int x :: st) h := by
  intro G p e s m args below meth c H locs ls C hz hW hS hl
  exact lv_i2c C.1 C.2.1 hd rfl (k G p e s m args below meth c H locs ls C hz hW hS hl)
theorem g_iload {i : Nat} {x : Int32} (hd : decode M.2.1 pc = .ok (.iload i, 2)) (hL : L[i]? = some (.int x))
    (k : mx_Go l R M Z uc us (pc + 2) L (.int x :: st) h) : mx_Go l R M Z uc us pc L st h := by
  intro G p e s m args below meth c H locs ls C hz hW hS hl
  exact lv_iload C.1 C.2.1 hd (mx_la_at hl (v := mx_cv G (.int x)) (by rw [List.getElem?_map, hL]; rfl) (by intro hh; cases hh)) (k G p e s m args below meth c H locs ls C hz hW hS hl)
theorem g_iload_n {k0 : Fin 4} {i : Nat} {x : Int32} (hd : decode M.2.1 pc = .ok (.iload_n k0, 1)) (hi : (k0 : Nat) = i) (hL : L[i]? = some (.int x))
    (k : mx_Go l R M Z uc us (pc + 1) L (.int x :: st) h) : mx_Go l R M Z uc us pc L st h := by
  intro G p e s m args below meth c H locs ls C hz hW hS hl
  exact lv_iload_n C.1 C.2.1 hd hi (mx_la_at hl (v := mx_cv G (.int x)) (by rw [List.getElem?_map, hL]; rfl) (by intro hh; cases hh)) (k G p e s m args below meth c H locs ls C hz hW hS hl)
theorem g_lload {i : Nat} {x : Int64} (hd : decode M.2.1 pc = .ok (.lload i, 2)) (hL : L[i]? = some (.long x))
    (k : mx_Go l R M Z uc us (pc + 2) L (.long x :: st) h) : mx_Go l R M Z uc us pc L st h := by
  intro G p e s m args below meth c H locs ls C hz hW hS hl
  exact lv_lload C.1 C.2.1 hd (mx_la_at hl (v := mx_cv G (.long x)) (by rw [List.getElem?_map, hL]; rfl) (by intro hh; cases hh)) (k G p e s m args below meth c H locs ls C hz hW hS hl)
theorem g_lload_n {k0 : Fin 4} {i : Nat} {x : Int64} (hd : decode M.2.1 pc = .ok (.lload_n k0, 1)) (hi : (k0 : Nat) = i) (hL : L[i]? = some (.long x))
    (k : mx_Go l R M Z uc us (pc + 1) L (.long x :: st) h) : mx_Go l R M Z uc us pc L st h := by
  intro G p e s m args below meth c H locs ls C hz hW hS hl
  exact lv_lload_n C.1 C.2.1 hd hi (mx_la_at hl (v := mx_cv G (.long x)) (by rw [List.getElem?_map, hL]; rfl) (by intro hh; cases hh)) (k G p e s m args below meth c H locs ls C hz hW hS hl)
theorem g_aload {i : Nat} {x : Nat} (hd : decode M.2.1 pc = .ok (.aload i, 2)) (hL : L[i]? = some (.ref x))
    (k : mx_Go l R M Z uc us (pc + 2) L (.ref x :: st) h) : mx_Go l R M Z uc us pc L st h := by
  intro G p e s m args below meth c H locs ls C hz hW hS hl
  exact lv_aload C.1 C.2.1 hd (mx_la_at hl (v := mx_cv G (.ref x)) (by rw [List.getElem?_map, hL]; rfl) (by intro hh; cases hh)) (k G p e s m args below meth c H locs ls C hz hW hS hl)
theorem g_aload_n {k0 : Fin 4} {i : Nat} {x : Nat} (hd : decode M.2.1 pc = .ok (.aload_n k0, 1)) (hi : (k0 : Nat) = i) (hL : L[i]? = some (.ref x))
    (k : mx_Go l R M Z uc us (pc + 1) L (.ref x :: st) h) : mx_Go l R M Z uc us pc L st h := by
  intro G p e s m args below meth c H locs ls C hz hW hS hl
  exact lv_aload_n C.1 C.2.1 hd hi (mx_la_at hl (v := mx_cv G (.ref x)) (by rw [List.getElem?_map, hL]; rfl) (by intro hh; cases hh)) (k G p e s m args below meth c H locs ls C hz hW hS hl)
theorem g_istore {i : Nat} {x : Int32} (hd : decode M.2.1 pc = .ok (.istore i, 2)) (hn : i < M.2.2.1) (hp : mx_nl L i = true)
    (k : mx_Go l R M Z uc us (pc + 2) (L.set i (.int x)) st h) : mx_Go l R M Z uc us pc L (.int x :: st) h := by
  intro G p e s m args below meth c H locs ls C hz hW hS hl
  refine lv_istore (nL := M.2.2.1) C.1 C.2.1 hd hl hn rfl (fun ls' hl' => ?_)
  refine k G p e s m args below meth c H locs ls' C hz hW hS ?_
  have h9 := mx_st1 (by rw [mx_nl_cv]; exact hp) hl'
  simpa [List.map_set, mx_cv] using h9
theorem g_istore_n {k0 : Fin 4} {i : Nat} {x : Int32} (hd : decode M.2.1 pc = .ok (.istore_n k0, 1)) (hi : (k0 : Nat) = i) (hn : i < M.2.2.1) (hp : mx_nl L i = true)
    (k : mx_Go l R M Z uc us (pc + 1) (L.set i (.int x)) st h) : mx_Go l R M Z uc us pc L (.int x :: st) h := by
  intro G p e s m args below meth c H locs ls C hz hW hS hl
  refine lv_istore_n (nL := M.2.2.1) C.1 C.2.1 hd hi hl hn rfl (fun ls' hl' => ?_)
  refine k G p e s m args below meth c H locs ls' C hz hW hS ?_
  have h9 := mx_st1 (by rw [mx_nl_cv]; exact hp) hl'
  simpa [List.map_set, mx_cv] using h9
theorem g_lstore {i : Nat} {x : Int64} (hd : decode M.2.1 pc = .ok (.lstore i, 2)) (hn : i + 1 < M.2.2.1) (hp : mx_nl L i = true)
    (k : mx_Go l R M Z uc us (pc + 2) ((L.set i (.long x)).set (i + 1) (.retAddr 0)) st h) : mx_Go l R M Z uc us pc L (.long x :: st) h := by
  intro G p e s m args below meth c H locs ls C hz hW hS hl
  refine lv_lstore (nL := M.2.2.1) C.1 C.2.1 hd hl hn rfl (fun ls' hl' => ?_)
  refine k G p e s m args below meth c H locs ls' C hz hW hS ?_
  have h9 := mx_st2 (by rw [mx_nl_cv]; exact hp) hl'
  simpa [List.map_set, mx_cv] using h9
theorem g_lstore_n {k0 : Fin 4} {i : Nat} {x : Int64} (hd : decode M.2.1 pc = .ok (.lstore_n k0, 1)) (hi : (k0 : Nat) = i) (hn : i + 1 < M.2.2.1) (hp : mx_nl L i = true)
    (k : mx_Go l R M Z uc us (pc + 1) ((L.set i (.long x)).set (i + 1) (.retAddr 0)) st h) : mx_Go l R M Z uc us pc L (.long x :: st) h := by
  intro G p e s m args below meth c H locs ls C hz hW hS hl
  refine lv_lstore_n (nL := M.2.2.1) C.1 C.2.1 hd hi hl hn rfl (fun ls' hl' => ?_)
  refine k G p e s m args below meth c H locs ls' C hz hW hS ?_
  have h9 := mx_st2 (by rw [mx_nl_cv]; exact hp) hl'
  simpa [List.map_set, mx_cv] using h9
theorem g_astore {i : Nat} {x : Nat} (hd : decode M.2.1 pc = .ok (.astore i, 2)) (hn : i < M.2.2.1) (hp : mx_nl L i = true)
    (k : mx_Go l R M Z uc us (pc + 2) (L.set i (.ref x)) st h) : mx_Go l R M Z uc us pc L (.ref x :: st) h := by
  intro G p e s m args below meth c H locs ls C hz hW hS hl
  refine lv_astore (nL := M.2.2.1) C.1 C.2.1 hd hl hn rfl (fun ls' hl' => ?_)
  refine k G p e s m args below meth c H locs ls' C hz hW hS ?_
  have h9 := mx_st1 (by rw [mx_nl_cv]; exact hp) hl'
  simpa [List.map_set, mx_cv] using h9
theorem g_astore_n {k0 : Fin 4} {i : Nat} {x : Nat} (hd : decode M.2.1 pc = .ok (.astore_n k0, 1)) (hi : (k0 : Nat) = i) (hn : i < M.2.2.1) (hp : mx_nl L i = true)
    (k : mx_Go l R M Z uc us (pc + 1) (L.set i (.ref x)) st h) : mx_Go l R M Z uc us pc L (.ref x :: st) h := by
  intro G p e s m args below meth c H locs ls C hz hW hS hl
  refine lv_astore_n (nL := M.2.2.1) C.1 C.2.1 hd hi hl hn rfl (fun ls' hl' => ?_)
  refine k G p e s m args below meth c H locs ls' C hz hW hS ?_
  have h9 := mx_st1 (by rw [mx_nl_cv]; exact hp) hl'
  simpa [List.map_set, mx_cv] using h9
theorem g_iinc {i : Nat} {n : Int} {x : Int32} (hd : decode M.2.1 pc = .ok (.iinc i n, 3)) (hL : L[i]? = some (.int x)) (hn : i < M.2.2.1) (hp : mx_nl L i = true)
    (k : mx_Go l R M Z uc us (pc + 3) (L.set i (.int (x + Int32.ofInt n))) st h) : mx_Go l R M Z uc us pc L st h := by
  intro G p e s m args below meth c H locs ls C hz hW hS hl
  obtain ⟨q, hq⟩ := List.getElem?_of_mem (mx_la_mem.mpr ⟨show (L.map (mx_cv G))[i]? = some (.int x) by rw [List.getElem?_map, hL]; rfl, by intro hh; cases hh⟩)
  refine lv_iinc (nL := M.2.2.1) (k := q) C.1 C.2.1 hd hl hq rfl hn rfl (fun ls' hl' => ?_)
  refine k G p e s m args below meth c H locs ls' C hz hW hS ?_
  have h9 := mx_st1 (by rw [mx_nl_cv]; exact hp) hl'
  simpa [List.map_set, mx_cv] using h9
theorem g_dup {v : Value} (hd : decode M.2.1 pc = .ok (.dup, 1)) (hv : v.category = 1)
    (k : mx_Go l R M Z uc us (pc + 1) L (v :: v :: st) h) : mx_Go l R M Z uc us pc L (v :: st) h := by
  intro G p e s m args below meth c H locs ls C hz hW hS hl
  exact lv_dup C.1 C.2.1 hd ((mx_cv_cat G v).trans hv) (k G p e s m args below meth c H locs ls C hz hW hS hl)
theorem g_dup2 {v w : Value} (hd : decode M.2.1 pc = .ok (.dup2, 1)) (hv : v.category = 1) (hw : w.category = 1)
    (k : mx_Go l R M Z uc us (pc + 1) L (v :: w :: v :: w :: st) h) : mx_Go l R M Z uc us pc L (v :: w :: st) h := by
  intro G p e s m args below meth c H locs ls C hz hW hS hl
  exact lv_dup2_11 C.1 C.2.1 hd ((mx_cv_cat G v).trans hv) ((mx_cv_cat G w).trans hw) (k G p e s m args below meth c H locs ls C hz hW hS hl)
theorem g_pop {v : Value} (hd : decode M.2.1 pc = .ok (.pop, 1)) (hv : v.category = 1)
    (k : mx_Go l R M Z uc us (pc + 1) L st h) : mx_Go l R M Z uc us pc L (v :: st) h := by
  intro G p e s m args below meth c H locs ls C hz hW hS hl
  exact lv_pop C.1 C.2.1 hd ((mx_cv_cat G v).trans hv) (k G p e s m args below meth c H locs ls C hz hW hS hl)
theorem g_if_eq {x : Int32} {off : Int} {tgt : Nat} (hd : decode M.2.1 pc = .ok (.ifCond .eq off, 3)) (ht : (pc : Int) + off = (tgt : Int))
    (kt : x = 0 → mx_Go l R M Z uc us tgt L st h) (kf : ¬ x = 0 → mx_Go l R M Z uc us (pc + 3) L st h) : mx_Go l R M Z uc us pc L (.int x :: st) h := by
  intro G p e s m args below meth c H locs ls C hz hW hS hl
  exact lv_if_eq C.1 C.2.1 hd ht (fun q => kt q G p e s m args below meth c H locs ls C hz hW hS hl) (fun q => kf q G p e s m args below meth c H locs ls C hz hW hS hl)
theorem g_if_ne {x : Int32} {off : Int} {tgt : Nat} (hd : decode M.2.1 pc = .ok (.ifCond .ne off, 3)) (ht : (pc : Int) + off = (tgt : Int))
    (kt : ¬ x = 0 → mx_Go l R M Z uc us tgt L st h) (kf : x = 0 → mx_Go l R M Z uc us (pc + 3) L st h) : mx_Go l R M Z uc us pc L (.int x :: st) h := by
  intro G p e s m args below meth c H locs ls C hz hW hS hl
  exact lv_if_ne C.1 C.2.1 hd ht (fun q => kt q G p e s m args below meth c H locs ls C hz hW hS hl) (fun q => kf q G p e s m args below meth c H locs ls C hz hW hS hl)
theorem g_if_lt {x : Int32} {off : Int} {tgt : Nat} (hd : decode M.2.1 pc = .ok (.ifCond .lt off, 3)) (ht : (pc : Int) + off = (tgt : Int))
    (kt : x < 0 → mx_Go l R M Z uc us tgt L st h) (kf : ¬ x < 0 → mx_Go l R M Z uc us (pc + 3) L st h) : mx_Go l R M Z uc us pc L (.int x :: st) h := by
  intro G p e s m args below meth c H locs ls C hz hW hS hl
  exact lv_if_lt C.1 C.2.1 hd ht (fun q => kt q G p e s m args below meth c H locs ls C hz hW hS hl) (fun q => kf q G p e s m args below meth c H locs ls C hz hW hS hl)
theorem g_if_ge {x : Int32} {off : Int} {tgt : Nat} (hd : decode M.2.1 pc = .ok (.ifCond .ge off, 3)) (ht : (pc : Int) + off = (tgt : Int))
    (kt : 0 ≤ x → mx_Go l R M Z uc us tgt L st h) (kf : ¬ 0 ≤ x → mx_Go l R M Z uc us (pc + 3) L st h) : mx_Go l R M Z uc us pc L (.int x :: st) h := by
  intro G p e s m args below meth c H locs ls C hz hW hS hl
  exact lv_if_ge C.1 C.2.1 hd ht (fun q => kt q G p e s m args below meth c H locs ls C hz hW hS hl) (fun q => kf q G p e s m args below meth c H locs ls C hz hW hS hl)
theorem g_if_gt {x : Int32} {off : Int} {tgt : Nat} (hd : decode M.2.1 pc = .ok (.ifCond .gt off, 3)) (ht : (pc : Int) + off = (tgt : Int))
    (kt : 0 < x → mx_Go l R M Z uc us tgt L st h) (kf : ¬ 0 < x → mx_Go l R M Z uc us (pc + 3) L st h) : mx_Go l R M Z uc us pc L (.int x :: st) h := by
  intro G p e s m args below meth c H locs ls C hz hW hS hl
  exact lv_if_gt C.1 C.2.1 hd ht (fun q => kt q G p e s m args below meth c H locs ls C hz hW hS hl) (fun q => kf q G p e s m args below meth c H locs ls C hz hW hS hl)
theorem g_if_le {x : Int32} {off : Int} {tgt : Nat} (hd : decode M.2.1 pc = .ok (.ifCond .le off, 3)) (ht : (pc : Int) + off = (tgt : Int))
    (kt : x ≤ 0 → mx_Go l R M Z uc us tgt L st h) (kf : ¬ x ≤ 0 → mx_Go l R M Z uc us (pc + 3) L st h) : mx_Go l R M Z uc us pc L (.int x :: st) h := by
  intro G p e s m args below meth c H locs ls C hz hW hS hl
  exact lv_if_le C.1 C.2.1 hd ht (fun q => kt q G p e s m args below meth c H locs ls C hz hW hS hl) (fun q => kf q G p e s m args below meth c H locs ls C hz hW hS hl)
theorem g_icmp_eq {x y : Int32} {off : Int} {tgt : Nat} (hd : decode M.2.1 pc = .ok (.if_icmp .eq off, 3)) (ht : (pc : Int) + off = (tgt : Int))
    (kt : x = y → mx_Go l R M Z uc us tgt L st h) (kf : ¬ x = y → mx_Go l R M Z uc us (pc + 3) L st h) : mx_Go l R M Z uc us pc L (.int y :: .int x :: st) h := by
  intro G p e s m args below meth c H locs ls C hz hW hS hl
  exact lv_icmp_eq C.1 C.2.1 hd ht (fun q => kt q G p e s m args below meth c H locs ls C hz hW hS hl) (fun q => kf q G p e s m args below meth c H locs ls C hz hW hS hl)
theorem g_icmp_ne {x y : Int32} {off : Int} {tgt : Nat} (hd : decode M.2.1 pc = .ok (.if_icmp .ne off, 3)) (ht : (pc : Int) + off = (tgt : Int))
    (kt : ¬ x = y → mx_Go l R M Z uc us tgt L st h) (kf : x = y → mx_Go l R M Z uc us (pc + 3) L st h) : mx_Go l R M Z uc us pc L (.int y :: .int x :: st) h := by
  intro G p e s m args below meth c H locs ls C hz hW hS hl
  exact lv_icmp_ne C.1 C.2.1 hd ht (fun q => kt q G p e s m args below meth c H locs ls C hz hW hS hl) (fun q => kf q G p e s m args below meth c H locs ls C hz hW hS hl)
theorem g_icmp_lt {x y : Int32} {off : Int} {tgt : Nat} (hd : decode M.2.1 pc = .ok (.if_icmp .lt off, 3)) (ht : (pc : Int) + off = (tgt : Int))
    (kt : x < y → mx_Go l R M Z uc us tgt L st h) (kf : ¬ x < y → mx_Go l R M Z uc us (pc + 3) L st h) : mx_Go l R M Z uc us pc L (.int y :: .int x :: st) h := by
  intro G p e s m args below meth c H locs ls C hz hW hS hl
  exact lv_icmp_lt C.1 C.2.1 hd ht (fun q => kt q G p e s m args below meth c H locs ls C hz hW hS hl) (fun q => kf q G p e s m args below meth c H locs ls C hz hW hS hl)
theorem g_icmp_ge {x y : Int32} {off : Int} {tgt : Nat} (hd : decode M.2.1 pc = .ok (.if_icmp .ge off, 3)) (ht : (pc : Int) + off = (tgt : Int))
    (kt : y ≤ x → mx_Go l R M Z uc us tgt L st h) (kf : ¬ y ≤ x → mx_Go l R M Z uc us (pc + 3) L st h) : mx_Go l R M Z uc us pc L (.int y :: .int x :: st) h := by
  intro G p e s m args below meth c H locs ls C hz hW hS hl
  exact lv_icmp_ge C.1 C.2.1 hd ht (fun q => kt q G p e s m args below meth c H locs ls C hz hW hS hl) (fun q => kf q G p e s m args below meth c H locs ls C hz hW hS hl)
theorem g_icmp_gt {x y : Int32} {off : Int} {tgt : Nat} (hd : decode M.2.1 pc = .ok (.if_icmp .gt off, 3)) (ht : (pc : Int) + off = (tgt : Int))
    (kt : y < x → mx_Go l R M Z uc us tgt L st h) (kf : ¬ y < x → mx_Go l R M Z uc us (pc + 3) L st h) : mx_Go l R M Z uc us pc L (.int y :: .int x :: st) h := by
  intro G p e s m args below meth c H locs ls C hz hW hS hl
  exact lv_icmp_gt C.1 C.2.1 hd ht (fun q => kt q G p e s m args below meth c H locs ls C hz hW hS hl) (fun q => kf q G p e s m args below meth c H locs ls C hz hW hS hl)
theorem g_icmp_le {x y : Int32} {off : Int} {tgt : Nat} (hd : decode M.2.1 pc = .ok (.if_icmp .le off, 3)) (ht : (pc : Int) + off = (tgt : Int))
    (kt : x ≤ y → mx_Go l R M Z uc us tgt L st h) (kf : ¬ x ≤ y → mx_Go l R M Z uc us (pc + 3) L st h) : mx_Go l R M Z uc us pc L (.int y :: .int x :: st) h := by
  intro G p e s m args below meth c H locs ls C hz hW hS hl
  exact lv_icmp_le C.1 C.2.1 hd ht (fun q => kt q G p e s m args below meth c H locs ls C hz hW hS hl) (fun q => kf q G p e s m args below meth c H locs ls C hz hW hS hl)
theorem g_goto {off : Int} {tgt : Nat} (hd : decode M.2.1 pc = .ok (.goto off, 3)) (ht : (pc : Int) + off = (tgt : Int))
    (k : mx_Go l R M Z uc us tgt L st h) : mx_Go l R M Z uc us pc L st h := by
  intro G p e s m args below meth c H locs ls C hz hW hS hl
  exact lv_goto C.1 C.2.1 hd ht (k G p e s m args below meth c H locs ls C hz hW hS hl)
theorem g_tableOut {dflt lo hi : Int} {offs : Array Int} {len : Nat} {x : Int32} {tgt : Nat} (hd : decode M.2.1 pc = .ok (.tableswitch dflt lo hi offs, len)) (hx : x.toInt < lo ∨ hi < x.toInt) (ht : (pc : Int) + dflt = (tgt : Int))
    (k : mx_Go l R M Z uc us tgt L st h) : mx_Go l R M Z uc us pc L (.int x :: st) h := by
  intro G p e s m args below meth c H locs ls C hz hW hS hl
  exact lv_tableOut C.1 C.2.1 hd hx ht (k G p e s m args below meth c H locs ls C hz hW hS hl)
theorem g_tableIn {dflt lo hi : Int} {offs : Array Int} {len : Nat} {x : Int32} {off : Int} {tgt : Nat} (hd : decode M.2.1 pc = .ok (.tableswitch dflt lo hi offs, len)) (h1 : ¬ x.toInt < lo) (h2 : ¬ hi < x.toInt) (ho : offs[(x.toInt - lo).toNat]? = some off) (ht : (pc : Int) + off = (tgt : Int))
    (k : mx_Go l R M Z uc us tgt L st h) : mx_Go l R M Z uc us pc L (.int x :: st) h := by
  intro G p e s m args below meth c H locs ls C hz hW hS hl
  exact lv_tableIn C.1 C.2.1 hd h1 h2 ho ht (k G p e s m args below meth c H locs ls C hz hW hS hl)
theorem g_lookup {dflt : Int} {ps : Array (Int × Int)} {len : Nat} {x : Int32} {off : Int} {tgt : Nat} (hd : decode M.2.1 pc = .ok (.lookupswitch dflt ps, len)) (hp : (ps.toList.zip (ps.toList.drop 1)).all (fun (a, next) => a.1 < next.1) = true) (ho : Op.lookupswitch.offset ps.toList dflt x.toInt = off) (ht : (pc : Int) + off = (tgt : Int))
    (k : mx_Go l R M Z uc us tgt L st h) : mx_Go l R M Z uc us pc L (.int x :: st) h := by
  intro G p e s m args below meth c H locs ls C hz hW hS hl
  exact lv_lookup C.1 C.2.1 hd hp ho ht (k G p e s m args below meth c H locs ls C hz hW hS hl)
theorem g_ldc {index : Nat} {v : Int32} (hd : decode M.2.1 pc = .ok (.ldc index, 2)) (hw : Cond.constant M.1.cls index v ∈ mx_g)
    (k : mx_Go l R M Z uc us (pc + 2) L (.int v :: st) h) : mx_Go l R M Z uc us pc L st h := by
  intro G p e s m args below meth c H locs ls C hz hW hS hl
  exact lv_ldc C.1 C.2.1 C.2.2.2.2.2.2.1 (C.2.2.2.2.2.2.2.1 _ hw) hd (k G p e s m args below meth c H locs ls C hz hW hS hl)
theorem g_ldc2 {index : Nat} {v : Int64} (hd : decode M.2.1 pc = .ok (.ldc2_w index, 3)) (hw : Cond.constantLong M.1.cls index v ∈ mx_g)
    (k : mx_Go l R M Z uc us (pc + 3) L (.long v :: st) h) : mx_Go l R M Z uc us pc L st h := by
  intro G p e s m args below meth c H locs ls C hz hW hS hl
  exact lv_ldc2 C.1 C.2.1 C.2.2.2.2.2.2.1 (C.2.2.2.2.2.2.2.1 _ hw) hd (k G p e s m args below meth c H locs ls C hz hW hS hl)
theorem g_ldcS {index i : Nat} {tx : String} (hd : decode M.2.1 pc = .ok (.ldc index, 2)) (hi : mx_strs[i]? = some (M.1.cls, index, tx))
    (k : mx_Go l R M Z uc us (pc + 2) L (.ref (1001 + i) :: st) h) : mx_Go l R M Z uc us pc L st h := by
  intro G p e s m args below meth c H locs ls C hz hW hS hl
  have h9 := C.2.2.2.2.2.2.2.2.2.2.2.2.2.1 i _ hi
  have e9 : mx_ad G (1001 + i) = G.2.2.2.1 (1001 + i) := by unfold mx_ad; rw [if_neg (by omega)]
  refine va_ldcS C.1 C.2.1 C.2.2.2.2.2.2.1 h9 hd ?_
  have k9 := k G p e s m args below meth c H locs ls C hz hW hS hl
  rw [← e9]
  exact k9
end RULES
