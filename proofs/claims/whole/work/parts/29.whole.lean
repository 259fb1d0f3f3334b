/-! THE CLAIM OUT OF ONE WALK OF THE LAW'S BODY. Your part is whole_start (and what it stands on); all else here is the same for every law, but numbers. -/
def R_law : String := "TakeOverLaw"
def lw_P (b : Addr) (xs : List Int32) (args : Array Value) (s : State) : Prop := args = #[.ref b] ∧ s.IntsAt b xs ∧ xs.length ≤ 3584 ∧ (Jvm.Cond.and given_1 narrow_1).before args s = true
def lw_Q (_ : Array Value) (s : State) (o : Outcome) (t : State) : Prop := o = .returned (some (.int 1)) ∧ Framed s o t [] 600000 7302250
def lw_Z (below : List Frame) (a : Array Value) (s : State) : State → Prop := fun t => ∃ o, t.status = .running ∧ Ended t below o ∧ lw_Q a s o t
/-- the law's own end, with 1 on the stack, nothing written that was there before, its room as the claim has it -/
theorem lw_ret {p : Program} {l : Launch} {e : Env} {s : State} {m : MethodId} {below : List Frame} {meth : Method} {c : Code} {b : Nat} (hx : p.tables.exec = Jvm.exec) (hb : c.code = code) (hr : meth.sig.returnType = ret) (hlocks : meth.locks = false) {pc : Nat} {H : Heap} {ls : Array Slot} (hdg : decode code pc = .ok (.ireturn, 1)) : W p l e room_1 s m #[Value.ref b] below meth c H [] 600000 7302250 (lw_Z below #[Value.ref b] s) (F0 m pc ls [.int 1]) := by
  intro T hT X
  obtain ⟨fs, hret, hrun, hended, hW, hframe⟩ := X.leave (v := some (.int 1)) (hlocks := hlocks) (fun h => by rw [hr] at h; cases h)
  have hmeth' : T.vm.method? m = some meth := X.method'
  refine ⟨T.setFrames fs, ?_, .returned (some (.int 1)), hrun, hended, rfl, ⟨_, rfl⟩, hW, hframe⟩
  jvm_step X.here [X.here.top, hx, hb, hdg, hmeth', hr, ret, narrow_b1]
  (try refine ⟨rfl, ?_⟩); (try refine ⟨rfl, ?_⟩)
  first | (intro acts; rw [hret _ acts rfl rfl rfl]) | rw [hret _ _ rfl rfl rfl]
  exact Steps.refl _
/-- what holds at the law's entry: the machine, the code, the tables' words (any of lw_tbl by 'hts w (by decide +kernel)'), the script of L ints xs at the cell b, what the Statement gives of the start (any of its parts by flat_of_before) -/
def lw_At (p : Program) (s : State) (m : MethodId) (meth : Method) (c : Code) (b L : Nat) (xs : Nat → Int32) : Prop :=
  p.tables.exec = Jvm.exec ∧ c.code = code ∧ meth.sig.returnType = ret ∧ c.maxLocals = 4 ∧ s.vm.findClass R_law = some m.cls ∧ (∀ w ∈ lw_tbl, w.before #[Value.ref b] s = true) ∧ va_X b L xs s s.heap ∧ b < s.heap.size ∧ meth.locks = false ∧ (Jvm.Cond.and given_1 narrow_1).before #[Value.ref b] s = true
/-! the law from its entry, over pairs of contracts -/
def mx_I0 (I : mx_I) : mx_I := cf_X12_init_120 (mx_zero (cf_X11_init_0 (mx_zero I 0)) 120)
set_option maxRecDepth 10000 in
theorem law_begin {l : Launch} {Z : mx_G → List Frame → Array Value → State → State → Prop} {L0 : Nat} {xs : Nat → Int32} {I : mx_I} (k : mx_Go l room_1 mL_law (mx_S L0 xs Z) 132 13954 18 [.ref 1000, .ref 0, .ref 120, .int 0] [] (sk0 55, mx_I0 I)) :
    mx_Go l room_1 mL_law (mx_S L0 xs Z) 0 0 0 [.ref 1000, .retAddr 0, .retAddr 0, .retAddr 0] [] ([], I) := by
  refine g_new (ci := 11) (n0 := 0) (C0 := RX11) (T0 := TX11) (N := 10) (ty0 := tyX11) rfl inX11 tyX11_ok rfl (by decide) dL_law_0 lcl_L_7 lin_X11 lii_X11 rfl (by decide) (by decide) (by decide) ?_
  refine g_dup dL_law_3 rfl ?_
  change mx_Go l room_1 mL_law (mx_S L0 xs Z) 1 10 4 _ [.ref 0, .ref 0] (ks_1, mx_zero I 0)
  refine g_callI (M' := mX11_init) (As := []) (st := [.ref 0]) (ct_X11_init_0 (d := 50)) dL_law_4 lm_L_9 okX11_init oiX11_init rfl rfl (by decide) (by simp [Value.category]) (by decide) (by decide) (by decide) (by decide) rfl ?_
  rintro _ _ ⟨rfl, rfl⟩
  change mx_Go l room_1 mL_law (mx_S L0 xs Z) 120 6577 7 _ [.ref 0] (ks_44, cf_X11_init_0 (mx_zero I 0))
  refine s_astore_n (L' := [.ref 1000, .ref 0, .retAddr 0, .retAddr 0]) dL_law_7 rfl (by decide) rfl rfl ?_
  refine g_new (ci := 12) (n0 := 120) (C0 := RX12) (T0 := TX12) (N := 33) (ty0 := tyX12) rfl inX12 tyX12_ok rfl (by decide) dL_law_8 lcl_L_10 lin_X12 lii_X12 rfl (by decide) (by decide) (by decide) ?_
  refine g_dup dL_law_11 rfl ?_
  change mx_Go l room_1 mL_law (mx_S L0 xs Z) 121 6610 12 _ [.ref 120, .ref 120] (ks_45, mx_zero (cf_X11_init_0 (mx_zero I 0)) 120)
  refine g_callI (M' := mX12_init) (As := []) (st := [.ref 120]) (ct_X12_init_120 (d := 50)) dL_law_12 lm_L_12 okX12_init oiX12_init rfl rfl (by decide) (by simp [Value.category]) (by decide) (by decide) (by decide) (by decide) rfl ?_
  rintro _ _ ⟨rfl, rfl⟩
  change mx_Go l room_1 mL_law (mx_S L0 xs Z) 132 13954 15 _ [.ref 120] (sk0 55, mx_I0 I)
  refine s_astore_n (L' := [.ref 1000, .ref 0, .ref 120, .retAddr 0]) dL_law_15 rfl (by decide) rfl rfl ?_
  refine g_iconst (v := 0) dL_law_16 (by decide) ?_
  refine s_istore_n (L' := [.ref 1000, .ref 0, .ref 120, .int 0]) dL_law_17 rfl (by decide) rfl rfl ?_
  exact k
def lw_Z0 (b : Nat) : mx_G → List Frame → Array Value → State → State → Prop := fun G below args s t => (G.2.2.1 = s.heap.size ∧ args = #[Value.ref b]) → lw_Z below #[Value.ref b] s t
theorem W_mono {p : Program} {l : Launch} {e : Env} {R : Room} {s : State} {m : MethodId} {args : Array Value} {below : List Frame} {meth : Method} {c : Code} {H : Heap} {locs : List Loc} {uc us : Nat} {Q Q' : State → Prop} {g : JFrame} (h : ∀ t, Q t → Q' t) (k : W p l e R s m args below meth c H locs uc us Q g) : W p l e R s m args below meth c H locs uc us Q' g := by
  intro T hT X
  obtain ⟨t, a, b⟩ := k T hT X
  exact ⟨t, a, h t b⟩
theorem law_end {l : Launch} {L0 b : Nat} {xs : Nat → Int32} {Ls : List Value} {h : mx_H} : mx_Go l room_1 mL_law (mx_S L0 xs (lw_Z0 b)) 132 13954 1284 Ls [.int 1] h := by
  intro G p e s m args below meth c H locs ls C hz hW hS hl
  by_cases hG : G.2.2.1 = s.heap.size ∧ args = #[Value.ref b]
  · obtain ⟨h1, h2⟩ := hG
    subst h2
    refine W_mono (Q := lw_Z below #[Value.ref b] s) (fun t ht _ _ => ht) ?_
    refine va_forget (fun q hq => ?_) ?_
    · have h3 : G.2.2.1 ≤ q.base := hS.2.2 q hq
      rw [h1] at h3
      exact h3
    · refine W.widen (k := 600000) (n := 7302250) (by decide) (by decide) ?_
      exact lw_ret C.1 C.2.1 C.2.2.2.1 C.2.2.2.2.1 dL_law_1284
  · exact W_mono (Q := fun t => (G.2.2.1 = s.heap.size ∧ args = #[Value.ref b]) → lw_Z below #[Value.ref b] s t) (fun t ht _ => ht) (mx_triv hG)
theorem whole_of {Sim : Nat → mx_I → Prop} (l : Launch) (p_bridges : ∀ a1 : Int32, mx_PrI l Sim mX11_bridges mX12_bridges [.int a1]) (p_load : ∀ a1 a2 a3 : Int32, mx_PrI l Sim mX11_load mX12_load [.int a1, .int a2, .int a3]) (p_fetch : ∀ a1 a2 a3 : Int32, mx_PrI l Sim mX11_fetch mX12_fetch [.int a1, .int a2, .int a3]) (p_crosser : ∀ a1 a2 a3 a4 a5 a6 : Int32, mx_PrI l Sim mX11_crosser mX12_crosser [.int a1, .int a2, .int a3, .int a4, .int a5, .int a6]) (p_kind : ∀ a1 a2 a3 : Int32, mx_PrI l Sim mX11_kind mX12_kind [.int a1, .int a2, .int a3]) (p_set : ∀ a1 a2 a3 : Int32, mx_PrI l Sim mX11_set mX12_set [.int a1, .int a2, .int a3]) (p_feed : ∀ a1 a2 a3 a4 a5 : Int32, mx_PrI l Sim mX11_feed mX12_feed [.int a1, .int a2, .int a3, .int a4, .int a5]) (p_end : ∀ a1 : Int32, mx_PrI l Sim mX11_end mX12_end [.int a1]) (p_text : mx_PrI l Sim mX11_text mX12_text []) (p_fault : ∀ a1 : Int32, mx_PrI l Sim mX11_fault mX12_fault [.int a1]) (p_hours : ∀ a1 : Int32, mx_PrI l Sim mX11_hours mX12_hours [.int a1]) (p_of : ∀ a1 a2 : Int32, mx_PrI l Sim mX11_of mX12_of [.int a1, .int a2]) (p_who : ∀ a1 a2 : Int32, mx_PrI l Sim mX11_who mX12_who [.int a1, .int a2]) (p_waits : ∀ a1 a2 : Int32, mx_PrI l Sim mX11_waits mX12_waits [.int a1, .int a2]) (p_book : ∀ a1 a2 : Int32, mx_PrI l Sim mX11_book mX12_book [.int a1, .int a2]) (p_over : ∀ a1 a2 : Int32, mx_PrI l Sim mX11_over mX12_over [.int a1, .int a2]) (p_back : ∀ a1 : Int32, mx_PrI l Sim mX11_back mX12_back [.int a1]) (p_gathers : ∀ a1 a2 a3 : Int32, mx_PrI l Sim mX11_gathers mX12_gathers [.int a1, .int a2, .int a3]) (p_best : ∀ a1 a2 a3 a4 a5 a6 : Int32, mx_PrI l Sim mX11_best mX12_best [.int a1, .int a2, .int a3, .int a4, .int a5, .int a6]) (p_send : ∀ a1 a2 a3 a4 a5 a6 : Int32, mx_PrI l Sim mX11_send mX12_send [.int a1, .int a2, .int a3, .int a4, .int a5, .int a6]) (p_offer : ∀ a1 a2 a3 a4 a5 : Int32, mx_PrI l Sim mX11_offer mX12_offer [.int a1, .int a2, .int a3, .int a4, .int a5]) (p_fewest : ∀ a1 a2 a3 a4 : Int32, mx_PrI l Sim mX11_fewest mX12_fewest [.int a1, .int a2, .int a3, .int a4]) (p_right : ∀ a1 : Int32, mx_PrI l Sim mX11_right mX12_right [.int a1]) (p_list : ∀ a1 a2 a3 : Int32, mx_PrI l Sim mX11_list mX12_list [.int a1, .int a2, .int a3]) (p_night : ∀ a1 : Int32, mx_PrI l Sim mX11_night mX12_night [.int a1]) (p_chance : ∀ a1 a2 a3 a4 : Int32, mx_PrL l Sim mX11_chance mX12_chance [.int a1, .int a2, .int a3, .int a4]) (p_image : ∀ a : Int32, a = 0 ∨ a = 1 → mx_PrI l Sim mX11_image mX12_image [.int a]) (p_look : ∀ a1 : Int32, mx_PrI l Sim mX11_look mX12_look [.int a1]) (hinit : ∀ I : mx_I, Sim 55 (mx_I0 I)) {p : Program} {e : Env} {s : State} {m : MethodId} {below : List Frame} {meth : Method} {c : Code} {b L : Nat} {xs : Nat → Int32} (hL : L ≤ 3584) (C0 : lw_At p s m meth c b L xs) : W p l e room_1 s m #[Value.ref b] below meth c s.heap [] 0 0 (lw_Z below #[Value.ref b] s) (entryFrame m ([Value.ref b] : List Value).toArray 4) := by
  obtain ⟨hx, hb, hr, hml, hown, hts, hX, hbl, hlocks, hgv⟩ := id C0
  obtain ⟨G, g1, g2, g3, g4, hK⟩ := mx_start hts hX hbl hgv
  have hl := lv_entry ([.ref b]) (n := 4) (Nat.le_of_ble_eq_true rfl)
  rw [lg_entry_eq]
  generalize (lg_sl ([.ref b]) ++ List.replicate (4 - (lg_sl ([.ref b])).length) Slot.unset).toArray = ls at hl ⊢
  have hl : lv_has ls 4 [(0, .ref b)] := hl
  have k9 : mx_Go l room_1 mL_law (mx_S L xs (lw_Z0 b)) 0 0 0 [.ref 1000, .retAddr 0, .retAddr 0, .retAddr 0] [] ([], fun _ _ => 0) := by
    refine law_begin ?_
    exact law_loop hL p_bridges p_load p_fetch p_crosser p_kind p_set p_feed p_end p_text p_fault p_hours p_of p_who p_waits p_book p_over p_back p_gathers p_best p_send p_offer p_fewest p_right p_list p_night p_chance p_image p_look (fun x c I _ => law_end) 3601 0 (by omega) (by omega) 55 _ (hinit _)
  have k8 := k9 G p e s m #[Value.ref b] below meth c s.heap [] ls ⟨hx, hb, hml, hr, hlocks, fun hn => absurd hn (by decide), hown, fun w hw => hts w (mx_g_sub hw), hK⟩ (by rw [g1]; rfl) ⟨by simp, fun k q hq => by simp [mx_ws] at hq⟩ va_S.rf ?_
  · exact W_mono (fun t ht => ht ⟨g3, g4⟩ ⟨g1, rfl⟩) k8
  · refine mx_lv_mono hl fun q hq => ?_
    obtain ⟨j, w⟩ := q
    obtain ⟨h1, h2⟩ := mx_la_mem.mp hq
    have e9 : mx_ad G 1000 = b := (mx_ro (by omega)).trans g2
    simp only [List.map_cons, List.map_nil, mx_cv, e9] at h1
    match j, h1 with
    | 0, h1 => cases h1; exact List.mem_cons_self
    | 1, h1 => cases h1; exact absurd rfl h2
    | 2, h1 => cases h1; exact absurd rfl h2
    | 3, h1 => cases h1; exact absurd rfl h2
    | j + 4, h1 => simp at h1
