/-! the class's reader: a line begins -/
section S
variable {H : List Nat} {o b : Nat} {rt : Bool} {C : List Int32} {ls : List (Int32 × Nat)} {cur : Int32} {f : Nat × Nat} {I : mx_I} {l : Launch} {c : Nat}
theorem RdC.begin {w x : Int32} (h : RdC (0, H, o, b, rt, C, (ls, cur), f) I) (hl : ls.length < 16) (hx : x = 1 - w) : RdC (1, [], 0, 0, rt, C, (ls, w), f) (mx_set (mx_set (mx_set (mx_set (mx_set I 52 ls.length x) 47 6 0) 47 7 0) 47 8 0) 47 9 1) := by
  obtain ⟨⟨p1, p2, p3, p4, p5⟩, h2, h3, h4, ⟨l1, l2, l3, l4⟩, h6, h7⟩ := h
  refine ⟨⟨?_, trivial, ?_, ?_, fun i hi => ?_⟩, ?_, ?_, ?_, ⟨l1, ?_, ?_, fun i hi => ?_⟩, Or.inr (Or.inr ⟨hl, ?_⟩), ?_⟩
  · rw [ms_at (Or.inr (by omega)), ms_at (Or.inr (by omega)), ms_at (Or.inr (by omega)), ms_self, upd_eq]; rfl
  · rw [ms_at (Or.inr (by omega)), ms_at (Or.inr (by omega)), ms_self, upd_eq]; rfl
  · rw [ms_ne (by omega), ms_ne (by omega), ms_ne (by omega), ms_ne (by omega), ms_ne (by omega)]; exact p4
  · rw [ms_ne (by omega), ms_ne (by omega), ms_ne (by omega), ms_ne (by omega), ms_ne (by omega)]; exact p5 i hi
  · rw [ms_self, upd_eq]; rfl
  · rw [ms_at (Or.inr (by omega)), ms_self, upd_eq]; rfl
  · rw [ms_at (Or.inr (by omega)), ms_at (Or.inr (by omega)), ms_at (Or.inr (by omega)), ms_at (Or.inr (by omega)), ms_ne (by omega)]; exact h4
  · rw [ms_ne (by omega), ms_ne (by omega), ms_ne (by omega), ms_ne (by omega), ms_ne (by omega)]; exact l2
  · rw [ms_ne (by omega), ms_ne (by omega), ms_ne (by omega), ms_ne (by omega), ms_ne (by omega)]; exact l3
  · have hi' : i < ls.length := hi
    have e52 : mx_set (mx_set (mx_set (mx_set (mx_set I 52 ls.length x) 47 6 0) 47 7 0) 47 8 0) 47 9 1 52 i = I 52 i := by
      rw [ms_ne (by omega), ms_ne (by omega), ms_ne (by omega), ms_ne (by omega), ms_at (Or.inr (by omega))]
    have e51 : mx_set (mx_set (mx_set (mx_set (mx_set I 52 ls.length x) 47 6 0) 47 7 0) 47 8 0) 47 9 1 51 (i + 1) = I 51 (i + 1) := by
      rw [ms_ne (by omega), ms_ne (by omega), ms_ne (by omega), ms_ne (by omega), ms_ne (by omega)]
    rw [e52, e51]; exact l4 i hi
  · show mx_set (mx_set (mx_set (mx_set (mx_set I 52 ls.length x) 47 6 0) 47 7 0) 47 8 0) 47 9 1 52 ls.length = 1 - w
    rw [ms_ne (by omega), ms_ne (by omega), ms_ne (by omega), ms_ne (by omega), ms_self, upd_eq]; exact hx
  · have hf : FtC f (mx_set I 52 ls.length x) := ⟨fun z => by rw [ms_ne (by omega)]; exact h7.1 z, fun z => by rw [ms_ne (by omega)]; exact h7.2 z⟩
    exact (((hf.off (by omega)).off (by omega)).off (by omega)).off (by omega)
end S
