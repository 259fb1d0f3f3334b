/-! forgetting locals; bits; numbers -/
def mx_le : List Value → List Value → Prop
  | _, [] => True
  | [], _ :: _ => False
  | a :: L, b :: L' => (b = .retAddr 0 ∨ a = b) ∧ mx_le L L'
theorem mx_le_get : ∀ {L L' : List Value}, mx_le L L' → ∀ {i : Nat} {v : Value}, L'[i]? = some v → v ≠ .retAddr 0 → L[i]? = some v
  | _, [], _, i, v, h, _ => by simp at h
  | [], _ :: _, hl, _, _, _, _ => hl.elim
  | a :: L, b :: L', hl, 0, v, h, hv => by
    simp at h
    subst h
    rcases hl.1 with e | e
    · exact absurd e hv
    · simp [e]
  | a :: L, b :: L', hl, i + 1, v, h, hv => by
    simp at h ⊢
    exact mx_le_get hl.2 h hv
/-- what is no more known of locals -/
theorem mx_fg {l : Launch} {R : Room} {M : mx_M} {Z : mx_G → List Frame → Array Value → State → State → Prop} {uc us pc : Nat} {L L' st : List Value} {h : mx_H} (hl : mx_le L L') (k : mx_Go l R M Z uc us pc L' st h) : mx_Go l R M Z uc us pc L st h := by
  intro G p e s m args below meth c H locs ls C hz hW hS hv
  refine k G p e s m args below meth c H locs ls C hz hW hS (mx_lv_mono hv fun q hq => ?_)
  obtain ⟨i, v⟩ := q
  rw [mx_la_mem] at hq ⊢
  obtain ⟨h1, h2⟩ := hq
  rw [List.getElem?_map] at h1 ⊢
  cases hx : L'[i]? with
  | none => rw [hx] at h1; simp at h1
  | some x =>
    rw [hx] at h1
    simp at h1
    have hr : x ≠ .retAddr 0 := by
      rintro rfl
      exact h2 (h1 ▸ rfl)
    rw [mx_le_get hl hx hr]
    exact ⟨by simp [h1], h2⟩
