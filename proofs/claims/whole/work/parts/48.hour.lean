/-! one hour, as numbers and lists alone -/
abbrev HS : Type := mx_I × (Nat → List Nat) × Nat × Nat × Nat
abbrev HS.r (A : HS) : mx_I := A.1
abbrev HS.hp (A : HS) : Nat → List Nat := A.2.1
abbrev HS.st (A : HS) : Nat := A.2.2.1
abbrev HS.nk (A : HS) : Nat := A.2.2.2.1
abbrev HS.now (A : HS) : Nat := A.2.2.2.2
def HS.set (A : HS) (k i : Nat) (x : Int32) : HS := (mx_set A.1 k i x, A.2)
def HS.setH (A : HS) (e : Nat) (L : List Nat) : HS := (A.1, (fun x => if x = e then L else A.2.1 x), A.2.2)
/-- what was told: rows, the law; how many bridges, loads, crossers, offers; whether it is written; whether what they bore counts -/
abbrev Pm : Type := mx_I × lw_ps × (Nat × Nat × Nat × Nat) × Bool × Bool
abbrev Pm.R (P : Pm) : mx_I := P.1
abbrev Pm.ps (P : Pm) : lw_ps := P.2.1
abbrev Pm.nb (P : Pm) : Nat := P.2.2.1.1
abbrev Pm.nl (P : Pm) : Nat := P.2.2.1.2.1
abbrev Pm.nc (P : Pm) : Nat := P.2.2.1.2.2.1
abbrev Pm.no (P : Pm) : Nat := P.2.2.1.2.2.2
abbrev Pm.wr (P : Pm) : Bool := P.2.2.2.1
abbrev Pm.fl (P : Pm) : Bool := P.2.2.2.2
def hs_comes (P : Pm) (l e h : Nat) (A : HS) : HS :=
  ((if nI l = P.R 65 11 ∧ nI e = P.R 65 12 ∧ A.r 65 13 = -1 then mx_set (mx_set (mx_set (mx_set A.r 1 l (nI e)) 2 l (nI h)) 5 l (nI A.st)) 65 13 (nI h) else mx_set (mx_set (mx_set A.r 1 l (nI e)) 2 l (nI h)) 5 l (nI A.st)), (fun x => if x = e then A.hp e ++ [l] else A.hp x), A.st + 1, A.nk, A.now)
def hs_write (l c h : Nat) (A : HS) : HS := if A.nk < 300 then (mx_set (mx_set (mx_set A.r 44 A.nk (nI l)) 45 A.nk (nI c)) 46 A.nk (nI h), A.hp, A.st, A.nk + 1, A.now) else A
def hs_one (P : Pm) (w : Bool) (to h c l : Nat) (A : HS) : HS := if w = true then hs_write l c h (hs_comes P l to h (A.set 3 l (A.r 3 l + 1))) else hs_comes P l to h (A.set 3 l (A.r 3 l + 1))
def hs_ones (P : Pm) (w : Bool) (to h c : Nat) : List Nat → HS → HS
  | [], A => A
  | l :: ls, A => hs_ones P w to h c ls (hs_one P w to h c l A)
def hs_drop (e : Nat) (ls : List Nat) (A : HS) : HS := A.setH e ((A.hp e).filter (fun x => !ls.contains x))
def hs_carry (P : Pm) (w : Bool) (fr to h c : Nat) (ls : List Nat) (A : HS) : HS :=
  HS.set (hs_ones P w to h c ls (hs_drop fr ls A)) 65 15 ((hs_ones P w to h c ls (hs_drop fr ls A)).r 65 15 + nI ls.length)
def pk_go (wt : Nat → Int32) (strict : Bool) (lets : Nat → Int32 → Bool) (free : Int32) : List Nat → Int32 → List Nat → List Nat × Int32
  | [], s, acc => (acc, s)
  | l :: ls, s, acc => if free - s < wt l then (if strict = true then (acc, s) else pk_go wt strict lets free ls s acc)
    else if lets l (free - s) = true then pk_go wt strict lets free ls (s + wt l) (acc ++ [l]) else pk_go wt strict lets free ls s acc
def hs_lets (P : Pm) (A : HS) (e : Nat) (own : Int32) (h : Nat) (l : Nat) (room : Int32) : Bool := lw_lets (lw_f (P.R 3 l) room (nI h - A.r 2 l) (nI (A.hp e).length) own (nI h) (A.r 3 l)) P.ps
def hs_pick (P : Pm) (A : HS) (e : Nat) (free own : Int32) (h : Nat) : List Nat × Int32 := pk_go (P.R 3) (decide (P.R 1 7 = 1)) (hs_lets P A e own h) free (A.hp e) 0 []
def pm_fr (P : Pm) (k i : Nat) : Nat := (P.R k i + P.R (k + 1) i).toNatClampNeg
def pm_to (P : Pm) (k i : Nat) : Nat := (P.R k i + 1 - P.R (k + 1) i).toNatClampNeg
def hs_cross1 (P : Pm) (i h : Nat) (A : HS) : HS :=
  let q := hs_pick P A (pm_fr P 10 i) (P.R 12 i - P.R 13 i) (P.R 13 i) h
  if ¬ P.R 65 8 = -1 ∧ P.R 65 8 < P.R 14 i * q.2 then
    (((A.set 7 i (nI h)).set 9 i (P.R 65 8)).set 0 10 (A.r 0 10 + P.R 65 8)).set 65 14 (if A.r 65 14 = -1 then P.R 14 i * q.2 else if P.R 14 i * q.2 < A.r 65 14 then P.R 14 i * q.2 else A.r 65 14)
  else hs_carry P P.wr (pm_fr P 10 i) (pm_to P 10 i) h i q.1 ((A.set 7 i (nI h)).set 8 i q.2)
/-- step f at i, i + 1 .. up to n -/
def hs_run (f : Nat → HS → HS) : Nat → Nat → HS → HS
  | 0, _, A => A
  | m + 1, i, A => hs_run f m (i + 1) (f i A)
def hs_behind (P : Pm) (j i : Nat) (A : HS) : Bool := decide (P.R 15 j = 2 ∧ P.R 16 j = nI i ∧ A.r 7 j = -1 ∧ bt (P.R 65 10) j = false)
def hs_cross (P : Pm) (h : Nat) : Nat → Nat → HS → HS
  | 0, _, A => A
  | n + 1, i, A => hs_run (fun j B => if hs_behind P j i B = true then hs_cross P h n j B else B) P.nc 0 (hs_cross1 P i h A)
def hs_goes (P : Pm) (i h : Nat) (A : HS) : Bool := decide (A.r 7 i = -1 ∧ bt (P.R 65 10) i = false ∧ P.R 9 i ≤ nI h ∧ ((P.R 15 i = 0 ∧ nI h = P.R 9 i) ∨ (P.R 15 i = 1 ∧ (P.R 9 i + P.R 16 i ≤ nI h ∨ A.hp (pm_fr P 10 i) = []))))
def hs_bring1 (P : Pm) (h l : Nat) (A : HS) : HS := if P.R 5 l = nI h ∧ A.r 1 l = -1 then hs_comes P l (P.R 4 l).toNatClampNeg h A else A
def hs_fetch1 (P : Pm) (h l : Nat) (A : HS) : HS := if (P.R 6 l ≠ -1 ∧ P.R 7 l = nI h) ∧ A.r 1 l = P.R 6 l ∧ A.r 4 l = 0 then (hs_drop (P.R 6 l).toNatClampNeg [l] A).set 4 l 1 else A
def hs_walk1 (P : Pm) (h i : Nat) (A : HS) : HS := if hs_goes P i h A = true then hs_cross P h 20 i A else A
def hs_offer1 (P : Pm) (h o : Nat) (A : HS) : HS := if bt (P.R 65 9) o = true ∧ P.R 19 o = nI h then hs_carry P false (pm_fr P 20 o) (pm_to P 20 o) h 0 (hs_pick P A (pm_fr P 20 o) (P.R 22 o) 0 h).1 A else A
def hs_bring (P : Pm) (h : Nat) (A : HS) : HS := hs_run (hs_bring1 P h) P.nl 0 A
def hs_fetch (P : Pm) (h : Nat) (A : HS) : HS := hs_run (hs_fetch1 P h) P.nl 0 A
def hs_walk (P : Pm) (h : Nat) (A : HS) : HS := hs_run (hs_walk1 P h) P.nc 0 A
def hs_offers (P : Pm) (h : Nat) (A : HS) : HS := hs_run (hs_offer1 P h) P.no 0 A
def HS.tick (A : HS) : HS := (A.1, A.2.1, A.2.2.1, A.2.2.2.1, A.2.2.2.2 + 1)
def hs_hour (P : Pm) (A : HS) : HS := (hs_offers P A.now (hs_walk P A.now (hs_fetch P A.now (hs_bring P A.now A)))).tick
