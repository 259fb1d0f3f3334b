theorem inX0 : ∀ w ∈ u_ws RX0 TX0 4, w ∈ mx_g := by decide +kernel
theorem inX1 : ∀ w ∈ u_ws RX1 TX1 16, w ∈ mx_g := by decide +kernel
theorem inX2 : ∀ w ∈ u_ws RX2 TX2 10, w ∈ mx_g := by decide +kernel
theorem inX3 : ∀ w ∈ u_ws RX3 TX3 6, w ∈ mx_g := by decide +kernel
theorem inX4 : ∀ w ∈ u_ws RX4 TX4 4, w ∈ mx_g := by decide +kernel
theorem inX5 : ∀ w ∈ u_ws RX5 TX5 6, w ∈ mx_g := by decide +kernel
theorem inX6 : ∀ w ∈ u_ws RX6 TX6 6, w ∈ mx_g := by decide +kernel
theorem inX7 : ∀ w ∈ u_ws RX7 TX7 5, w ∈ mx_g := by decide +kernel
theorem inX8 : ∀ w ∈ u_ws RX8 TX8 15, w ∈ mx_g := by decide +kernel
theorem inX9 : ∀ w ∈ u_ws RX9 TX9 11, w ∈ mx_g := by decide +kernel
theorem inX10 : ∀ w ∈ u_ws RX10 TX10 8, w ∈ mx_g := by decide +kernel
theorem inX11 : ∀ w ∈ u_ws RX11 TX11 10, w ∈ mx_g := by decide +kernel
theorem inX12 : ∀ w ∈ u_ws RX12 TX12 33, w ∈ mx_g := by decide +kernel
section FIELDRULES
variable {l : Launch} {R : Room} {M : mx_M} {Z : mx_G → List Frame → Array Value → State → State → Prop} {uc us pc : Nat} {L st : List Value} {sk : mx_Sk} {I : mx_I} {idx k : Nat} {refs : List (Option Nat)}
theorem rg_X0_0 {r : Nat} (hd : decode M.2.1 pc = .ok (.getfield idx, 3)) (hw : Cond.fieldLink M.1.cls idx "TakeOver$Book" "loads" "[I" ∈ mx_g) (hk : sk[k]? = some (.inr (0, refs))) (hr : refs.getD 0 none = some r)
    (kk : mx_Go l R M Z uc us (pc + 3) L (.ref r :: st) (sk, I)) : mx_Go l R M Z uc us pc L (.ref k :: st) (sk, I) :=
  g_getf (h := (sk, I)) (ci := 0) (C0 := RX0) (T := TX0) (N := 4) (j := 0) rfl inX0 rfl (by decide) hd hw hk (show mx_rv (refs.getD 0 none) = .ref r by rw [hr]; rfl) kk
theorem rp_X0_0 {r : Nat} (hin2 : M.1.name = "<init>") (hdecl : "TakeOver$Book" = M.1.cls) (hd : decode M.2.1 pc = .ok (.putfield idx, 3)) (hw : Cond.fieldLink M.1.cls idx "TakeOver$Book" "loads" "[I" ∈ mx_g) (hk : sk[k]? = some (.inr (0, refs))) (hl0 : 0 < refs.length)
    (kk : mx_Go l R M Z uc us (pc + 3) L st (sk.set k (.inr (0, refs.set 0 (some r))), I)) : mx_Go l R M Z uc us pc L (.ref r :: .ref k :: st) (sk, I) :=
  g_putrF (h := (sk, I)) (ci := 0) (C0 := RX0) (T := TX0) (N := 4) (j := 0) (ty0 := tyX0) rfl inX0 tyX0_ok nmX0 rfl (by decide) rfl rfl (fun _ => rfl) (fun _ => rfl) hin2 hdecl hd hw hk hl0 kk
theorem rg_X0_1 {r : Nat} (hd : decode M.2.1 pc = .ok (.getfield idx, 3)) (hw : Cond.fieldLink M.1.cls idx "TakeOver$Book" "crossers" "[I" ∈ mx_g) (hk : sk[k]? = some (.inr (0, refs))) (hr : refs.getD 1 none = some r)
    (kk : mx_Go l R M Z uc us (pc + 3) L (.ref r :: st) (sk, I)) : mx_Go l R M Z uc us pc L (.ref k :: st) (sk, I) :=
  g_getf (h := (sk, I)) (ci := 0) (C0 := RX0) (T := TX0) (N := 4) (j := 1) rfl inX0 rfl (by decide) hd hw hk (show mx_rv (refs.getD 1 none) = .ref r by rw [hr]; rfl) kk
theorem rp_X0_1 {r : Nat} (hin2 : M.1.name = "<init>") (hdecl : "TakeOver$Book" = M.1.cls) (hd : decode M.2.1 pc = .ok (.putfield idx, 3)) (hw : Cond.fieldLink M.1.cls idx "TakeOver$Book" "crossers" "[I" ∈ mx_g) (hk : sk[k]? = some (.inr (0, refs))) (hl0 : 1 < refs.length)
    (kk : mx_Go l R M Z uc us (pc + 3) L st (sk.set k (.inr (0, refs.set 1 (some r))), I)) : mx_Go l R M Z uc us pc L (.ref r :: .ref k :: st) (sk, I) :=
  g_putrF (h := (sk, I)) (ci := 0) (C0 := RX0) (T := TX0) (N := 4) (j := 1) (ty0 := tyX0) rfl inX0 tyX0_ok nmX0 rfl (by decide) rfl rfl (fun _ => rfl) (fun _ => rfl) hin2 hdecl hd hw hk hl0 kk
theorem rg_X0_2 {r : Nat} (hd : decode M.2.1 pc = .ok (.getfield idx, 3)) (hw : Cond.fieldLink M.1.cls idx "TakeOver$Book" "hours" "[I" ∈ mx_g) (hk : sk[k]? = some (.inr (0, refs))) (hr : refs.getD 2 none = some r)
    (kk : mx_Go l R M Z uc us (pc + 3) L (.ref r :: st) (sk, I)) : mx_Go l R M Z uc us pc L (.ref k :: st) (sk, I) :=
  g_getf (h := (sk, I)) (ci := 0) (C0 := RX0) (T := TX0) (N := 4) (j := 2) rfl inX0 rfl (by decide) hd hw hk (show mx_rv (refs.getD 2 none) = .ref r by rw [hr]; rfl) kk
theorem rp_X0_2 {r : Nat} (hin2 : M.1.name = "<init>") (hdecl : "TakeOver$Book" = M.1.cls) (hd : decode M.2.1 pc = .ok (.putfield idx, 3)) (hw : Cond.fieldLink M.1.cls idx "TakeOver$Book" "hours" "[I" ∈ mx_g) (hk : sk[k]? = some (.inr (0, refs))) (hl0 : 2 < refs.length)
    (kk : mx_Go l R M Z uc us (pc + 3) L st (sk.set k (.inr (0, refs.set 2 (some r))), I)) : mx_Go l R M Z uc us pc L (.ref r :: .ref k :: st) (sk, I) :=
  g_putrF (h := (sk, I)) (ci := 0) (C0 := RX0) (T := TX0) (N := 4) (j := 2) (ty0 := tyX0) rfl inX0 tyX0_ok nmX0 rfl (by decide) rfl rfl (fun _ => rfl) (fun _ => rfl) hin2 hdecl hd hw hk hl0 kk
theorem rg_X0_3 {v : Int32} (hd : decode M.2.1 pc = .ok (.getfield idx, 3)) (hw : Cond.fieldLink M.1.cls idx "TakeOver$Book" "lines" "I" ∈ mx_g) (hk : sk[k]? = some (.inr (0, refs))) (hv : I k 3 = v)
    (kk : mx_Go l R M Z uc us (pc + 3) L (.int v :: st) (sk, I)) : mx_Go l R M Z uc us pc L (.ref k :: st) (sk, I) :=
  g_getf (h := (sk, I)) (ci := 0) (C0 := RX0) (T := TX0) (N := 4) (j := 3) rfl inX0 rfl (by decide) hd hw hk rfl (by show mx_Go l R M Z uc us (pc + 3) L (.int (I k 3) :: st) (sk, I); rw [hv]; exact kk)
theorem rp_X0_3 {x : Int32} (hd : decode M.2.1 pc = .ok (.putfield idx, 3)) (hw : Cond.fieldLink M.1.cls idx "TakeOver$Book" "lines" "I" ∈ mx_g) (hk : sk[k]? = some (.inr (0, refs)))
    (kk : mx_Go l R M Z uc us (pc + 3) L st (sk, mx_set I k 3 x)) : mx_Go l R M Z uc us pc L (.int x :: .ref k :: st) (sk, I) :=
  g_putf (h := (sk, I)) (ci := 0) (C0 := RX0) (T := TX0) (N := 4) (j := 3) (ty0 := tyX0) rfl inX0 tyX0_ok nmX0 rfl (by decide) rfl rfl rfl rfl hd hw hk kk
theorem rg_X1_0 {r : Nat} (hd : decode M.2.1 pc = .ok (.getfield idx, 3)) (hw : Cond.fieldLink M.1.cls idx "TakeOver$Course" "told" "LTakeOver$Told;" ∈ mx_g) (hk : sk[k]? = some (.inr (1, refs))) (hr : refs.getD 0 none = some r)
    (kk : mx_Go l R M Z uc us (pc + 3) L (.ref r :: st) (sk, I)) : mx_Go l R M Z uc us pc L (.ref k :: st) (sk, I) :=
  g_getf (h := (sk, I)) (ci := 1) (C0 := RX1) (T := TX1) (N := 16) (j := 0) rfl inX1 rfl (by decide) hd hw hk (show mx_rv (refs.getD 0 none) = .ref r by rw [hr]; rfl) kk
theorem rp_X1_0 {r : Nat} (hin2 : M.1.name = "<init>") (hdecl : "TakeOver$Course" = M.1.cls) (hd : decode M.2.1 pc = .ok (.putfield idx, 3)) (hw : Cond.fieldLink M.1.cls idx "TakeOver$Course" "told" "LTakeOver$Told;" ∈ mx_g) (hk : sk[k]? = some (.inr (1, refs))) (hl0 : 0 < refs.length)
    (kk : mx_Go l R M Z uc us (pc + 3) L st (sk.set k (.inr (1, refs.set 0 (some r))), I)) : mx_Go l R M Z uc us pc L (.ref r :: .ref k :: st) (sk, I) :=
  g_putrF (h := (sk, I)) (ci := 1) (C0 := RX1) (T := TX1) (N := 16) (j := 0) (ty0 := tyX1) rfl inX1 tyX1_ok nmX1 rfl (by decide) rfl rfl (fun _ => rfl) (fun _ => rfl) hin2 hdecl hd hw hk hl0 kk
theorem rg_X1_1 {r : Nat} (hd : decode M.2.1 pc = .ok (.getfield idx, 3)) (hw : Cond.fieldLink M.1.cls idx "TakeOver$Course" "book" "LTakeOver$Book;" ∈ mx_g) (hk : sk[k]? = some (.inr (1, refs))) (hr : refs.getD 1 none = some r)
    (kk : mx_Go l R M Z uc us (pc + 3) L (.ref r :: st) (sk, I)) : mx_Go l R M Z uc us pc L (.ref k :: st) (sk, I) :=
  g_getf (h := (sk, I)) (ci := 1) (C0 := RX1) (T := TX1) (N := 16) (j := 1) rfl inX1 rfl (by decide) hd hw hk (show mx_rv (refs.getD 1 none) = .ref r by rw [hr]; rfl) kk
theorem rp_X1_1 {r : Nat} (hin2 : M.1.name = "<init>") (hdecl : "TakeOver$Course" = M.1.cls) (hd : decode M.2.1 pc = .ok (.putfield idx, 3)) (hw : Cond.fieldLink M.1.cls idx "TakeOver$Course" "book" "LTakeOver$Book;" ∈ mx_g) (hk : sk[k]? = some (.inr (1, refs))) (hl0 : 1 < refs.length)
    (kk : mx_Go l R M Z uc us (pc + 3) L st (sk.set k (.inr (1, refs.set 1 (some r))), I)) : mx_Go l R M Z uc us pc L (.ref r :: .ref k :: st) (sk, I) :=
  g_putrF (h := (sk, I)) (ci := 1) (C0 := RX1) (T := TX1) (N := 16) (j := 1) (ty0 := tyX1) rfl inX1 tyX1_ok nmX1 rfl (by decide) rfl rfl (fun _ => rfl) (fun _ => rfl) hin2 hdecl hd hw hk hl0 kk
theorem rg_X1_2 {r : Nat} (hd : decode M.2.1 pc = .ok (.getfield idx, 3)) (hw : Cond.fieldLink M.1.cls idx "TakeOver$Course" "plan" "LTakeOver$Plan;" ∈ mx_g) (hk : sk[k]? = some (.inr (1, refs))) (hr : refs.getD 2 none = some r)
    (kk : mx_Go l R M Z uc us (pc + 3) L (.ref r :: st) (sk, I)) : mx_Go l R M Z uc us pc L (.ref k :: st) (sk, I) :=
  g_getf (h := (sk, I)) (ci := 1) (C0 := RX1) (T := TX1) (N := 16) (j := 2) rfl inX1 rfl (by decide) hd hw hk (show mx_rv (refs.getD 2 none) = .ref r by rw [hr]; rfl) kk
theorem rp_X1_2 {r : Nat} (hin2 : M.1.name = "<init>") (hdecl : "TakeOver$Course" = M.1.cls) (hd : decode M.2.1 pc = .ok (.putfield idx, 3)) (hw : Cond.fieldLink M.1.cls idx "TakeOver$Course" "plan" "LTakeOver$Plan;" ∈ mx_g) (hk : sk[k]? = some (.inr (1, refs))) (hl0 : 2 < refs.length)
    (kk : mx_Go l R M Z uc us (pc + 3) L st (sk.set k (.inr (1, refs.set 2 (some r))), I)) : mx_Go l R M Z uc us pc L (.ref r :: .ref k :: st) (sk, I) :=
  g_putrF (h := (sk, I)) (ci := 1) (C0 := RX1) (T := TX1) (N := 16) (j := 2) (ty0 := tyX1) rfl inX1 tyX1_ok nmX1 rfl (by decide) rfl rfl (fun _ => rfl) (fun _ => rfl) hin2 hdecl hd hw hk hl0 kk
theorem rg_X1_3 {r : Nat} (hd : decode M.2.1 pc = .ok (.getfield idx, 3)) (hw : Cond.fieldLink M.1.cls idx "TakeOver$Course" "picked" "[I" ∈ mx_g) (hk : sk[k]? = some (.inr (1, refs))) (hr : refs.getD 3 none = some r)
    (kk : mx_Go l R M Z uc us (pc + 3) L (.ref r :: st) (sk, I)) : mx_Go l R M Z uc us pc L (.ref k :: st) (sk, I) :=
  g_getf (h := (sk, I)) (ci := 1) (C0 := RX1) (T := TX1) (N := 16) (j := 3) rfl inX1 rfl (by decide) hd hw hk (show mx_rv (refs.getD 3 none) = .ref r by rw [hr]; rfl) kk
theorem rp_X1_3 {r : Nat} (hin2 : M.1.name = "<init>") (hdecl : "TakeOver$Course" = M.1.cls) (hd : decode M.2.1 pc = .ok (.putfield idx, 3)) (hw : Cond.fieldLink M.1.cls idx "TakeOver$Course" "picked" "[I" ∈ mx_g) (hk : sk[k]? = some (.inr (1, refs))) (hl0 : 3 < refs.length)
    (kk : mx_Go l R M Z uc us (pc + 3) L st (sk.set k (.inr (1, refs.set 3 (some r))), I)) : mx_Go l R M Z uc us pc L (.ref r :: .ref k :: st) (sk, I) :=
  g_putrF (h := (sk, I)) (ci := 1) (C0 := RX1) (T := TX1) (N := 16) (j := 3) (ty0 := tyX1) rfl inX1 tyX1_ok nmX1 rfl (by decide) rfl rfl (fun _ => rfl) (fun _ => rfl) hin2 hdecl hd hw hk hl0 kk
theorem rg_X1_4 {r : Nat} (hd : decode M.2.1 pc = .ok (.getfield idx, 3)) (hw : Cond.fieldLink M.1.cls idx "TakeOver$Course" "facts" "[I" ∈ mx_g) (hk : sk[k]? = some (.inr (1, refs))) (hr : refs.getD 4 none = some r)
    (kk : mx_Go l R M Z uc us (pc + 3) L (.ref r :: st) (sk, I)) : mx_Go l R M Z uc us pc L (.ref k :: st) (sk, I) :=
  g_getf (h := (sk, I)) (ci := 1) (C0 := RX1) (T := TX1) (N := 16) (j := 4) rfl inX1 rfl (by decide) hd hw hk (show mx_rv (refs.getD 4 none) = .ref r by rw [hr]; rfl) kk
theorem rp_X1_4 {r : Nat} (hin2 : M.1.name = "<init>") (hdecl : "TakeOver$Course" = M.1.cls) (hd : decode M.2.1 pc = .ok (.putfield idx, 3)) (hw : Cond.fieldLink M.1.cls idx "TakeOver$Course" "facts" "[I" ∈ mx_g) (hk : sk[k]? = some (.inr (1, refs))) (hl0 : 4 < refs.length)
    (kk : mx_Go l R M Z uc us (pc + 3) L st (sk.set k (.inr (1, refs.set 4 (some r))), I)) : mx_Go l R M Z uc us pc L (.ref r :: .ref k :: st) (sk, I) :=
  g_putrF (h := (sk, I)) (ci := 1) (C0 := RX1) (T := TX1) (N := 16) (j := 4) (ty0 := tyX1) rfl inX1 tyX1_ok nmX1 rfl (by decide) rfl rfl (fun _ => rfl) (fun _ => rfl) hin2 hdecl hd hw hk hl0 kk
theorem rg_X1_5 {v : Int32} (hd : decode M.2.1 pc = .ok (.getfield idx, 3)) (hw : Cond.fieldLink M.1.cls idx "TakeOver$Course" "pickedCount" "I" ∈ mx_g) (hk : sk[k]? = some (.inr (1, refs))) (hv : I k 5 = v)
    (kk : mx_Go l R M Z uc us (pc + 3) L (.int v :: st) (sk, I)) : mx_Go l R M Z uc us pc L (.ref k :: st) (sk, I) :=
  g_getf (h := (sk, I)) (ci := 1) (C0 := RX1) (T := TX1) (N := 16) (j := 5) rfl inX1 rfl (by decide) hd hw hk rfl (by show mx_Go l R M Z uc us (pc + 3) L (.int (I k 5) :: st) (sk, I); rw [hv]; exact kk)
theorem rp_X1_5 {x : Int32} (hd : decode M.2.1 pc = .ok (.putfield idx, 3)) (hw : Cond.fieldLink M.1.cls idx "TakeOver$Course" "pickedCount" "I" ∈ mx_g) (hk : sk[k]? = some (.inr (1, refs)))
    (kk : mx_Go l R M Z uc us (pc + 3) L st (sk, mx_set I k 5 x)) : mx_Go l R M Z uc us pc L (.int x :: .ref k :: st) (sk, I) :=
  g_putf (h := (sk, I)) (ci := 1) (C0 := RX1) (T := TX1) (N := 16) (j := 5) (ty0 := tyX1) rfl inX1 tyX1_ok nmX1 rfl (by decide) rfl rfl rfl rfl hd hw hk kk
theorem rg_X1_6 {r : Nat} (hd : decode M.2.1 pc = .ok (.getfield idx, 3)) (hw : Cond.fieldLink M.1.cls idx "TakeOver$Course" "state" "LTakeOver$State;" ∈ mx_g) (hk : sk[k]? = some (.inr (1, refs))) (hr : refs.getD 6 none = some r)
    (kk : mx_Go l R M Z uc us (pc + 3) L (.ref r :: st) (sk, I)) : mx_Go l R M Z uc us pc L (.ref k :: st) (sk, I) :=
  g_getf (h := (sk, I)) (ci := 1) (C0 := RX1) (T := TX1) (N := 16) (j := 6) rfl inX1 rfl (by decide) hd hw hk (show mx_rv (refs.getD 6 none) = .ref r by rw [hr]; rfl) kk
theorem rp_X1_6 {r : Nat} (hd : decode M.2.1 pc = .ok (.putfield idx, 3)) (hw : Cond.fieldLink M.1.cls idx "TakeOver$Course" "state" "LTakeOver$State;" ∈ mx_g) (hk : sk[k]? = some (.inr (1, refs))) (hl0 : 6 < refs.length)
    (kk : mx_Go l R M Z uc us (pc + 3) L st (sk.set k (.inr (1, refs.set 6 (some r))), I)) : mx_Go l R M Z uc us pc L (.ref r :: .ref k :: st) (sk, I) :=
  g_putr (h := (sk, I)) (ci := 1) (C0 := RX1) (T := TX1) (N := 16) (j := 6) (ty0 := tyX1) rfl inX1 tyX1_ok nmX1 rfl (by decide) rfl rfl (fun _ => rfl) (fun _ => rfl) hd hw hk hl0 kk
theorem rg_X1_7 {v : Int32} (hd : decode M.2.1 pc = .ok (.getfield idx, 3)) (hw : Cond.fieldLink M.1.cls idx "TakeOver$Course" "written" "Z" ∈ mx_g) (hk : sk[k]? = some (.inr (1, refs))) (hv : I k 7 = v)
    (kk : mx_Go l R M Z uc us (pc + 3) L (.int v :: st) (sk, I)) : mx_Go l R M Z uc us pc L (.ref k :: st) (sk, I) :=
  g_getf (h := (sk, I)) (ci := 1) (C0 := RX1) (T := TX1) (N := 16) (j := 7) rfl inX1 rfl (by decide) hd hw hk rfl (by show mx_Go l R M Z uc us (pc + 3) L (.int (I k 7) :: st) (sk, I); rw [hv]; exact kk)
theorem rp_X1_7 {x : Int32} (hx : x = 0 ∨ x = 1) (hd : decode M.2.1 pc = .ok (.putfield idx, 3)) (hw : Cond.fieldLink M.1.cls idx "TakeOver$Course" "written" "Z" ∈ mx_g) (hk : sk[k]? = some (.inr (1, refs)))
    (kk : mx_Go l R M Z uc us (pc + 3) L st (sk, mx_set I k 7 x)) : mx_Go l R M Z uc us pc L (.int x :: .ref k :: st) (sk, I) :=
  g_putf (h := (sk, I)) (ci := 1) (C0 := RX1) (T := TX1) (N := 16) (j := 7) (ty0 := tyX1) rfl inX1 tyX1_ok nmX1 rfl (by decide) rfl rfl (by rcases hx with rfl | rfl <;> rfl) (by rcases hx with rfl | rfl <;> rfl) hd hw hk kk
theorem rg_X1_8 {v : Int32} (hd : decode M.2.1 pc = .ok (.getfield idx, 3)) (hw : Cond.fieldLink M.1.cls idx "TakeOver$Course" "toll" "I" ∈ mx_g) (hk : sk[k]? = some (.inr (1, refs))) (hv : I k 8 = v)
    (kk : mx_Go l R M Z uc us (pc + 3) L (.int v :: st) (sk, I)) : mx_Go l R M Z uc us pc L (.ref k :: st) (sk, I) :=
  g_getf (h := (sk, I)) (ci := 1) (C0 := RX1) (T := TX1) (N := 16) (j := 8) rfl inX1 rfl (by decide) hd hw hk rfl (by show mx_Go l R M Z uc us (pc + 3) L (.int (I k 8) :: st) (sk, I); rw [hv]; exact kk)
theorem rp_X1_8 {x : Int32} (hd : decode M.2.1 pc = .ok (.putfield idx, 3)) (hw : Cond.fieldLink M.1.cls idx "TakeOver$Course" "toll" "I" ∈ mx_g) (hk : sk[k]? = some (.inr (1, refs)))
    (kk : mx_Go l R M Z uc us (pc + 3) L st (sk, mx_set I k 8 x)) : mx_Go l R M Z uc us pc L (.int x :: .ref k :: st) (sk, I) :=
  g_putf (h := (sk, I)) (ci := 1) (C0 := RX1) (T := TX1) (N := 16) (j := 8) (ty0 := tyX1) rfl inX1 tyX1_ok nmX1 rfl (by decide) rfl rfl rfl rfl hd hw hk kk
theorem rg_X1_9 {v : Int32} (hd : decode M.2.1 pc = .ok (.getfield idx, 3)) (hw : Cond.fieldLink M.1.cls idx "TakeOver$Course" "hired" "I" ∈ mx_g) (hk : sk[k]? = some (.inr (1, refs))) (hv : I k 9 = v)
    (kk : mx_Go l R M Z uc us (pc + 3) L (.int v :: st) (sk, I)) : mx_Go l R M Z uc us pc L (.ref k :: st) (sk, I) :=
  g_getf (h := (sk, I)) (ci := 1) (C0 := RX1) (T := TX1) (N := 16) (j := 9) rfl inX1 rfl (by decide) hd hw hk rfl (by show mx_Go l R M Z uc us (pc + 3) L (.int (I k 9) :: st) (sk, I); rw [hv]; exact kk)
theorem rp_X1_9 {x : Int32} (hd : decode M.2.1 pc = .ok (.putfield idx, 3)) (hw : Cond.fieldLink M.1.cls idx "TakeOver$Course" "hired" "I" ∈ mx_g) (hk : sk[k]? = some (.inr (1, refs)))
    (kk : mx_Go l R M Z uc us (pc + 3) L st (sk, mx_set I k 9 x)) : mx_Go l R M Z uc us pc L (.int x :: .ref k :: st) (sk, I) :=
  g_putf (h := (sk, I)) (ci := 1) (C0 := RX1) (T := TX1) (N := 16) (j := 9) (ty0 := tyX1) rfl inX1 tyX1_ok nmX1 rfl (by decide) rfl rfl rfl rfl hd hw hk kk
theorem rg_X1_10 {v : Int32} (hd : decode M.2.1 pc = .ok (.getfield idx, 3)) (hw : Cond.fieldLink M.1.cls idx "TakeOver$Course" "absent" "I" ∈ mx_g) (hk : sk[k]? = some (.inr (1, refs))) (hv : I k 10 = v)
    (kk : mx_Go l R M Z uc us (pc + 3) L (.int v :: st) (sk, I)) : mx_Go l R M Z uc us pc L (.ref k :: st) (sk, I) :=
  g_getf (h := (sk, I)) (ci := 1) (C0 := RX1) (T := TX1) (N := 16) (j := 10) rfl inX1 rfl (by decide) hd hw hk rfl (by show mx_Go l R M Z uc us (pc + 3) L (.int (I k 10) :: st) (sk, I); rw [hv]; exact kk)
theorem rp_X1_10 {x : Int32} (hd : decode M.2.1 pc = .ok (.putfield idx, 3)) (hw : Cond.fieldLink M.1.cls idx "TakeOver$Course" "absent" "I" ∈ mx_g) (hk : sk[k]? = some (.inr (1, refs)))
    (kk : mx_Go l R M Z uc us (pc + 3) L st (sk, mx_set I k 10 x)) : mx_Go l R M Z uc us pc L (.int x :: .ref k :: st) (sk, I) :=
  g_putf (h := (sk, I)) (ci := 1) (C0 := RX1) (T := TX1) (N := 16) (j := 10) (ty0 := tyX1) rfl inX1 tyX1_ok nmX1 rfl (by decide) rfl rfl rfl rfl hd hw hk kk
theorem rg_X1_11 {v : Int32} (hd : decode M.2.1 pc = .ok (.getfield idx, 3)) (hw : Cond.fieldLink M.1.cls idx "TakeOver$Course" "watched" "I" ∈ mx_g) (hk : sk[k]? = some (.inr (1, refs))) (hv : I k 11 = v)
    (kk : mx_Go l R M Z uc us (pc + 3) L (.int v :: st) (sk, I)) : mx_Go l R M Z uc us pc L (.ref k :: st) (sk, I) :=
  g_getf (h := (sk, I)) (ci := 1) (C0 := RX1) (T := TX1) (N := 16) (j := 11) rfl inX1 rfl (by decide) hd hw hk rfl (by show mx_Go l R M Z uc us (pc + 3) L (.int (I k 11) :: st) (sk, I); rw [hv]; exact kk)
theorem rp_X1_11 {x : Int32} (hd : decode M.2.1 pc = .ok (.putfield idx, 3)) (hw : Cond.fieldLink M.1.cls idx "TakeOver$Course" "watched" "I" ∈ mx_g) (hk : sk[k]? = some (.inr (1, refs)))
    (kk : mx_Go l R M Z uc us (pc + 3) L st (sk, mx_set I k 11 x)) : mx_Go l R M Z uc us pc L (.int x :: .ref k :: st) (sk, I) :=
  g_putf (h := (sk, I)) (ci := 1) (C0 := RX1) (T := TX1) (N := 16) (j := 11) (ty0 := tyX1) rfl inX1 tyX1_ok nmX1 rfl (by decide) rfl rfl rfl rfl hd hw hk kk
theorem rg_X1_12 {v : Int32} (hd : decode M.2.1 pc = .ok (.getfield idx, 3)) (hw : Cond.fieldLink M.1.cls idx "TakeOver$Course" "watchedEnd" "I" ∈ mx_g) (hk : sk[k]? = some (.inr (1, refs))) (hv : I k 12 = v)
    (kk : mx_Go l R M Z uc us (pc + 3) L (.int v :: st) (sk, I)) : mx_Go l R M Z uc us pc L (.ref k :: st) (sk, I) :=
  g_getf (h := (sk, I)) (ci := 1) (C0 := RX1) (T := TX1) (N := 16) (j := 12) rfl inX1 rfl (by decide) hd hw hk rfl (by show mx_Go l R M Z uc us (pc + 3) L (.int (I k 12) :: st) (sk, I); rw [hv]; exact kk)
theorem rp_X1_12 {x : Int32} (hd : decode M.2.1 pc = .ok (.putfield idx, 3)) (hw : Cond.fieldLink M.1.cls idx "TakeOver$Course" "watchedEnd" "I" ∈ mx_g) (hk : sk[k]? = some (.inr (1, refs)))
    (kk : mx_Go l R M Z uc us (pc + 3) L st (sk, mx_set I k 12 x)) : mx_Go l R M Z uc us pc L (.int x :: .ref k :: st) (sk, I) :=
  g_putf (h := (sk, I)) (ci := 1) (C0 := RX1) (T := TX1) (N := 16) (j := 12) (ty0 := tyX1) rfl inX1 tyX1_ok nmX1 rfl (by decide) rfl rfl rfl rfl hd hw hk kk
theorem rg_X1_13 {v : Int32} (hd : decode M.2.1 pc = .ok (.getfield idx, 3)) (hw : Cond.fieldLink M.1.cls idx "TakeOver$Course" "met" "I" ∈ mx_g) (hk : sk[k]? = some (.inr (1, refs))) (hv : I k 13 = v)
    (kk : mx_Go l R M Z uc us (pc + 3) L (.int v :: st) (sk, I)) : mx_Go l R M Z uc us pc L (.ref k :: st) (sk, I) :=
  g_getf (h := (sk, I)) (ci := 1) (C0 := RX1) (T := TX1) (N := 16) (j := 13) rfl inX1 rfl (by decide) hd hw hk rfl (by show mx_Go l R M Z uc us (pc + 3) L (.int (I k 13) :: st) (sk, I); rw [hv]; exact kk)
theorem rp_X1_13 {x : Int32} (hd : decode M.2.1 pc = .ok (.putfield idx, 3)) (hw : Cond.fieldLink M.1.cls idx "TakeOver$Course" "met" "I" ∈ mx_g) (hk : sk[k]? = some (.inr (1, refs)))
    (kk : mx_Go l R M Z uc us (pc + 3) L st (sk, mx_set I k 13 x)) : mx_Go l R M Z uc us pc L (.int x :: .ref k :: st) (sk, I) :=
  g_putf (h := (sk, I)) (ci := 1) (C0 := RX1) (T := TX1) (N := 16) (j := 13) (ty0 := tyX1) rfl inX1 tyX1_ok nmX1 rfl (by decide) rfl rfl rfl rfl hd hw hk kk
theorem rg_X1_14 {v : Int32} (hd : decode M.2.1 pc = .ok (.getfield idx, 3)) (hw : Cond.fieldLink M.1.cls idx "TakeOver$Course" "leastAbove" "I" ∈ mx_g) (hk : sk[k]? = some (.inr (1, refs))) (hv : I k 14 = v)
    (kk : mx_Go l R M Z uc us (pc + 3) L (.int v :: st) (sk, I)) : mx_Go l R M Z uc us pc L (.ref k :: st) (sk, I) :=
  g_getf (h := (sk, I)) (ci := 1) (C0 := RX1) (T := TX1) (N := 16) (j := 14) rfl inX1 rfl (by decide) hd hw hk rfl (by show mx_Go l R M Z uc us (pc + 3) L (.int (I k 14) :: st) (sk, I); rw [hv]; exact kk)
theorem rp_X1_14 {x : Int32} (hd : decode M.2.1 pc = .ok (.putfield idx, 3)) (hw : Cond.fieldLink M.1.cls idx "TakeOver$Course" "leastAbove" "I" ∈ mx_g) (hk : sk[k]? = some (.inr (1, refs)))
    (kk : mx_Go l R M Z uc us (pc + 3) L st (sk, mx_set I k 14 x)) : mx_Go l R M Z uc us pc L (.int x :: .ref k :: st) (sk, I) :=
  g_putf (h := (sk, I)) (ci := 1) (C0 := RX1) (T := TX1) (N := 16) (j := 14) (ty0 := tyX1) rfl inX1 tyX1_ok nmX1 rfl (by decide) rfl rfl rfl rfl hd hw hk kk
theorem rg_X1_15 {v : Int32} (hd : decode M.2.1 pc = .ok (.getfield idx, 3)) (hw : Cond.fieldLink M.1.cls idx "TakeOver$Course" "borne" "I" ∈ mx_g) (hk : sk[k]? = some (.inr (1, refs))) (hv : I k 15 = v)
    (kk : mx_Go l R M Z uc us (pc + 3) L (.int v :: st) (sk, I)) : mx_Go l R M Z uc us pc L (.ref k :: st) (sk, I) :=
  g_getf (h := (sk, I)) (ci := 1) (C0 := RX1) (T := TX1) (N := 16) (j := 15) rfl inX1 rfl (by decide) hd hw hk rfl (by show mx_Go l R M Z uc us (pc + 3) L (.int (I k 15) :: st) (sk, I); rw [hv]; exact kk)
theorem rp_X1_15 {x : Int32} (hd : decode M.2.1 pc = .ok (.putfield idx, 3)) (hw : Cond.fieldLink M.1.cls idx "TakeOver$Course" "borne" "I" ∈ mx_g) (hk : sk[k]? = some (.inr (1, refs)))
    (kk : mx_Go l R M Z uc us (pc + 3) L st (sk, mx_set I k 15 x)) : mx_Go l R M Z uc us pc L (.int x :: .ref k :: st) (sk, I) :=
  g_putf (h := (sk, I)) (ci := 1) (C0 := RX1) (T := TX1) (N := 16) (j := 15) (ty0 := tyX1) rfl inX1 tyX1_ok nmX1 rfl (by decide) rfl rfl rfl rfl hd hw hk kk
theorem rg_X2_0 {r : Nat} (hd : decode M.2.1 pc = .ok (.getfield idx, 3)) (hw : Cond.fieldLink M.1.cls idx "TakeOver$Crossers" "hour" "[I" ∈ mx_g) (hk : sk[k]? = some (.inr (2, refs))) (hr : refs.getD 0 none = some r)
    (kk : mx_Go l R M Z uc us (pc + 3) L (.ref r :: st) (sk, I)) : mx_Go l R M Z uc us pc L (.ref k :: st) (sk, I) :=
  g_getf (h := (sk, I)) (ci := 2) (C0 := RX2) (T := TX2) (N := 10) (j := 0) rfl inX2 rfl (by decide) hd hw hk (show mx_rv (refs.getD 0 none) = .ref r by rw [hr]; rfl) kk
theorem rp_X2_0 {r : Nat} (hin2 : M.1.name = "<init>") (hdecl : "TakeOver$Crossers" = M.1.cls) (hd : decode M.2.1 pc = .ok (.putfield idx, 3)) (hw : Cond.fieldLink M.1.cls idx "TakeOver$Crossers" "hour" "[I" ∈ mx_g) (hk : sk[k]? = some (.inr (2, refs))) (hl0 : 0 < refs.length)
    (kk : mx_Go l R M Z uc us (pc + 3) L st (sk.set k (.inr (2, refs.set 0 (some r))), I)) : mx_Go l R M Z uc us pc L (.ref r :: .ref k :: st) (sk, I) :=
  g_putrF (h := (sk, I)) (ci := 2) (C0 := RX2) (T := TX2) (N := 10) (j := 0) (ty0 := tyX2) rfl inX2 tyX2_ok nmX2 rfl (by decide) rfl rfl (fun _ => rfl) (fun _ => rfl) hin2 hdecl hd hw hk hl0 kk
theorem rg_X2_1 {r : Nat} (hd : decode M.2.1 pc = .ok (.getfield idx, 3)) (hw : Cond.fieldLink M.1.cls idx "TakeOver$Crossers" "bridge" "[I" ∈ mx_g) (hk : sk[k]? = some (.inr (2, refs))) (hr : refs.getD 1 none = some r)
    (kk : mx_Go l R M Z uc us (pc + 3) L (.ref r :: st) (sk, I)) : mx_Go l R M Z uc us pc L (.ref k :: st) (sk, I) :=
  g_getf (h := (sk, I)) (ci := 2) (C0 := RX2) (T := TX2) (N := 10) (j := 1) rfl inX2 rfl (by decide) hd hw hk (show mx_rv (refs.getD 1 none) = .ref r by rw [hr]; rfl) kk
theorem rp_X2_1 {r : Nat} (hin2 : M.1.name = "<init>") (hdecl : "TakeOver$Crossers" = M.1.cls) (hd : decode M.2.1 pc = .ok (.putfield idx, 3)) (hw : Cond.fieldLink M.1.cls idx "TakeOver$Crossers" "bridge" "[I" ∈ mx_g) (hk : sk[k]? = some (.inr (2, refs))) (hl0 : 1 < refs.length)
    (kk : mx_Go l R M Z uc us (pc + 3) L st (sk.set k (.inr (2, refs.set 1 (some r))), I)) : mx_Go l R M Z uc us pc L (.ref r :: .ref k :: st) (sk, I) :=
  g_putrF (h := (sk, I)) (ci := 2) (C0 := RX2) (T := TX2) (N := 10) (j := 1) (ty0 := tyX2) rfl inX2 tyX2_ok nmX2 rfl (by decide) rfl rfl (fun _ => rfl) (fun _ => rfl) hin2 hdecl hd hw hk hl0 kk
theorem rg_X2_2 {r : Nat} (hd : decode M.2.1 pc = .ok (.getfield idx, 3)) (hw : Cond.fieldLink M.1.cls idx "TakeOver$Crossers" "way" "[I" ∈ mx_g) (hk : sk[k]? = some (.inr (2, refs))) (hr : refs.getD 2 none = some r)
    (kk : mx_Go l R M Z uc us (pc + 3) L (.ref r :: st) (sk, I)) : mx_Go l R M Z uc us pc L (.ref k :: st) (sk, I) :=
  g_getf (h := (sk, I)) (ci := 2) (C0 := RX2) (T := TX2) (N := 10) (j := 2) rfl inX2 rfl (by decide) hd hw hk (show mx_rv (refs.getD 2 none) = .ref r by rw [hr]; rfl) kk
theorem rp_X2_2 {r : Nat} (hin2 : M.1.name = "<init>") (hdecl : "TakeOver$Crossers" = M.1.cls) (hd : decode M.2.1 pc = .ok (.putfield idx, 3)) (hw : Cond.fieldLink M.1.cls idx "TakeOver$Crossers" "way" "[I" ∈ mx_g) (hk : sk[k]? = some (.inr (2, refs))) (hl0 : 2 < refs.length)
    (kk : mx_Go l R M Z uc us (pc + 3) L st (sk.set k (.inr (2, refs.set 2 (some r))), I)) : mx_Go l R M Z uc us pc L (.ref r :: .ref k :: st) (sk, I) :=
  g_putrF (h := (sk, I)) (ci := 2) (C0 := RX2) (T := TX2) (N := 10) (j := 2) (ty0 := tyX2) rfl inX2 tyX2_ok nmX2 rfl (by decide) rfl rfl (fun _ => rfl) (fun _ => rfl) hin2 hdecl hd hw hk hl0 kk
theorem rg_X2_3 {r : Nat} (hd : decode M.2.1 pc = .ok (.getfield idx, 3)) (hw : Cond.fieldLink M.1.cls idx "TakeOver$Crossers" "bears" "[I" ∈ mx_g) (hk : sk[k]? = some (.inr (2, refs))) (hr : refs.getD 3 none = some r)
    (kk : mx_Go l R M Z uc us (pc + 3) L (.ref r :: st) (sk, I)) : mx_Go l R M Z uc us pc L (.ref k :: st) (sk, I) :=
  g_getf (h := (sk, I)) (ci := 2) (C0 := RX2) (T := TX2) (N := 10) (j := 3) rfl inX2 rfl (by decide) hd hw hk (show mx_rv (refs.getD 3 none) = .ref r by rw [hr]; rfl) kk
theorem rp_X2_3 {r : Nat} (hin2 : M.1.name = "<init>") (hdecl : "TakeOver$Crossers" = M.1.cls) (hd : decode M.2.1 pc = .ok (.putfield idx, 3)) (hw : Cond.fieldLink M.1.cls idx "TakeOver$Crossers" "bears" "[I" ∈ mx_g) (hk : sk[k]? = some (.inr (2, refs))) (hl0 : 3 < refs.length)
    (kk : mx_Go l R M Z uc us (pc + 3) L st (sk.set k (.inr (2, refs.set 3 (some r))), I)) : mx_Go l R M Z uc us pc L (.ref r :: .ref k :: st) (sk, I) :=
  g_putrF (h := (sk, I)) (ci := 2) (C0 := RX2) (T := TX2) (N := 10) (j := 3) (ty0 := tyX2) rfl inX2 tyX2_ok nmX2 rfl (by decide) rfl rfl (fun _ => rfl) (fun _ => rfl) hin2 hdecl hd hw hk hl0 kk
theorem rg_X2_4 {r : Nat} (hd : decode M.2.1 pc = .ok (.getfield idx, 3)) (hw : Cond.fieldLink M.1.cls idx "TakeOver$Crossers" "own" "[I" ∈ mx_g) (hk : sk[k]? = some (.inr (2, refs))) (hr : refs.getD 4 none = some r)
    (kk : mx_Go l R M Z uc us (pc + 3) L (.ref r :: st) (sk, I)) : mx_Go l R M Z uc us pc L (.ref k :: st) (sk, I) :=
  g_getf (h := (sk, I)) (ci := 2) (C0 := RX2) (T := TX2) (N := 10) (j := 4) rfl inX2 rfl (by decide) hd hw hk (show mx_rv (refs.getD 4 none) = .ref r by rw [hr]; rfl) kk
theorem rp_X2_4 {r : Nat} (hin2 : M.1.name = "<init>") (hdecl : "TakeOver$Crossers" = M.1.cls) (hd : decode M.2.1 pc = .ok (.putfield idx, 3)) (hw : Cond.fieldLink M.1.cls idx "TakeOver$Crossers" "own" "[I" ∈ mx_g) (hk : sk[k]? = some (.inr (2, refs))) (hl0 : 4 < refs.length)
    (kk : mx_Go l R M Z uc us (pc + 3) L st (sk.set k (.inr (2, refs.set 4 (some r))), I)) : mx_Go l R M Z uc us pc L (.ref r :: .ref k :: st) (sk, I) :=
  g_putrF (h := (sk, I)) (ci := 2) (C0 := RX2) (T := TX2) (N := 10) (j := 4) (ty0 := tyX2) rfl inX2 tyX2_ok nmX2 rfl (by decide) rfl rfl (fun _ => rfl) (fun _ => rfl) hin2 hdecl hd hw hk hl0 kk
theorem rg_X2_5 {r : Nat} (hd : decode M.2.1 pc = .ok (.getfield idx, 3)) (hw : Cond.fieldLink M.1.cls idx "TakeOver$Crossers" "cost" "[I" ∈ mx_g) (hk : sk[k]? = some (.inr (2, refs))) (hr : refs.getD 5 none = some r)
    (kk : mx_Go l R M Z uc us (pc + 3) L (.ref r :: st) (sk, I)) : mx_Go l R M Z uc us pc L (.ref k :: st) (sk, I) :=
  g_getf (h := (sk, I)) (ci := 2) (C0 := RX2) (T := TX2) (N := 10) (j := 5) rfl inX2 rfl (by decide) hd hw hk (show mx_rv (refs.getD 5 none) = .ref r by rw [hr]; rfl) kk
theorem rp_X2_5 {r : Nat} (hin2 : M.1.name = "<init>") (hdecl : "TakeOver$Crossers" = M.1.cls) (hd : decode M.2.1 pc = .ok (.putfield idx, 3)) (hw : Cond.fieldLink M.1.cls idx "TakeOver$Crossers" "cost" "[I" ∈ mx_g) (hk : sk[k]? = some (.inr (2, refs))) (hl0 : 5 < refs.length)
    (kk : mx_Go l R M Z uc us (pc + 3) L st (sk.set k (.inr (2, refs.set 5 (some r))), I)) : mx_Go l R M Z uc us pc L (.ref r :: .ref k :: st) (sk, I) :=
  g_putrF (h := (sk, I)) (ci := 2) (C0 := RX2) (T := TX2) (N := 10) (j := 5) (ty0 := tyX2) rfl inX2 tyX2_ok nmX2 rfl (by decide) rfl rfl (fun _ => rfl) (fun _ => rfl) hin2 hdecl hd hw hk hl0 kk
theorem rg_X2_6 {r : Nat} (hd : decode M.2.1 pc = .ok (.getfield idx, 3)) (hw : Cond.fieldLink M.1.cls idx "TakeOver$Crossers" "kind" "[I" ∈ mx_g) (hk : sk[k]? = some (.inr (2, refs))) (hr : refs.getD 6 none = some r)
    (kk : mx_Go l R M Z uc us (pc + 3) L (.ref r :: st) (sk, I)) : mx_Go l R M Z uc us pc L (.ref k :: st) (sk, I) :=
  g_getf (h := (sk, I)) (ci := 2) (C0 := RX2) (T := TX2) (N := 10) (j := 6) rfl inX2 rfl (by decide) hd hw hk (show mx_rv (refs.getD 6 none) = .ref r by rw [hr]; rfl) kk
theorem rp_X2_6 {r : Nat} (hin2 : M.1.name = "<init>") (hdecl : "TakeOver$Crossers" = M.1.cls) (hd : decode M.2.1 pc = .ok (.putfield idx, 3)) (hw : Cond.fieldLink M.1.cls idx "TakeOver$Crossers" "kind" "[I" ∈ mx_g) (hk : sk[k]? = some (.inr (2, refs))) (hl0 : 6 < refs.length)
    (kk : mx_Go l R M Z uc us (pc + 3) L st (sk.set k (.inr (2, refs.set 6 (some r))), I)) : mx_Go l R M Z uc us pc L (.ref r :: .ref k :: st) (sk, I) :=
  g_putrF (h := (sk, I)) (ci := 2) (C0 := RX2) (T := TX2) (N := 10) (j := 6) (ty0 := tyX2) rfl inX2 tyX2_ok nmX2 rfl (by decide) rfl rfl (fun _ => rfl) (fun _ => rfl) hin2 hdecl hd hw hk hl0 kk
theorem rg_X2_7 {r : Nat} (hd : decode M.2.1 pc = .ok (.getfield idx, 3)) (hw : Cond.fieldLink M.1.cls idx "TakeOver$Crossers" "v" "[I" ∈ mx_g) (hk : sk[k]? = some (.inr (2, refs))) (hr : refs.getD 7 none = some r)
    (kk : mx_Go l R M Z uc us (pc + 3) L (.ref r :: st) (sk, I)) : mx_Go l R M Z uc us pc L (.ref k :: st) (sk, I) :=
  g_getf (h := (sk, I)) (ci := 2) (C0 := RX2) (T := TX2) (N := 10) (j := 7) rfl inX2 rfl (by decide) hd hw hk (show mx_rv (refs.getD 7 none) = .ref r by rw [hr]; rfl) kk
theorem rp_X2_7 {r : Nat} (hin2 : M.1.name = "<init>") (hdecl : "TakeOver$Crossers" = M.1.cls) (hd : decode M.2.1 pc = .ok (.putfield idx, 3)) (hw : Cond.fieldLink M.1.cls idx "TakeOver$Crossers" "v" "[I" ∈ mx_g) (hk : sk[k]? = some (.inr (2, refs))) (hl0 : 7 < refs.length)
    (kk : mx_Go l R M Z uc us (pc + 3) L st (sk.set k (.inr (2, refs.set 7 (some r))), I)) : mx_Go l R M Z uc us pc L (.ref r :: .ref k :: st) (sk, I) :=
  g_putrF (h := (sk, I)) (ci := 2) (C0 := RX2) (T := TX2) (N := 10) (j := 7) (ty0 := tyX2) rfl inX2 tyX2_ok nmX2 rfl (by decide) rfl rfl (fun _ => rfl) (fun _ => rfl) hin2 hdecl hd hw hk hl0 kk
theorem rg_X2_8 {r : Nat} (hd : decode M.2.1 pc = .ok (.getfield idx, 3)) (hw : Cond.fieldLink M.1.cls idx "TakeOver$Crossers" "maybe" "[I" ∈ mx_g) (hk : sk[k]? = some (.inr (2, refs))) (hr : refs.getD 8 none = some r)
    (kk : mx_Go l R M Z uc us (pc + 3) L (.ref r :: st) (sk, I)) : mx_Go l R M Z uc us pc L (.ref k :: st) (sk, I) :=
  g_getf (h := (sk, I)) (ci := 2) (C0 := RX2) (T := TX2) (N := 10) (j := 8) rfl inX2 rfl (by decide) hd hw hk (show mx_rv (refs.getD 8 none) = .ref r by rw [hr]; rfl) kk
theorem rp_X2_8 {r : Nat} (hin2 : M.1.name = "<init>") (hdecl : "TakeOver$Crossers" = M.1.cls) (hd : decode M.2.1 pc = .ok (.putfield idx, 3)) (hw : Cond.fieldLink M.1.cls idx "TakeOver$Crossers" "maybe" "[I" ∈ mx_g) (hk : sk[k]? = some (.inr (2, refs))) (hl0 : 8 < refs.length)
    (kk : mx_Go l R M Z uc us (pc + 3) L st (sk.set k (.inr (2, refs.set 8 (some r))), I)) : mx_Go l R M Z uc us pc L (.ref r :: .ref k :: st) (sk, I) :=
  g_putrF (h := (sk, I)) (ci := 2) (C0 := RX2) (T := TX2) (N := 10) (j := 8) (ty0 := tyX2) rfl inX2 tyX2_ok nmX2 rfl (by decide) rfl rfl (fun _ => rfl) (fun _ => rfl) hin2 hdecl hd hw hk hl0 kk
theorem rg_X2_9 {v : Int32} (hd : decode M.2.1 pc = .ok (.getfield idx, 3)) (hw : Cond.fieldLink M.1.cls idx "TakeOver$Crossers" "count" "I" ∈ mx_g) (hk : sk[k]? = some (.inr (2, refs))) (hv : I k 9 = v)
    (kk : mx_Go l R M Z uc us (pc + 3) L (.int v :: st) (sk, I)) : mx_Go l R M Z uc us pc L (.ref k :: st) (sk, I) :=
  g_getf (h := (sk, I)) (ci := 2) (C0 := RX2) (T := TX2) (N := 10) (j := 9) rfl inX2 rfl (by decide) hd hw hk rfl (by show mx_Go l R M Z uc us (pc + 3) L (.int (I k 9) :: st) (sk, I); rw [hv]; exact kk)
theorem rp_X2_9 {x : Int32} (hd : decode M.2.1 pc = .ok (.putfield idx, 3)) (hw : Cond.fieldLink M.1.cls idx "TakeOver$Crossers" "count" "I" ∈ mx_g) (hk : sk[k]? = some (.inr (2, refs)))
    (kk : mx_Go l R M Z uc us (pc + 3) L st (sk, mx_set I k 9 x)) : mx_Go l R M Z uc us pc L (.int x :: .ref k :: st) (sk, I) :=
  g_putf (h := (sk, I)) (ci := 2) (C0 := RX2) (T := TX2) (N := 10) (j := 9) (ty0 := tyX2) rfl inX2 tyX2_ok nmX2 rfl (by decide) rfl rfl rfl rfl hd hw hk kk
theorem rg_X3_0 {r : Nat} (hd : decode M.2.1 pc = .ok (.getfield idx, 3)) (hw : Cond.fieldLink M.1.cls idx "TakeOver$Law" "code" "[I" ∈ mx_g) (hk : sk[k]? = some (.inr (3, refs))) (hr : refs.getD 0 none = some r)
    (kk : mx_Go l R M Z uc us (pc + 3) L (.ref r :: st) (sk, I)) : mx_Go l R M Z uc us pc L (.ref k :: st) (sk, I) :=
  g_getf (h := (sk, I)) (ci := 3) (C0 := RX3) (T := TX3) (N := 6) (j := 0) rfl inX3 rfl (by decide) hd hw hk (show mx_rv (refs.getD 0 none) = .ref r by rw [hr]; rfl) kk
theorem rp_X3_0 {r : Nat} (hin2 : M.1.name = "<init>") (hdecl : "TakeOver$Law" = M.1.cls) (hd : decode M.2.1 pc = .ok (.putfield idx, 3)) (hw : Cond.fieldLink M.1.cls idx "TakeOver$Law" "code" "[I" ∈ mx_g) (hk : sk[k]? = some (.inr (3, refs))) (hl0 : 0 < refs.length)
    (kk : mx_Go l R M Z uc us (pc + 3) L st (sk.set k (.inr (3, refs.set 0 (some r))), I)) : mx_Go l R M Z uc us pc L (.ref r :: .ref k :: st) (sk, I) :=
  g_putrF (h := (sk, I)) (ci := 3) (C0 := RX3) (T := TX3) (N := 6) (j := 0) (ty0 := tyX3) rfl inX3 tyX3_ok nmX3 rfl (by decide) rfl rfl (fun _ => rfl) (fun _ => rfl) hin2 hdecl hd hw hk hl0 kk
theorem rg_X3_1 {r : Nat} (hd : decode M.2.1 pc = .ok (.getfield idx, 3)) (hw : Cond.fieldLink M.1.cls idx "TakeOver$Law" "start" "[I" ∈ mx_g) (hk : sk[k]? = some (.inr (3, refs))) (hr : refs.getD 1 none = some r)
    (kk : mx_Go l R M Z uc us (pc + 3) L (.ref r :: st) (sk, I)) : mx_Go l R M Z uc us pc L (.ref k :: st) (sk, I) :=
  g_getf (h := (sk, I)) (ci := 3) (C0 := RX3) (T := TX3) (N := 6) (j := 1) rfl inX3 rfl (by decide) hd hw hk (show mx_rv (refs.getD 1 none) = .ref r by rw [hr]; rfl) kk
theorem rp_X3_1 {r : Nat} (hin2 : M.1.name = "<init>") (hdecl : "TakeOver$Law" = M.1.cls) (hd : decode M.2.1 pc = .ok (.putfield idx, 3)) (hw : Cond.fieldLink M.1.cls idx "TakeOver$Law" "start" "[I" ∈ mx_g) (hk : sk[k]? = some (.inr (3, refs))) (hl0 : 1 < refs.length)
    (kk : mx_Go l R M Z uc us (pc + 3) L st (sk.set k (.inr (3, refs.set 1 (some r))), I)) : mx_Go l R M Z uc us pc L (.ref r :: .ref k :: st) (sk, I) :=
  g_putrF (h := (sk, I)) (ci := 3) (C0 := RX3) (T := TX3) (N := 6) (j := 1) (ty0 := tyX3) rfl inX3 tyX3_ok nmX3 rfl (by decide) rfl rfl (fun _ => rfl) (fun _ => rfl) hin2 hdecl hd hw hk hl0 kk
theorem rg_X3_2 {r : Nat} (hd : decode M.2.1 pc = .ok (.getfield idx, 3)) (hw : Cond.fieldLink M.1.cls idx "TakeOver$Law" "take" "[I" ∈ mx_g) (hk : sk[k]? = some (.inr (3, refs))) (hr : refs.getD 2 none = some r)
    (kk : mx_Go l R M Z uc us (pc + 3) L (.ref r :: st) (sk, I)) : mx_Go l R M Z uc us pc L (.ref k :: st) (sk, I) :=
  g_getf (h := (sk, I)) (ci := 3) (C0 := RX3) (T := TX3) (N := 6) (j := 2) rfl inX3 rfl (by decide) hd hw hk (show mx_rv (refs.getD 2 none) = .ref r by rw [hr]; rfl) kk
theorem rp_X3_2 {r : Nat} (hin2 : M.1.name = "<init>") (hdecl : "TakeOver$Law" = M.1.cls) (hd : decode M.2.1 pc = .ok (.putfield idx, 3)) (hw : Cond.fieldLink M.1.cls idx "TakeOver$Law" "take" "[I" ∈ mx_g) (hk : sk[k]? = some (.inr (3, refs))) (hl0 : 2 < refs.length)
    (kk : mx_Go l R M Z uc us (pc + 3) L st (sk.set k (.inr (3, refs.set 2 (some r))), I)) : mx_Go l R M Z uc us pc L (.ref r :: .ref k :: st) (sk, I) :=
  g_putrF (h := (sk, I)) (ci := 3) (C0 := RX3) (T := TX3) (N := 6) (j := 2) (ty0 := tyX3) rfl inX3 tyX3_ok nmX3 rfl (by decide) rfl rfl (fun _ => rfl) (fun _ => rfl) hin2 hdecl hd hw hk hl0 kk
theorem rg_X3_3 {r : Nat} (hd : decode M.2.1 pc = .ok (.getfield idx, 3)) (hw : Cond.fieldLink M.1.cls idx "TakeOver$Law" "stack" "[I" ∈ mx_g) (hk : sk[k]? = some (.inr (3, refs))) (hr : refs.getD 3 none = some r)
    (kk : mx_Go l R M Z uc us (pc + 3) L (.ref r :: st) (sk, I)) : mx_Go l R M Z uc us pc L (.ref k :: st) (sk, I) :=
  g_getf (h := (sk, I)) (ci := 3) (C0 := RX3) (T := TX3) (N := 6) (j := 3) rfl inX3 rfl (by decide) hd hw hk (show mx_rv (refs.getD 3 none) = .ref r by rw [hr]; rfl) kk
theorem rp_X3_3 {r : Nat} (hin2 : M.1.name = "<init>") (hdecl : "TakeOver$Law" = M.1.cls) (hd : decode M.2.1 pc = .ok (.putfield idx, 3)) (hw : Cond.fieldLink M.1.cls idx "TakeOver$Law" "stack" "[I" ∈ mx_g) (hk : sk[k]? = some (.inr (3, refs))) (hl0 : 3 < refs.length)
    (kk : mx_Go l R M Z uc us (pc + 3) L st (sk.set k (.inr (3, refs.set 3 (some r))), I)) : mx_Go l R M Z uc us pc L (.ref r :: .ref k :: st) (sk, I) :=
  g_putrF (h := (sk, I)) (ci := 3) (C0 := RX3) (T := TX3) (N := 6) (j := 3) (ty0 := tyX3) rfl inX3 tyX3_ok nmX3 rfl (by decide) rfl rfl (fun _ => rfl) (fun _ => rfl) hin2 hdecl hd hw hk hl0 kk
theorem rg_X3_4 {v : Int32} (hd : decode M.2.1 pc = .ok (.getfield idx, 3)) (hw : Cond.fieldLink M.1.cls idx "TakeOver$Law" "lines" "I" ∈ mx_g) (hk : sk[k]? = some (.inr (3, refs))) (hv : I k 4 = v)
    (kk : mx_Go l R M Z uc us (pc + 3) L (.int v :: st) (sk, I)) : mx_Go l R M Z uc us pc L (.ref k :: st) (sk, I) :=
  g_getf (h := (sk, I)) (ci := 3) (C0 := RX3) (T := TX3) (N := 6) (j := 4) rfl inX3 rfl (by decide) hd hw hk rfl (by show mx_Go l R M Z uc us (pc + 3) L (.int (I k 4) :: st) (sk, I); rw [hv]; exact kk)
theorem rp_X3_4 {x : Int32} (hd : decode M.2.1 pc = .ok (.putfield idx, 3)) (hw : Cond.fieldLink M.1.cls idx "TakeOver$Law" "lines" "I" ∈ mx_g) (hk : sk[k]? = some (.inr (3, refs)))
    (kk : mx_Go l R M Z uc us (pc + 3) L st (sk, mx_set I k 4 x)) : mx_Go l R M Z uc us pc L (.int x :: .ref k :: st) (sk, I) :=
  g_putf (h := (sk, I)) (ci := 3) (C0 := RX3) (T := TX3) (N := 6) (j := 4) (ty0 := tyX3) rfl inX3 tyX3_ok nmX3 rfl (by decide) rfl rfl rfl rfl hd hw hk kk
theorem rg_X3_5 {v : Int32} (hd : decode M.2.1 pc = .ok (.getfield idx, 3)) (hw : Cond.fieldLink M.1.cls idx "TakeOver$Law" "size" "I" ∈ mx_g) (hk : sk[k]? = some (.inr (3, refs))) (hv : I k 5 = v)
    (kk : mx_Go l R M Z uc us (pc + 3) L (.int v :: st) (sk, I)) : mx_Go l R M Z uc us pc L (.ref k :: st) (sk, I) :=
  g_getf (h := (sk, I)) (ci := 3) (C0 := RX3) (T := TX3) (N := 6) (j := 5) rfl inX3 rfl (by decide) hd hw hk rfl (by show mx_Go l R M Z uc us (pc + 3) L (.int (I k 5) :: st) (sk, I); rw [hv]; exact kk)
theorem rp_X3_5 {x : Int32} (hd : decode M.2.1 pc = .ok (.putfield idx, 3)) (hw : Cond.fieldLink M.1.cls idx "TakeOver$Law" "size" "I" ∈ mx_g) (hk : sk[k]? = some (.inr (3, refs)))
    (kk : mx_Go l R M Z uc us (pc + 3) L st (sk, mx_set I k 5 x)) : mx_Go l R M Z uc us pc L (.int x :: .ref k :: st) (sk, I) :=
  g_putf (h := (sk, I)) (ci := 3) (C0 := RX3) (T := TX3) (N := 6) (j := 5) (ty0 := tyX3) rfl inX3 tyX3_ok nmX3 rfl (by decide) rfl rfl rfl rfl hd hw hk kk
theorem rg_X4_0 {r : Nat} (hd : decode M.2.1 pc = .ok (.getfield idx, 3)) (hw : Cond.fieldLink M.1.cls idx "TakeOver$Lists" "hour" "[I" ∈ mx_g) (hk : sk[k]? = some (.inr (4, refs))) (hr : refs.getD 0 none = some r)
    (kk : mx_Go l R M Z uc us (pc + 3) L (.ref r :: st) (sk, I)) : mx_Go l R M Z uc us pc L (.ref k :: st) (sk, I) :=
  g_getf (h := (sk, I)) (ci := 4) (C0 := RX4) (T := TX4) (N := 4) (j := 0) rfl inX4 rfl (by decide) hd hw hk (show mx_rv (refs.getD 0 none) = .ref r by rw [hr]; rfl) kk
theorem rp_X4_0 {r : Nat} (hin2 : M.1.name = "<init>") (hdecl : "TakeOver$Lists" = M.1.cls) (hd : decode M.2.1 pc = .ok (.putfield idx, 3)) (hw : Cond.fieldLink M.1.cls idx "TakeOver$Lists" "hour" "[I" ∈ mx_g) (hk : sk[k]? = some (.inr (4, refs))) (hl0 : 0 < refs.length)
    (kk : mx_Go l R M Z uc us (pc + 3) L st (sk.set k (.inr (4, refs.set 0 (some r))), I)) : mx_Go l R M Z uc us pc L (.ref r :: .ref k :: st) (sk, I) :=
  g_putrF (h := (sk, I)) (ci := 4) (C0 := RX4) (T := TX4) (N := 4) (j := 0) (ty0 := tyX4) rfl inX4 tyX4_ok nmX4 rfl (by decide) rfl rfl (fun _ => rfl) (fun _ => rfl) hin2 hdecl hd hw hk hl0 kk
theorem rg_X4_1 {r : Nat} (hd : decode M.2.1 pc = .ok (.getfield idx, 3)) (hw : Cond.fieldLink M.1.cls idx "TakeOver$Lists" "end" "[I" ∈ mx_g) (hk : sk[k]? = some (.inr (4, refs))) (hr : refs.getD 1 none = some r)
    (kk : mx_Go l R M Z uc us (pc + 3) L (.ref r :: st) (sk, I)) : mx_Go l R M Z uc us pc L (.ref k :: st) (sk, I) :=
  g_getf (h := (sk, I)) (ci := 4) (C0 := RX4) (T := TX4) (N := 4) (j := 1) rfl inX4 rfl (by decide) hd hw hk (show mx_rv (refs.getD 1 none) = .ref r by rw [hr]; rfl) kk
theorem rp_X4_1 {r : Nat} (hin2 : M.1.name = "<init>") (hdecl : "TakeOver$Lists" = M.1.cls) (hd : decode M.2.1 pc = .ok (.putfield idx, 3)) (hw : Cond.fieldLink M.1.cls idx "TakeOver$Lists" "end" "[I" ∈ mx_g) (hk : sk[k]? = some (.inr (4, refs))) (hl0 : 1 < refs.length)
    (kk : mx_Go l R M Z uc us (pc + 3) L st (sk.set k (.inr (4, refs.set 1 (some r))), I)) : mx_Go l R M Z uc us pc L (.ref r :: .ref k :: st) (sk, I) :=
  g_putrF (h := (sk, I)) (ci := 4) (C0 := RX4) (T := TX4) (N := 4) (j := 1) (ty0 := tyX4) rfl inX4 tyX4_ok nmX4 rfl (by decide) rfl rfl (fun _ => rfl) (fun _ => rfl) hin2 hdecl hd hw hk hl0 kk
theorem rg_X4_2 {r : Nat} (hd : decode M.2.1 pc = .ok (.getfield idx, 3)) (hw : Cond.fieldLink M.1.cls idx "TakeOver$Lists" "seen" "[I" ∈ mx_g) (hk : sk[k]? = some (.inr (4, refs))) (hr : refs.getD 2 none = some r)
    (kk : mx_Go l R M Z uc us (pc + 3) L (.ref r :: st) (sk, I)) : mx_Go l R M Z uc us pc L (.ref k :: st) (sk, I) :=
  g_getf (h := (sk, I)) (ci := 4) (C0 := RX4) (T := TX4) (N := 4) (j := 2) rfl inX4 rfl (by decide) hd hw hk (show mx_rv (refs.getD 2 none) = .ref r by rw [hr]; rfl) kk
theorem rp_X4_2 {r : Nat} (hin2 : M.1.name = "<init>") (hdecl : "TakeOver$Lists" = M.1.cls) (hd : decode M.2.1 pc = .ok (.putfield idx, 3)) (hw : Cond.fieldLink M.1.cls idx "TakeOver$Lists" "seen" "[I" ∈ mx_g) (hk : sk[k]? = some (.inr (4, refs))) (hl0 : 2 < refs.length)
    (kk : mx_Go l R M Z uc us (pc + 3) L st (sk.set k (.inr (4, refs.set 2 (some r))), I)) : mx_Go l R M Z uc us pc L (.ref r :: .ref k :: st) (sk, I) :=
  g_putrF (h := (sk, I)) (ci := 4) (C0 := RX4) (T := TX4) (N := 4) (j := 2) (ty0 := tyX4) rfl inX4 tyX4_ok nmX4 rfl (by decide) rfl rfl (fun _ => rfl) (fun _ => rfl) hin2 hdecl hd hw hk hl0 kk
theorem rg_X4_3 {v : Int32} (hd : decode M.2.1 pc = .ok (.getfield idx, 3)) (hw : Cond.fieldLink M.1.cls idx "TakeOver$Lists" "count" "I" ∈ mx_g) (hk : sk[k]? = some (.inr (4, refs))) (hv : I k 3 = v)
    (kk : mx_Go l R M Z uc us (pc + 3) L (.int v :: st) (sk, I)) : mx_Go l R M Z uc us pc L (.ref k :: st) (sk, I) :=
  g_getf (h := (sk, I)) (ci := 4) (C0 := RX4) (T := TX4) (N := 4) (j := 3) rfl inX4 rfl (by decide) hd hw hk rfl (by show mx_Go l R M Z uc us (pc + 3) L (.int (I k 3) :: st) (sk, I); rw [hv]; exact kk)
theorem rp_X4_3 {x : Int32} (hd : decode M.2.1 pc = .ok (.putfield idx, 3)) (hw : Cond.fieldLink M.1.cls idx "TakeOver$Lists" "count" "I" ∈ mx_g) (hk : sk[k]? = some (.inr (4, refs)))
    (kk : mx_Go l R M Z uc us (pc + 3) L st (sk, mx_set I k 3 x)) : mx_Go l R M Z uc us pc L (.int x :: .ref k :: st) (sk, I) :=
  g_putf (h := (sk, I)) (ci := 4) (C0 := RX4) (T := TX4) (N := 4) (j := 3) (ty0 := tyX4) rfl inX4 tyX4_ok nmX4 rfl (by decide) rfl rfl rfl rfl hd hw hk kk
theorem rg_X5_0 {r : Nat} (hd : decode M.2.1 pc = .ok (.getfield idx, 3)) (hw : Cond.fieldLink M.1.cls idx "TakeOver$Loads" "weight" "[I" ∈ mx_g) (hk : sk[k]? = some (.inr (5, refs))) (hr : refs.getD 0 none = some r)
    (kk : mx_Go l R M Z uc us (pc + 3) L (.ref r :: st) (sk, I)) : mx_Go l R M Z uc us pc L (.ref k :: st) (sk, I) :=
  g_getf (h := (sk, I)) (ci := 5) (C0 := RX5) (T := TX5) (N := 6) (j := 0) rfl inX5 rfl (by decide) hd hw hk (show mx_rv (refs.getD 0 none) = .ref r by rw [hr]; rfl) kk
theorem rp_X5_0 {r : Nat} (hin2 : M.1.name = "<init>") (hdecl : "TakeOver$Loads" = M.1.cls) (hd : decode M.2.1 pc = .ok (.putfield idx, 3)) (hw : Cond.fieldLink M.1.cls idx "TakeOver$Loads" "weight" "[I" ∈ mx_g) (hk : sk[k]? = some (.inr (5, refs))) (hl0 : 0 < refs.length)
    (kk : mx_Go l R M Z uc us (pc + 3) L st (sk.set k (.inr (5, refs.set 0 (some r))), I)) : mx_Go l R M Z uc us pc L (.ref r :: .ref k :: st) (sk, I) :=
  g_putrF (h := (sk, I)) (ci := 5) (C0 := RX5) (T := TX5) (N := 6) (j := 0) (ty0 := tyX5) rfl inX5 tyX5_ok nmX5 rfl (by decide) rfl rfl (fun _ => rfl) (fun _ => rfl) hin2 hdecl hd hw hk hl0 kk
theorem rg_X5_1 {r : Nat} (hd : decode M.2.1 pc = .ok (.getfield idx, 3)) (hw : Cond.fieldLink M.1.cls idx "TakeOver$Loads" "end" "[I" ∈ mx_g) (hk : sk[k]? = some (.inr (5, refs))) (hr : refs.getD 1 none = some r)
    (kk : mx_Go l R M Z uc us (pc + 3) L (.ref r :: st) (sk, I)) : mx_Go l R M Z uc us pc L (.ref k :: st) (sk, I) :=
  g_getf (h := (sk, I)) (ci := 5) (C0 := RX5) (T := TX5) (N := 6) (j := 1) rfl inX5 rfl (by decide) hd hw hk (show mx_rv (refs.getD 1 none) = .ref r by rw [hr]; rfl) kk
theorem rp_X5_1 {r : Nat} (hin2 : M.1.name = "<init>") (hdecl : "TakeOver$Loads" = M.1.cls) (hd : decode M.2.1 pc = .ok (.putfield idx, 3)) (hw : Cond.fieldLink M.1.cls idx "TakeOver$Loads" "end" "[I" ∈ mx_g) (hk : sk[k]? = some (.inr (5, refs))) (hl0 : 1 < refs.length)
    (kk : mx_Go l R M Z uc us (pc + 3) L st (sk.set k (.inr (5, refs.set 1 (some r))), I)) : mx_Go l R M Z uc us pc L (.ref r :: .ref k :: st) (sk, I) :=
  g_putrF (h := (sk, I)) (ci := 5) (C0 := RX5) (T := TX5) (N := 6) (j := 1) (ty0 := tyX5) rfl inX5 tyX5_ok nmX5 rfl (by decide) rfl rfl (fun _ => rfl) (fun _ => rfl) hin2 hdecl hd hw hk hl0 kk
theorem rg_X5_2 {r : Nat} (hd : decode M.2.1 pc = .ok (.getfield idx, 3)) (hw : Cond.fieldLink M.1.cls idx "TakeOver$Loads" "hour" "[I" ∈ mx_g) (hk : sk[k]? = some (.inr (5, refs))) (hr : refs.getD 2 none = some r)
    (kk : mx_Go l R M Z uc us (pc + 3) L (.ref r :: st) (sk, I)) : mx_Go l R M Z uc us pc L (.ref k :: st) (sk, I) :=
  g_getf (h := (sk, I)) (ci := 5) (C0 := RX5) (T := TX5) (N := 6) (j := 2) rfl inX5 rfl (by decide) hd hw hk (show mx_rv (refs.getD 2 none) = .ref r by rw [hr]; rfl) kk
theorem rp_X5_2 {r : Nat} (hin2 : M.1.name = "<init>") (hdecl : "TakeOver$Loads" = M.1.cls) (hd : decode M.2.1 pc = .ok (.putfield idx, 3)) (hw : Cond.fieldLink M.1.cls idx "TakeOver$Loads" "hour" "[I" ∈ mx_g) (hk : sk[k]? = some (.inr (5, refs))) (hl0 : 2 < refs.length)
    (kk : mx_Go l R M Z uc us (pc + 3) L st (sk.set k (.inr (5, refs.set 2 (some r))), I)) : mx_Go l R M Z uc us pc L (.ref r :: .ref k :: st) (sk, I) :=
  g_putrF (h := (sk, I)) (ci := 5) (C0 := RX5) (T := TX5) (N := 6) (j := 2) (ty0 := tyX5) rfl inX5 tyX5_ok nmX5 rfl (by decide) rfl rfl (fun _ => rfl) (fun _ => rfl) hin2 hdecl hd hw hk hl0 kk
theorem rg_X5_3 {r : Nat} (hd : decode M.2.1 pc = .ok (.getfield idx, 3)) (hw : Cond.fieldLink M.1.cls idx "TakeOver$Loads" "fetchEnd" "[I" ∈ mx_g) (hk : sk[k]? = some (.inr (5, refs))) (hr : refs.getD 3 none = some r)
    (kk : mx_Go l R M Z uc us (pc + 3) L (.ref r :: st) (sk, I)) : mx_Go l R M Z uc us pc L (.ref k :: st) (sk, I) :=
  g_getf (h := (sk, I)) (ci := 5) (C0 := RX5) (T := TX5) (N := 6) (j := 3) rfl inX5 rfl (by decide) hd hw hk (show mx_rv (refs.getD 3 none) = .ref r by rw [hr]; rfl) kk
theorem rp_X5_3 {r : Nat} (hin2 : M.1.name = "<init>") (hdecl : "TakeOver$Loads" = M.1.cls) (hd : decode M.2.1 pc = .ok (.putfield idx, 3)) (hw : Cond.fieldLink M.1.cls idx "TakeOver$Loads" "fetchEnd" "[I" ∈ mx_g) (hk : sk[k]? = some (.inr (5, refs))) (hl0 : 3 < refs.length)
    (kk : mx_Go l R M Z uc us (pc + 3) L st (sk.set k (.inr (5, refs.set 3 (some r))), I)) : mx_Go l R M Z uc us pc L (.ref r :: .ref k :: st) (sk, I) :=
  g_putrF (h := (sk, I)) (ci := 5) (C0 := RX5) (T := TX5) (N := 6) (j := 3) (ty0 := tyX5) rfl inX5 tyX5_ok nmX5 rfl (by decide) rfl rfl (fun _ => rfl) (fun _ => rfl) hin2 hdecl hd hw hk hl0 kk
theorem rg_X5_4 {r : Nat} (hd : decode M.2.1 pc = .ok (.getfield idx, 3)) (hw : Cond.fieldLink M.1.cls idx "TakeOver$Loads" "fetchHour" "[I" ∈ mx_g) (hk : sk[k]? = some (.inr (5, refs))) (hr : refs.getD 4 none = some r)
    (kk : mx_Go l R M Z uc us (pc + 3) L (.ref r :: st) (sk, I)) : mx_Go l R M Z uc us pc L (.ref k :: st) (sk, I) :=
  g_getf (h := (sk, I)) (ci := 5) (C0 := RX5) (T := TX5) (N := 6) (j := 4) rfl inX5 rfl (by decide) hd hw hk (show mx_rv (refs.getD 4 none) = .ref r by rw [hr]; rfl) kk
theorem rp_X5_4 {r : Nat} (hin2 : M.1.name = "<init>") (hdecl : "TakeOver$Loads" = M.1.cls) (hd : decode M.2.1 pc = .ok (.putfield idx, 3)) (hw : Cond.fieldLink M.1.cls idx "TakeOver$Loads" "fetchHour" "[I" ∈ mx_g) (hk : sk[k]? = some (.inr (5, refs))) (hl0 : 4 < refs.length)
    (kk : mx_Go l R M Z uc us (pc + 3) L st (sk.set k (.inr (5, refs.set 4 (some r))), I)) : mx_Go l R M Z uc us pc L (.ref r :: .ref k :: st) (sk, I) :=
  g_putrF (h := (sk, I)) (ci := 5) (C0 := RX5) (T := TX5) (N := 6) (j := 4) (ty0 := tyX5) rfl inX5 tyX5_ok nmX5 rfl (by decide) rfl rfl (fun _ => rfl) (fun _ => rfl) hin2 hdecl hd hw hk hl0 kk
theorem rg_X5_5 {v : Int32} (hd : decode M.2.1 pc = .ok (.getfield idx, 3)) (hw : Cond.fieldLink M.1.cls idx "TakeOver$Loads" "count" "I" ∈ mx_g) (hk : sk[k]? = some (.inr (5, refs))) (hv : I k 5 = v)
    (kk : mx_Go l R M Z uc us (pc + 3) L (.int v :: st) (sk, I)) : mx_Go l R M Z uc us pc L (.ref k :: st) (sk, I) :=
  g_getf (h := (sk, I)) (ci := 5) (C0 := RX5) (T := TX5) (N := 6) (j := 5) rfl inX5 rfl (by decide) hd hw hk rfl (by show mx_Go l R M Z uc us (pc + 3) L (.int (I k 5) :: st) (sk, I); rw [hv]; exact kk)
theorem rp_X5_5 {x : Int32} (hd : decode M.2.1 pc = .ok (.putfield idx, 3)) (hw : Cond.fieldLink M.1.cls idx "TakeOver$Loads" "count" "I" ∈ mx_g) (hk : sk[k]? = some (.inr (5, refs)))
    (kk : mx_Go l R M Z uc us (pc + 3) L st (sk, mx_set I k 5 x)) : mx_Go l R M Z uc us pc L (.int x :: .ref k :: st) (sk, I) :=
  g_putf (h := (sk, I)) (ci := 5) (C0 := RX5) (T := TX5) (N := 6) (j := 5) (ty0 := tyX5) rfl inX5 tyX5_ok nmX5 rfl (by decide) rfl rfl rfl rfl hd hw hk kk
theorem rg_X6_0 {r : Nat} (hd : decode M.2.1 pc = .ok (.getfield idx, 3)) (hw : Cond.fieldLink M.1.cls idx "TakeOver$Offers" "hour" "[I" ∈ mx_g) (hk : sk[k]? = some (.inr (6, refs))) (hr : refs.getD 0 none = some r)
    (kk : mx_Go l R M Z uc us (pc + 3) L (.ref r :: st) (sk, I)) : mx_Go l R M Z uc us pc L (.ref k :: st) (sk, I) :=
  g_getf (h := (sk, I)) (ci := 6) (C0 := RX6) (T := TX6) (N := 6) (j := 0) rfl inX6 rfl (by decide) hd hw hk (show mx_rv (refs.getD 0 none) = .ref r by rw [hr]; rfl) kk
theorem rp_X6_0 {r : Nat} (hin2 : M.1.name = "<init>") (hdecl : "TakeOver$Offers" = M.1.cls) (hd : decode M.2.1 pc = .ok (.putfield idx, 3)) (hw : Cond.fieldLink M.1.cls idx "TakeOver$Offers" "hour" "[I" ∈ mx_g) (hk : sk[k]? = some (.inr (6, refs))) (hl0 : 0 < refs.length)
    (kk : mx_Go l R M Z uc us (pc + 3) L st (sk.set k (.inr (6, refs.set 0 (some r))), I)) : mx_Go l R M Z uc us pc L (.ref r :: .ref k :: st) (sk, I) :=
  g_putrF (h := (sk, I)) (ci := 6) (C0 := RX6) (T := TX6) (N := 6) (j := 0) (ty0 := tyX6) rfl inX6 tyX6_ok nmX6 rfl (by decide) rfl rfl (fun _ => rfl) (fun _ => rfl) hin2 hdecl hd hw hk hl0 kk
theorem rg_X6_1 {r : Nat} (hd : decode M.2.1 pc = .ok (.getfield idx, 3)) (hw : Cond.fieldLink M.1.cls idx "TakeOver$Offers" "bridge" "[I" ∈ mx_g) (hk : sk[k]? = some (.inr (6, refs))) (hr : refs.getD 1 none = some r)
    (kk : mx_Go l R M Z uc us (pc + 3) L (.ref r :: st) (sk, I)) : mx_Go l R M Z uc us pc L (.ref k :: st) (sk, I) :=
  g_getf (h := (sk, I)) (ci := 6) (C0 := RX6) (T := TX6) (N := 6) (j := 1) rfl inX6 rfl (by decide) hd hw hk (show mx_rv (refs.getD 1 none) = .ref r by rw [hr]; rfl) kk
theorem rp_X6_1 {r : Nat} (hin2 : M.1.name = "<init>") (hdecl : "TakeOver$Offers" = M.1.cls) (hd : decode M.2.1 pc = .ok (.putfield idx, 3)) (hw : Cond.fieldLink M.1.cls idx "TakeOver$Offers" "bridge" "[I" ∈ mx_g) (hk : sk[k]? = some (.inr (6, refs))) (hl0 : 1 < refs.length)
    (kk : mx_Go l R M Z uc us (pc + 3) L st (sk.set k (.inr (6, refs.set 1 (some r))), I)) : mx_Go l R M Z uc us pc L (.ref r :: .ref k :: st) (sk, I) :=
  g_putrF (h := (sk, I)) (ci := 6) (C0 := RX6) (T := TX6) (N := 6) (j := 1) (ty0 := tyX6) rfl inX6 tyX6_ok nmX6 rfl (by decide) rfl rfl (fun _ => rfl) (fun _ => rfl) hin2 hdecl hd hw hk hl0 kk
theorem rg_X6_2 {r : Nat} (hd : decode M.2.1 pc = .ok (.getfield idx, 3)) (hw : Cond.fieldLink M.1.cls idx "TakeOver$Offers" "way" "[I" ∈ mx_g) (hk : sk[k]? = some (.inr (6, refs))) (hr : refs.getD 2 none = some r)
    (kk : mx_Go l R M Z uc us (pc + 3) L (.ref r :: st) (sk, I)) : mx_Go l R M Z uc us pc L (.ref k :: st) (sk, I) :=
  g_getf (h := (sk, I)) (ci := 6) (C0 := RX6) (T := TX6) (N := 6) (j := 2) rfl inX6 rfl (by decide) hd hw hk (show mx_rv (refs.getD 2 none) = .ref r by rw [hr]; rfl) kk
theorem rp_X6_2 {r : Nat} (hin2 : M.1.name = "<init>") (hdecl : "TakeOver$Offers" = M.1.cls) (hd : decode M.2.1 pc = .ok (.putfield idx, 3)) (hw : Cond.fieldLink M.1.cls idx "TakeOver$Offers" "way" "[I" ∈ mx_g) (hk : sk[k]? = some (.inr (6, refs))) (hl0 : 2 < refs.length)
    (kk : mx_Go l R M Z uc us (pc + 3) L st (sk.set k (.inr (6, refs.set 2 (some r))), I)) : mx_Go l R M Z uc us pc L (.ref r :: .ref k :: st) (sk, I) :=
  g_putrF (h := (sk, I)) (ci := 6) (C0 := RX6) (T := TX6) (N := 6) (j := 2) (ty0 := tyX6) rfl inX6 tyX6_ok nmX6 rfl (by decide) rfl rfl (fun _ => rfl) (fun _ => rfl) hin2 hdecl hd hw hk hl0 kk
theorem rg_X6_3 {r : Nat} (hd : decode M.2.1 pc = .ok (.getfield idx, 3)) (hw : Cond.fieldLink M.1.cls idx "TakeOver$Offers" "bears" "[I" ∈ mx_g) (hk : sk[k]? = some (.inr (6, refs))) (hr : refs.getD 3 none = some r)
    (kk : mx_Go l R M Z uc us (pc + 3) L (.ref r :: st) (sk, I)) : mx_Go l R M Z uc us pc L (.ref k :: st) (sk, I) :=
  g_getf (h := (sk, I)) (ci := 6) (C0 := RX6) (T := TX6) (N := 6) (j := 3) rfl inX6 rfl (by decide) hd hw hk (show mx_rv (refs.getD 3 none) = .ref r by rw [hr]; rfl) kk
theorem rp_X6_3 {r : Nat} (hin2 : M.1.name = "<init>") (hdecl : "TakeOver$Offers" = M.1.cls) (hd : decode M.2.1 pc = .ok (.putfield idx, 3)) (hw : Cond.fieldLink M.1.cls idx "TakeOver$Offers" "bears" "[I" ∈ mx_g) (hk : sk[k]? = some (.inr (6, refs))) (hl0 : 3 < refs.length)
    (kk : mx_Go l R M Z uc us (pc + 3) L st (sk.set k (.inr (6, refs.set 3 (some r))), I)) : mx_Go l R M Z uc us pc L (.ref r :: .ref k :: st) (sk, I) :=
  g_putrF (h := (sk, I)) (ci := 6) (C0 := RX6) (T := TX6) (N := 6) (j := 3) (ty0 := tyX6) rfl inX6 tyX6_ok nmX6 rfl (by decide) rfl rfl (fun _ => rfl) (fun _ => rfl) hin2 hdecl hd hw hk hl0 kk
theorem rg_X6_4 {r : Nat} (hd : decode M.2.1 pc = .ok (.getfield idx, 3)) (hw : Cond.fieldLink M.1.cls idx "TakeOver$Offers" "price" "[I" ∈ mx_g) (hk : sk[k]? = some (.inr (6, refs))) (hr : refs.getD 4 none = some r)
    (kk : mx_Go l R M Z uc us (pc + 3) L (.ref r :: st) (sk, I)) : mx_Go l R M Z uc us pc L (.ref k :: st) (sk, I) :=
  g_getf (h := (sk, I)) (ci := 6) (C0 := RX6) (T := TX6) (N := 6) (j := 4) rfl inX6 rfl (by decide) hd hw hk (show mx_rv (refs.getD 4 none) = .ref r by rw [hr]; rfl) kk
theorem rp_X6_4 {r : Nat} (hin2 : M.1.name = "<init>") (hdecl : "TakeOver$Offers" = M.1.cls) (hd : decode M.2.1 pc = .ok (.putfield idx, 3)) (hw : Cond.fieldLink M.1.cls idx "TakeOver$Offers" "price" "[I" ∈ mx_g) (hk : sk[k]? = some (.inr (6, refs))) (hl0 : 4 < refs.length)
    (kk : mx_Go l R M Z uc us (pc + 3) L st (sk.set k (.inr (6, refs.set 4 (some r))), I)) : mx_Go l R M Z uc us pc L (.ref r :: .ref k :: st) (sk, I) :=
  g_putrF (h := (sk, I)) (ci := 6) (C0 := RX6) (T := TX6) (N := 6) (j := 4) (ty0 := tyX6) rfl inX6 tyX6_ok nmX6 rfl (by decide) rfl rfl (fun _ => rfl) (fun _ => rfl) hin2 hdecl hd hw hk hl0 kk
theorem rg_X6_5 {v : Int32} (hd : decode M.2.1 pc = .ok (.getfield idx, 3)) (hw : Cond.fieldLink M.1.cls idx "TakeOver$Offers" "count" "I" ∈ mx_g) (hk : sk[k]? = some (.inr (6, refs))) (hv : I k 5 = v)
    (kk : mx_Go l R M Z uc us (pc + 3) L (.int v :: st) (sk, I)) : mx_Go l R M Z uc us pc L (.ref k :: st) (sk, I) :=
  g_getf (h := (sk, I)) (ci := 6) (C0 := RX6) (T := TX6) (N := 6) (j := 5) rfl inX6 rfl (by decide) hd hw hk rfl (by show mx_Go l R M Z uc us (pc + 3) L (.int (I k 5) :: st) (sk, I); rw [hv]; exact kk)
theorem rp_X6_5 {x : Int32} (hd : decode M.2.1 pc = .ok (.putfield idx, 3)) (hw : Cond.fieldLink M.1.cls idx "TakeOver$Offers" "count" "I" ∈ mx_g) (hk : sk[k]? = some (.inr (6, refs)))
    (kk : mx_Go l R M Z uc us (pc + 3) L st (sk, mx_set I k 5 x)) : mx_Go l R M Z uc us pc L (.int x :: .ref k :: st) (sk, I) :=
  g_putf (h := (sk, I)) (ci := 6) (C0 := RX6) (T := TX6) (N := 6) (j := 5) (ty0 := tyX6) rfl inX6 tyX6_ok nmX6 rfl (by decide) rfl rfl rfl rfl hd hw hk kk
theorem rg_X7_0 {r : Nat} (hd : decode M.2.1 pc = .ok (.getfield idx, 3)) (hw : Cond.fieldLink M.1.cls idx "TakeOver$Plan" "come" "[I" ∈ mx_g) (hk : sk[k]? = some (.inr (7, refs))) (hr : refs.getD 0 none = some r)
    (kk : mx_Go l R M Z uc us (pc + 3) L (.ref r :: st) (sk, I)) : mx_Go l R M Z uc us pc L (.ref k :: st) (sk, I) :=
  g_getf (h := (sk, I)) (ci := 7) (C0 := RX7) (T := TX7) (N := 5) (j := 0) rfl inX7 rfl (by decide) hd hw hk (show mx_rv (refs.getD 0 none) = .ref r by rw [hr]; rfl) kk
theorem rp_X7_0 {r : Nat} (hin2 : M.1.name = "<init>") (hdecl : "TakeOver$Plan" = M.1.cls) (hd : decode M.2.1 pc = .ok (.putfield idx, 3)) (hw : Cond.fieldLink M.1.cls idx "TakeOver$Plan" "come" "[I" ∈ mx_g) (hk : sk[k]? = some (.inr (7, refs))) (hl0 : 0 < refs.length)
    (kk : mx_Go l R M Z uc us (pc + 3) L st (sk.set k (.inr (7, refs.set 0 (some r))), I)) : mx_Go l R M Z uc us pc L (.ref r :: .ref k :: st) (sk, I) :=
  g_putrF (h := (sk, I)) (ci := 7) (C0 := RX7) (T := TX7) (N := 5) (j := 0) (ty0 := tyX7) rfl inX7 tyX7_ok nmX7 rfl (by decide) rfl rfl (fun _ => rfl) (fun _ => rfl) hin2 hdecl hd hw hk hl0 kk
theorem rg_X7_1 {r : Nat} (hd : decode M.2.1 pc = .ok (.getfield idx, 3)) (hw : Cond.fieldLink M.1.cls idx "TakeOver$Plan" "fetched" "[I" ∈ mx_g) (hk : sk[k]? = some (.inr (7, refs))) (hr : refs.getD 1 none = some r)
    (kk : mx_Go l R M Z uc us (pc + 3) L (.ref r :: st) (sk, I)) : mx_Go l R M Z uc us pc L (.ref k :: st) (sk, I) :=
  g_getf (h := (sk, I)) (ci := 7) (C0 := RX7) (T := TX7) (N := 5) (j := 1) rfl inX7 rfl (by decide) hd hw hk (show mx_rv (refs.getD 1 none) = .ref r by rw [hr]; rfl) kk
theorem rp_X7_1 {r : Nat} (hin2 : M.1.name = "<init>") (hdecl : "TakeOver$Plan" = M.1.cls) (hd : decode M.2.1 pc = .ok (.putfield idx, 3)) (hw : Cond.fieldLink M.1.cls idx "TakeOver$Plan" "fetched" "[I" ∈ mx_g) (hk : sk[k]? = some (.inr (7, refs))) (hl0 : 1 < refs.length)
    (kk : mx_Go l R M Z uc us (pc + 3) L st (sk.set k (.inr (7, refs.set 1 (some r))), I)) : mx_Go l R M Z uc us pc L (.ref r :: .ref k :: st) (sk, I) :=
  g_putrF (h := (sk, I)) (ci := 7) (C0 := RX7) (T := TX7) (N := 5) (j := 1) (ty0 := tyX7) rfl inX7 tyX7_ok nmX7 rfl (by decide) rfl rfl (fun _ => rfl) (fun _ => rfl) hin2 hdecl hd hw hk hl0 kk
theorem rg_X7_2 {r : Nat} (hd : decode M.2.1 pc = .ok (.getfield idx, 3)) (hw : Cond.fieldLink M.1.cls idx "TakeOver$Plan" "walk" "[I" ∈ mx_g) (hk : sk[k]? = some (.inr (7, refs))) (hr : refs.getD 2 none = some r)
    (kk : mx_Go l R M Z uc us (pc + 3) L (.ref r :: st) (sk, I)) : mx_Go l R M Z uc us pc L (.ref k :: st) (sk, I) :=
  g_getf (h := (sk, I)) (ci := 7) (C0 := RX7) (T := TX7) (N := 5) (j := 2) rfl inX7 rfl (by decide) hd hw hk (show mx_rv (refs.getD 2 none) = .ref r by rw [hr]; rfl) kk
theorem rp_X7_2 {r : Nat} (hin2 : M.1.name = "<init>") (hdecl : "TakeOver$Plan" = M.1.cls) (hd : decode M.2.1 pc = .ok (.putfield idx, 3)) (hw : Cond.fieldLink M.1.cls idx "TakeOver$Plan" "walk" "[I" ∈ mx_g) (hk : sk[k]? = some (.inr (7, refs))) (hl0 : 2 < refs.length)
    (kk : mx_Go l R M Z uc us (pc + 3) L st (sk.set k (.inr (7, refs.set 2 (some r))), I)) : mx_Go l R M Z uc us pc L (.ref r :: .ref k :: st) (sk, I) :=
  g_putrF (h := (sk, I)) (ci := 7) (C0 := RX7) (T := TX7) (N := 5) (j := 2) (ty0 := tyX7) rfl inX7 tyX7_ok nmX7 rfl (by decide) rfl rfl (fun _ => rfl) (fun _ => rfl) hin2 hdecl hd hw hk hl0 kk
theorem rg_X7_3 {r : Nat} (hd : decode M.2.1 pc = .ok (.getfield idx, 3)) (hw : Cond.fieldLink M.1.cls idx "TakeOver$Plan" "hire" "[I" ∈ mx_g) (hk : sk[k]? = some (.inr (7, refs))) (hr : refs.getD 3 none = some r)
    (kk : mx_Go l R M Z uc us (pc + 3) L (.ref r :: st) (sk, I)) : mx_Go l R M Z uc us pc L (.ref k :: st) (sk, I) :=
  g_getf (h := (sk, I)) (ci := 7) (C0 := RX7) (T := TX7) (N := 5) (j := 3) rfl inX7 rfl (by decide) hd hw hk (show mx_rv (refs.getD 3 none) = .ref r by rw [hr]; rfl) kk
theorem rp_X7_3 {r : Nat} (hin2 : M.1.name = "<init>") (hdecl : "TakeOver$Plan" = M.1.cls) (hd : decode M.2.1 pc = .ok (.putfield idx, 3)) (hw : Cond.fieldLink M.1.cls idx "TakeOver$Plan" "hire" "[I" ∈ mx_g) (hk : sk[k]? = some (.inr (7, refs))) (hl0 : 3 < refs.length)
    (kk : mx_Go l R M Z uc us (pc + 3) L st (sk.set k (.inr (7, refs.set 3 (some r))), I)) : mx_Go l R M Z uc us pc L (.ref r :: .ref k :: st) (sk, I) :=
  g_putrF (h := (sk, I)) (ci := 7) (C0 := RX7) (T := TX7) (N := 5) (j := 3) (ty0 := tyX7) rfl inX7 tyX7_ok nmX7 rfl (by decide) rfl rfl (fun _ => rfl) (fun _ => rfl) hin2 hdecl hd hw hk hl0 kk
theorem rg_X7_4 {r : Nat} (hd : decode M.2.1 pc = .ok (.getfield idx, 3)) (hw : Cond.fieldLink M.1.cls idx "TakeOver$Plan" "listed" "[I" ∈ mx_g) (hk : sk[k]? = some (.inr (7, refs))) (hr : refs.getD 4 none = some r)
    (kk : mx_Go l R M Z uc us (pc + 3) L (.ref r :: st) (sk, I)) : mx_Go l R M Z uc us pc L (.ref k :: st) (sk, I) :=
  g_getf (h := (sk, I)) (ci := 7) (C0 := RX7) (T := TX7) (N := 5) (j := 4) rfl inX7 rfl (by decide) hd hw hk (show mx_rv (refs.getD 4 none) = .ref r by rw [hr]; rfl) kk
theorem rp_X7_4 {r : Nat} (hin2 : M.1.name = "<init>") (hdecl : "TakeOver$Plan" = M.1.cls) (hd : decode M.2.1 pc = .ok (.putfield idx, 3)) (hw : Cond.fieldLink M.1.cls idx "TakeOver$Plan" "listed" "[I" ∈ mx_g) (hk : sk[k]? = some (.inr (7, refs))) (hl0 : 4 < refs.length)
    (kk : mx_Go l R M Z uc us (pc + 3) L st (sk.set k (.inr (7, refs.set 4 (some r))), I)) : mx_Go l R M Z uc us pc L (.ref r :: .ref k :: st) (sk, I) :=
  g_putrF (h := (sk, I)) (ci := 7) (C0 := RX7) (T := TX7) (N := 5) (j := 4) (ty0 := tyX7) rfl inX7 tyX7_ok nmX7 rfl (by decide) rfl rfl (fun _ => rfl) (fun _ => rfl) hin2 hdecl hd hw hk hl0 kk
theorem rg_X8_0 {r : Nat} (hd : decode M.2.1 pc = .ok (.getfield idx, 3)) (hw : Cond.fieldLink M.1.cls idx "TakeOver$Reader" "tape" "[I" ∈ mx_g) (hk : sk[k]? = some (.inr (8, refs))) (hr : refs.getD 0 none = some r)
    (kk : mx_Go l R M Z uc us (pc + 3) L (.ref r :: st) (sk, I)) : mx_Go l R M Z uc us pc L (.ref k :: st) (sk, I) :=
  g_getf (h := (sk, I)) (ci := 8) (C0 := RX8) (T := TX8) (N := 15) (j := 0) rfl inX8 rfl (by decide) hd hw hk (show mx_rv (refs.getD 0 none) = .ref r by rw [hr]; rfl) kk
theorem rp_X8_0 {r : Nat} (hin2 : M.1.name = "<init>") (hdecl : "TakeOver$Reader" = M.1.cls) (hd : decode M.2.1 pc = .ok (.putfield idx, 3)) (hw : Cond.fieldLink M.1.cls idx "TakeOver$Reader" "tape" "[I" ∈ mx_g) (hk : sk[k]? = some (.inr (8, refs))) (hl0 : 0 < refs.length)
    (kk : mx_Go l R M Z uc us (pc + 3) L st (sk.set k (.inr (8, refs.set 0 (some r))), I)) : mx_Go l R M Z uc us pc L (.ref r :: .ref k :: st) (sk, I) :=
  g_putrF (h := (sk, I)) (ci := 8) (C0 := RX8) (T := TX8) (N := 15) (j := 0) (ty0 := tyX8) rfl inX8 tyX8_ok nmX8 rfl (by decide) rfl rfl (fun _ => rfl) (fun _ => rfl) hin2 hdecl hd hw hk hl0 kk
theorem rg_X8_1 {r : Nat} (hd : decode M.2.1 pc = .ok (.getfield idx, 3)) (hw : Cond.fieldLink M.1.cls idx "TakeOver$Reader" "draft" "LTakeOver$Law;" ∈ mx_g) (hk : sk[k]? = some (.inr (8, refs))) (hr : refs.getD 1 none = some r)
    (kk : mx_Go l R M Z uc us (pc + 3) L (.ref r :: st) (sk, I)) : mx_Go l R M Z uc us pc L (.ref k :: st) (sk, I) :=
  g_getf (h := (sk, I)) (ci := 8) (C0 := RX8) (T := TX8) (N := 15) (j := 1) rfl inX8 rfl (by decide) hd hw hk (show mx_rv (refs.getD 1 none) = .ref r by rw [hr]; rfl) kk
theorem rp_X8_1 {r : Nat} (hin2 : M.1.name = "<init>") (hdecl : "TakeOver$Reader" = M.1.cls) (hd : decode M.2.1 pc = .ok (.putfield idx, 3)) (hw : Cond.fieldLink M.1.cls idx "TakeOver$Reader" "draft" "LTakeOver$Law;" ∈ mx_g) (hk : sk[k]? = some (.inr (8, refs))) (hl0 : 1 < refs.length)
    (kk : mx_Go l R M Z uc us (pc + 3) L st (sk.set k (.inr (8, refs.set 1 (some r))), I)) : mx_Go l R M Z uc us pc L (.ref r :: .ref k :: st) (sk, I) :=
  g_putrF (h := (sk, I)) (ci := 8) (C0 := RX8) (T := TX8) (N := 15) (j := 1) (ty0 := tyX8) rfl inX8 tyX8_ok nmX8 rfl (by decide) rfl rfl (fun _ => rfl) (fun _ => rfl) hin2 hdecl hd hw hk hl0 kk
theorem rg_X8_2 {r : Nat} (hd : decode M.2.1 pc = .ok (.getfield idx, 3)) (hw : Cond.fieldLink M.1.cls idx "TakeOver$Reader" "held" "[I" ∈ mx_g) (hk : sk[k]? = some (.inr (8, refs))) (hr : refs.getD 2 none = some r)
    (kk : mx_Go l R M Z uc us (pc + 3) L (.ref r :: st) (sk, I)) : mx_Go l R M Z uc us pc L (.ref k :: st) (sk, I) :=
  g_getf (h := (sk, I)) (ci := 8) (C0 := RX8) (T := TX8) (N := 15) (j := 2) rfl inX8 rfl (by decide) hd hw hk (show mx_rv (refs.getD 2 none) = .ref r by rw [hr]; rfl) kk
theorem rp_X8_2 {r : Nat} (hin2 : M.1.name = "<init>") (hdecl : "TakeOver$Reader" = M.1.cls) (hd : decode M.2.1 pc = .ok (.putfield idx, 3)) (hw : Cond.fieldLink M.1.cls idx "TakeOver$Reader" "held" "[I" ∈ mx_g) (hk : sk[k]? = some (.inr (8, refs))) (hl0 : 2 < refs.length)
    (kk : mx_Go l R M Z uc us (pc + 3) L st (sk.set k (.inr (8, refs.set 2 (some r))), I)) : mx_Go l R M Z uc us pc L (.ref r :: .ref k :: st) (sk, I) :=
  g_putrF (h := (sk, I)) (ci := 8) (C0 := RX8) (T := TX8) (N := 15) (j := 2) (ty0 := tyX8) rfl inX8 tyX8_ok nmX8 rfl (by decide) rfl rfl (fun _ => rfl) (fun _ => rfl) hin2 hdecl hd hw hk hl0 kk
theorem rg_X8_3 {v : Int32} (hd : decode M.2.1 pc = .ok (.getfield idx, 3)) (hw : Cond.fieldLink M.1.cls idx "TakeOver$Reader" "length" "I" ∈ mx_g) (hk : sk[k]? = some (.inr (8, refs))) (hv : I k 3 = v)
    (kk : mx_Go l R M Z uc us (pc + 3) L (.int v :: st) (sk, I)) : mx_Go l R M Z uc us pc L (.ref k :: st) (sk, I) :=
  g_getf (h := (sk, I)) (ci := 8) (C0 := RX8) (T := TX8) (N := 15) (j := 3) rfl inX8 rfl (by decide) hd hw hk rfl (by show mx_Go l R M Z uc us (pc + 3) L (.int (I k 3) :: st) (sk, I); rw [hv]; exact kk)
theorem rp_X8_3 {x : Int32} (hd : decode M.2.1 pc = .ok (.putfield idx, 3)) (hw : Cond.fieldLink M.1.cls idx "TakeOver$Reader" "length" "I" ∈ mx_g) (hk : sk[k]? = some (.inr (8, refs)))
    (kk : mx_Go l R M Z uc us (pc + 3) L st (sk, mx_set I k 3 x)) : mx_Go l R M Z uc us pc L (.int x :: .ref k :: st) (sk, I) :=
  g_putf (h := (sk, I)) (ci := 8) (C0 := RX8) (T := TX8) (N := 15) (j := 3) (ty0 := tyX8) rfl inX8 tyX8_ok nmX8 rfl (by decide) rfl rfl rfl rfl hd hw hk kk
theorem rg_X8_4 {v : Int32} (hd : decode M.2.1 pc = .ok (.getfield idx, 3)) (hw : Cond.fieldLink M.1.cls idx "TakeOver$Reader" "failure" "I" ∈ mx_g) (hk : sk[k]? = some (.inr (8, refs))) (hv : I k 4 = v)
    (kk : mx_Go l R M Z uc us (pc + 3) L (.int v :: st) (sk, I)) : mx_Go l R M Z uc us pc L (.ref k :: st) (sk, I) :=
  g_getf (h := (sk, I)) (ci := 8) (C0 := RX8) (T := TX8) (N := 15) (j := 4) rfl inX8 rfl (by decide) hd hw hk rfl (by show mx_Go l R M Z uc us (pc + 3) L (.int (I k 4) :: st) (sk, I); rw [hv]; exact kk)
theorem rp_X8_4 {x : Int32} (hd : decode M.2.1 pc = .ok (.putfield idx, 3)) (hw : Cond.fieldLink M.1.cls idx "TakeOver$Reader" "failure" "I" ∈ mx_g) (hk : sk[k]? = some (.inr (8, refs)))
    (kk : mx_Go l R M Z uc us (pc + 3) L st (sk, mx_set I k 4 x)) : mx_Go l R M Z uc us pc L (.int x :: .ref k :: st) (sk, I) :=
  g_putf (h := (sk, I)) (ci := 8) (C0 := RX8) (T := TX8) (N := 15) (j := 4) (ty0 := tyX8) rfl inX8 tyX8_ok nmX8 rfl (by decide) rfl rfl rfl rfl hd hw hk kk
theorem rg_X8_5 {v : Int32} (hd : decode M.2.1 pc = .ok (.getfield idx, 3)) (hw : Cond.fieldLink M.1.cls idx "TakeOver$Reader" "failurePlace" "I" ∈ mx_g) (hk : sk[k]? = some (.inr (8, refs))) (hv : I k 5 = v)
    (kk : mx_Go l R M Z uc us (pc + 3) L (.int v :: st) (sk, I)) : mx_Go l R M Z uc us pc L (.ref k :: st) (sk, I) :=
  g_getf (h := (sk, I)) (ci := 8) (C0 := RX8) (T := TX8) (N := 15) (j := 5) rfl inX8 rfl (by decide) hd hw hk rfl (by show mx_Go l R M Z uc us (pc + 3) L (.int (I k 5) :: st) (sk, I); rw [hv]; exact kk)
theorem rp_X8_5 {x : Int32} (hd : decode M.2.1 pc = .ok (.putfield idx, 3)) (hw : Cond.fieldLink M.1.cls idx "TakeOver$Reader" "failurePlace" "I" ∈ mx_g) (hk : sk[k]? = some (.inr (8, refs)))
    (kk : mx_Go l R M Z uc us (pc + 3) L st (sk, mx_set I k 5 x)) : mx_Go l R M Z uc us pc L (.int x :: .ref k :: st) (sk, I) :=
  g_putf (h := (sk, I)) (ci := 8) (C0 := RX8) (T := TX8) (N := 15) (j := 5) (ty0 := tyX8) rfl inX8 tyX8_ok nmX8 rfl (by decide) rfl rfl rfl rfl hd hw hk kk
theorem rg_X8_6 {v : Int32} (hd : decode M.2.1 pc = .ok (.getfield idx, 3)) (hw : Cond.fieldLink M.1.cls idx "TakeOver$Reader" "heldCount" "I" ∈ mx_g) (hk : sk[k]? = some (.inr (8, refs))) (hv : I k 6 = v)
    (kk : mx_Go l R M Z uc us (pc + 3) L (.int v :: st) (sk, I)) : mx_Go l R M Z uc us pc L (.ref k :: st) (sk, I) :=
  g_getf (h := (sk, I)) (ci := 8) (C0 := RX8) (T := TX8) (N := 15) (j := 6) rfl inX8 rfl (by decide) hd hw hk rfl (by show mx_Go l R M Z uc us (pc + 3) L (.int (I k 6) :: st) (sk, I); rw [hv]; exact kk)
theorem rp_X8_6 {x : Int32} (hd : decode M.2.1 pc = .ok (.putfield idx, 3)) (hw : Cond.fieldLink M.1.cls idx "TakeOver$Reader" "heldCount" "I" ∈ mx_g) (hk : sk[k]? = some (.inr (8, refs)))
    (kk : mx_Go l R M Z uc us (pc + 3) L st (sk, mx_set I k 6 x)) : mx_Go l R M Z uc us pc L (.int x :: .ref k :: st) (sk, I) :=
  g_putf (h := (sk, I)) (ci := 8) (C0 := RX8) (T := TX8) (N := 15) (j := 6) (ty0 := tyX8) rfl inX8 tyX8_ok nmX8 rfl (by decide) rfl rfl rfl rfl hd hw hk kk
theorem rg_X8_7 {v : Int32} (hd : decode M.2.1 pc = .ok (.getfield idx, 3)) (hw : Cond.fieldLink M.1.cls idx "TakeOver$Reader" "open" "I" ∈ mx_g) (hk : sk[k]? = some (.inr (8, refs))) (hv : I k 7 = v)
    (kk : mx_Go l R M Z uc us (pc + 3) L (.int v :: st) (sk, I)) : mx_Go l R M Z uc us pc L (.ref k :: st) (sk, I) :=
  g_getf (h := (sk, I)) (ci := 8) (C0 := RX8) (T := TX8) (N := 15) (j := 7) rfl inX8 rfl (by decide) hd hw hk rfl (by show mx_Go l R M Z uc us (pc + 3) L (.int (I k 7) :: st) (sk, I); rw [hv]; exact kk)
theorem rp_X8_7 {x : Int32} (hd : decode M.2.1 pc = .ok (.putfield idx, 3)) (hw : Cond.fieldLink M.1.cls idx "TakeOver$Reader" "open" "I" ∈ mx_g) (hk : sk[k]? = some (.inr (8, refs)))
    (kk : mx_Go l R M Z uc us (pc + 3) L st (sk, mx_set I k 7 x)) : mx_Go l R M Z uc us pc L (.int x :: .ref k :: st) (sk, I) :=
  g_putf (h := (sk, I)) (ci := 8) (C0 := RX8) (T := TX8) (N := 15) (j := 7) (ty0 := tyX8) rfl inX8 tyX8_ok nmX8 rfl (by decide) rfl rfl rfl rfl hd hw hk kk
theorem rg_X8_8 {v : Int32} (hd : decode M.2.1 pc = .ok (.getfield idx, 3)) (hw : Cond.fieldLink M.1.cls idx "TakeOver$Reader" "brackets" "I" ∈ mx_g) (hk : sk[k]? = some (.inr (8, refs))) (hv : I k 8 = v)
    (kk : mx_Go l R M Z uc us (pc + 3) L (.int v :: st) (sk, I)) : mx_Go l R M Z uc us pc L (.ref k :: st) (sk, I) :=
  g_getf (h := (sk, I)) (ci := 8) (C0 := RX8) (T := TX8) (N := 15) (j := 8) rfl inX8 rfl (by decide) hd hw hk rfl (by show mx_Go l R M Z uc us (pc + 3) L (.int (I k 8) :: st) (sk, I); rw [hv]; exact kk)
theorem rp_X8_8 {x : Int32} (hd : decode M.2.1 pc = .ok (.putfield idx, 3)) (hw : Cond.fieldLink M.1.cls idx "TakeOver$Reader" "brackets" "I" ∈ mx_g) (hk : sk[k]? = some (.inr (8, refs)))
    (kk : mx_Go l R M Z uc us (pc + 3) L st (sk, mx_set I k 8 x)) : mx_Go l R M Z uc us pc L (.int x :: .ref k :: st) (sk, I) :=
  g_putf (h := (sk, I)) (ci := 8) (C0 := RX8) (T := TX8) (N := 15) (j := 8) (ty0 := tyX8) rfl inX8 tyX8_ok nmX8 rfl (by decide) rfl rfl rfl rfl hd hw hk kk
theorem rg_X8_9 {v : Int32} (hd : decode M.2.1 pc = .ok (.getfield idx, 3)) (hw : Cond.fieldLink M.1.cls idx "TakeOver$Reader" "awaits" "I" ∈ mx_g) (hk : sk[k]? = some (.inr (8, refs))) (hv : I k 9 = v)
    (kk : mx_Go l R M Z uc us (pc + 3) L (.int v :: st) (sk, I)) : mx_Go l R M Z uc us pc L (.ref k :: st) (sk, I) :=
  g_getf (h := (sk, I)) (ci := 8) (C0 := RX8) (T := TX8) (N := 15) (j := 9) rfl inX8 rfl (by decide) hd hw hk rfl (by show mx_Go l R M Z uc us (pc + 3) L (.int (I k 9) :: st) (sk, I); rw [hv]; exact kk)
theorem rp_X8_9 {x : Int32} (hd : decode M.2.1 pc = .ok (.putfield idx, 3)) (hw : Cond.fieldLink M.1.cls idx "TakeOver$Reader" "awaits" "I" ∈ mx_g) (hk : sk[k]? = some (.inr (8, refs)))
    (kk : mx_Go l R M Z uc us (pc + 3) L st (sk, mx_set I k 9 x)) : mx_Go l R M Z uc us pc L (.int x :: .ref k :: st) (sk, I) :=
  g_putf (h := (sk, I)) (ci := 8) (C0 := RX8) (T := TX8) (N := 15) (j := 9) (ty0 := tyX8) rfl inX8 tyX8_ok nmX8 rfl (by decide) rfl rfl rfl rfl hd hw hk kk
theorem rg_X8_10 {v : Int32} (hd : decode M.2.1 pc = .ok (.getfield idx, 3)) (hw : Cond.fieldLink M.1.cls idx "TakeOver$Reader" "isRight" "Z" ∈ mx_g) (hk : sk[k]? = some (.inr (8, refs))) (hv : I k 10 = v)
    (kk : mx_Go l R M Z uc us (pc + 3) L (.int v :: st) (sk, I)) : mx_Go l R M Z uc us pc L (.ref k :: st) (sk, I) :=
  g_getf (h := (sk, I)) (ci := 8) (C0 := RX8) (T := TX8) (N := 15) (j := 10) rfl inX8 rfl (by decide) hd hw hk rfl (by show mx_Go l R M Z uc us (pc + 3) L (.int (I k 10) :: st) (sk, I); rw [hv]; exact kk)
theorem rp_X8_10 {x : Int32} (hx : x = 0 ∨ x = 1) (hd : decode M.2.1 pc = .ok (.putfield idx, 3)) (hw : Cond.fieldLink M.1.cls idx "TakeOver$Reader" "isRight" "Z" ∈ mx_g) (hk : sk[k]? = some (.inr (8, refs)))
    (kk : mx_Go l R M Z uc us (pc + 3) L st (sk, mx_set I k 10 x)) : mx_Go l R M Z uc us pc L (.int x :: .ref k :: st) (sk, I) :=
  g_putf (h := (sk, I)) (ci := 8) (C0 := RX8) (T := TX8) (N := 15) (j := 10) (ty0 := tyX8) rfl inX8 tyX8_ok nmX8 rfl (by decide) rfl rfl (by rcases hx with rfl | rfl <;> rfl) (by rcases hx with rfl | rfl <;> rfl) hd hw hk kk
theorem rg_X8_11 {v : Int32} (hd : decode M.2.1 pc = .ok (.getfield idx, 3)) (hw : Cond.fieldLink M.1.cls idx "TakeOver$Reader" "at" "I" ∈ mx_g) (hk : sk[k]? = some (.inr (8, refs))) (hv : I k 11 = v)
    (kk : mx_Go l R M Z uc us (pc + 3) L (.int v :: st) (sk, I)) : mx_Go l R M Z uc us pc L (.ref k :: st) (sk, I) :=
  g_getf (h := (sk, I)) (ci := 8) (C0 := RX8) (T := TX8) (N := 15) (j := 11) rfl inX8 rfl (by decide) hd hw hk rfl (by show mx_Go l R M Z uc us (pc + 3) L (.int (I k 11) :: st) (sk, I); rw [hv]; exact kk)
theorem rp_X8_11 {x : Int32} (hd : decode M.2.1 pc = .ok (.putfield idx, 3)) (hw : Cond.fieldLink M.1.cls idx "TakeOver$Reader" "at" "I" ∈ mx_g) (hk : sk[k]? = some (.inr (8, refs)))
    (kk : mx_Go l R M Z uc us (pc + 3) L st (sk, mx_set I k 11 x)) : mx_Go l R M Z uc us pc L (.int x :: .ref k :: st) (sk, I) :=
  g_putf (h := (sk, I)) (ci := 8) (C0 := RX8) (T := TX8) (N := 15) (j := 11) (ty0 := tyX8) rfl inX8 tyX8_ok nmX8 rfl (by decide) rfl rfl rfl rfl hd hw hk kk
theorem rg_X8_12 {v : Int32} (hd : decode M.2.1 pc = .ok (.getfield idx, 3)) (hw : Cond.fieldLink M.1.cls idx "TakeOver$Reader" "token" "I" ∈ mx_g) (hk : sk[k]? = some (.inr (8, refs))) (hv : I k 12 = v)
    (kk : mx_Go l R M Z uc us (pc + 3) L (.int v :: st) (sk, I)) : mx_Go l R M Z uc us pc L (.ref k :: st) (sk, I) :=
  g_getf (h := (sk, I)) (ci := 8) (C0 := RX8) (T := TX8) (N := 15) (j := 12) rfl inX8 rfl (by decide) hd hw hk rfl (by show mx_Go l R M Z uc us (pc + 3) L (.int (I k 12) :: st) (sk, I); rw [hv]; exact kk)
theorem rp_X8_12 {x : Int32} (hd : decode M.2.1 pc = .ok (.putfield idx, 3)) (hw : Cond.fieldLink M.1.cls idx "TakeOver$Reader" "token" "I" ∈ mx_g) (hk : sk[k]? = some (.inr (8, refs)))
    (kk : mx_Go l R M Z uc us (pc + 3) L st (sk, mx_set I k 12 x)) : mx_Go l R M Z uc us pc L (.int x :: .ref k :: st) (sk, I) :=
  g_putf (h := (sk, I)) (ci := 8) (C0 := RX8) (T := TX8) (N := 15) (j := 12) (ty0 := tyX8) rfl inX8 tyX8_ok nmX8 rfl (by decide) rfl rfl rfl rfl hd hw hk kk
theorem rg_X8_13 {v : Int32} (hd : decode M.2.1 pc = .ok (.getfield idx, 3)) (hw : Cond.fieldLink M.1.cls idx "TakeOver$Reader" "place" "I" ∈ mx_g) (hk : sk[k]? = some (.inr (8, refs))) (hv : I k 13 = v)
    (kk : mx_Go l R M Z uc us (pc + 3) L (.int v :: st) (sk, I)) : mx_Go l R M Z uc us pc L (.ref k :: st) (sk, I) :=
  g_getf (h := (sk, I)) (ci := 8) (C0 := RX8) (T := TX8) (N := 15) (j := 13) rfl inX8 rfl (by decide) hd hw hk rfl (by show mx_Go l R M Z uc us (pc + 3) L (.int (I k 13) :: st) (sk, I); rw [hv]; exact kk)
theorem rp_X8_13 {x : Int32} (hd : decode M.2.1 pc = .ok (.putfield idx, 3)) (hw : Cond.fieldLink M.1.cls idx "TakeOver$Reader" "place" "I" ∈ mx_g) (hk : sk[k]? = some (.inr (8, refs)))
    (kk : mx_Go l R M Z uc us (pc + 3) L st (sk, mx_set I k 13 x)) : mx_Go l R M Z uc us pc L (.int x :: .ref k :: st) (sk, I) :=
  g_putf (h := (sk, I)) (ci := 8) (C0 := RX8) (T := TX8) (N := 15) (j := 13) (ty0 := tyX8) rfl inX8 tyX8_ok nmX8 rfl (by decide) rfl rfl rfl rfl hd hw hk kk
theorem rg_X8_14 {v : Int32} (hd : decode M.2.1 pc = .ok (.getfield idx, 3)) (hw : Cond.fieldLink M.1.cls idx "TakeOver$Reader" "number" "I" ∈ mx_g) (hk : sk[k]? = some (.inr (8, refs))) (hv : I k 14 = v)
    (kk : mx_Go l R M Z uc us (pc + 3) L (.int v :: st) (sk, I)) : mx_Go l R M Z uc us pc L (.ref k :: st) (sk, I) :=
  g_getf (h := (sk, I)) (ci := 8) (C0 := RX8) (T := TX8) (N := 15) (j := 14) rfl inX8 rfl (by decide) hd hw hk rfl (by show mx_Go l R M Z uc us (pc + 3) L (.int (I k 14) :: st) (sk, I); rw [hv]; exact kk)
theorem rp_X8_14 {x : Int32} (hd : decode M.2.1 pc = .ok (.putfield idx, 3)) (hw : Cond.fieldLink M.1.cls idx "TakeOver$Reader" "number" "I" ∈ mx_g) (hk : sk[k]? = some (.inr (8, refs)))
    (kk : mx_Go l R M Z uc us (pc + 3) L st (sk, mx_set I k 14 x)) : mx_Go l R M Z uc us pc L (.int x :: .ref k :: st) (sk, I) :=
  g_putf (h := (sk, I)) (ci := 8) (C0 := RX8) (T := TX8) (N := 15) (j := 14) (ty0 := tyX8) rfl inX8 tyX8_ok nmX8 rfl (by decide) rfl rfl rfl rfl hd hw hk kk
theorem rg_X9_0 {r : Nat} (hd : decode M.2.1 pc = .ok (.getfield idx, 3)) (hw : Cond.fieldLink M.1.cls idx "TakeOver$State" "end" "[I" ∈ mx_g) (hk : sk[k]? = some (.inr (9, refs))) (hr : refs.getD 0 none = some r)
    (kk : mx_Go l R M Z uc us (pc + 3) L (.ref r :: st) (sk, I)) : mx_Go l R M Z uc us pc L (.ref k :: st) (sk, I) :=
  g_getf (h := (sk, I)) (ci := 9) (C0 := RX9) (T := TX9) (N := 11) (j := 0) rfl inX9 rfl (by decide) hd hw hk (show mx_rv (refs.getD 0 none) = .ref r by rw [hr]; rfl) kk
theorem rp_X9_0 {r : Nat} (hin2 : M.1.name = "<init>") (hdecl : "TakeOver$State" = M.1.cls) (hd : decode M.2.1 pc = .ok (.putfield idx, 3)) (hw : Cond.fieldLink M.1.cls idx "TakeOver$State" "end" "[I" ∈ mx_g) (hk : sk[k]? = some (.inr (9, refs))) (hl0 : 0 < refs.length)
    (kk : mx_Go l R M Z uc us (pc + 3) L st (sk.set k (.inr (9, refs.set 0 (some r))), I)) : mx_Go l R M Z uc us pc L (.ref r :: .ref k :: st) (sk, I) :=
  g_putrF (h := (sk, I)) (ci := 9) (C0 := RX9) (T := TX9) (N := 11) (j := 0) (ty0 := tyX9) rfl inX9 tyX9_ok nmX9 rfl (by decide) rfl rfl (fun _ => rfl) (fun _ => rfl) hin2 hdecl hd hw hk hl0 kk
theorem rg_X9_1 {r : Nat} (hd : decode M.2.1 pc = .ok (.getfield idx, 3)) (hw : Cond.fieldLink M.1.cls idx "TakeOver$State" "since" "[I" ∈ mx_g) (hk : sk[k]? = some (.inr (9, refs))) (hr : refs.getD 1 none = some r)
    (kk : mx_Go l R M Z uc us (pc + 3) L (.ref r :: st) (sk, I)) : mx_Go l R M Z uc us pc L (.ref k :: st) (sk, I) :=
  g_getf (h := (sk, I)) (ci := 9) (C0 := RX9) (T := TX9) (N := 11) (j := 1) rfl inX9 rfl (by decide) hd hw hk (show mx_rv (refs.getD 1 none) = .ref r by rw [hr]; rfl) kk
theorem rp_X9_1 {r : Nat} (hin2 : M.1.name = "<init>") (hdecl : "TakeOver$State" = M.1.cls) (hd : decode M.2.1 pc = .ok (.putfield idx, 3)) (hw : Cond.fieldLink M.1.cls idx "TakeOver$State" "since" "[I" ∈ mx_g) (hk : sk[k]? = some (.inr (9, refs))) (hl0 : 1 < refs.length)
    (kk : mx_Go l R M Z uc us (pc + 3) L st (sk.set k (.inr (9, refs.set 1 (some r))), I)) : mx_Go l R M Z uc us pc L (.ref r :: .ref k :: st) (sk, I) :=
  g_putrF (h := (sk, I)) (ci := 9) (C0 := RX9) (T := TX9) (N := 11) (j := 1) (ty0 := tyX9) rfl inX9 tyX9_ok nmX9 rfl (by decide) rfl rfl (fun _ => rfl) (fun _ => rfl) hin2 hdecl hd hw hk hl0 kk
theorem rg_X9_2 {r : Nat} (hd : decode M.2.1 pc = .ok (.getfield idx, 3)) (hw : Cond.fieldLink M.1.cls idx "TakeOver$State" "trips" "[I" ∈ mx_g) (hk : sk[k]? = some (.inr (9, refs))) (hr : refs.getD 2 none = some r)
    (kk : mx_Go l R M Z uc us (pc + 3) L (.ref r :: st) (sk, I)) : mx_Go l R M Z uc us pc L (.ref k :: st) (sk, I) :=
  g_getf (h := (sk, I)) (ci := 9) (C0 := RX9) (T := TX9) (N := 11) (j := 2) rfl inX9 rfl (by decide) hd hw hk (show mx_rv (refs.getD 2 none) = .ref r by rw [hr]; rfl) kk
theorem rp_X9_2 {r : Nat} (hin2 : M.1.name = "<init>") (hdecl : "TakeOver$State" = M.1.cls) (hd : decode M.2.1 pc = .ok (.putfield idx, 3)) (hw : Cond.fieldLink M.1.cls idx "TakeOver$State" "trips" "[I" ∈ mx_g) (hk : sk[k]? = some (.inr (9, refs))) (hl0 : 2 < refs.length)
    (kk : mx_Go l R M Z uc us (pc + 3) L st (sk.set k (.inr (9, refs.set 2 (some r))), I)) : mx_Go l R M Z uc us pc L (.ref r :: .ref k :: st) (sk, I) :=
  g_putrF (h := (sk, I)) (ci := 9) (C0 := RX9) (T := TX9) (N := 11) (j := 2) (ty0 := tyX9) rfl inX9 tyX9_ok nmX9 rfl (by decide) rfl rfl (fun _ => rfl) (fun _ => rfl) hin2 hdecl hd hw hk hl0 kk
theorem rg_X9_3 {r : Nat} (hd : decode M.2.1 pc = .ok (.getfield idx, 3)) (hw : Cond.fieldLink M.1.cls idx "TakeOver$State" "gone" "[I" ∈ mx_g) (hk : sk[k]? = some (.inr (9, refs))) (hr : refs.getD 3 none = some r)
    (kk : mx_Go l R M Z uc us (pc + 3) L (.ref r :: st) (sk, I)) : mx_Go l R M Z uc us pc L (.ref k :: st) (sk, I) :=
  g_getf (h := (sk, I)) (ci := 9) (C0 := RX9) (T := TX9) (N := 11) (j := 3) rfl inX9 rfl (by decide) hd hw hk (show mx_rv (refs.getD 3 none) = .ref r by rw [hr]; rfl) kk
theorem rp_X9_3 {r : Nat} (hin2 : M.1.name = "<init>") (hdecl : "TakeOver$State" = M.1.cls) (hd : decode M.2.1 pc = .ok (.putfield idx, 3)) (hw : Cond.fieldLink M.1.cls idx "TakeOver$State" "gone" "[I" ∈ mx_g) (hk : sk[k]? = some (.inr (9, refs))) (hl0 : 3 < refs.length)
    (kk : mx_Go l R M Z uc us (pc + 3) L st (sk.set k (.inr (9, refs.set 3 (some r))), I)) : mx_Go l R M Z uc us pc L (.ref r :: .ref k :: st) (sk, I) :=
  g_putrF (h := (sk, I)) (ci := 9) (C0 := RX9) (T := TX9) (N := 11) (j := 3) (ty0 := tyX9) rfl inX9 tyX9_ok nmX9 rfl (by decide) rfl rfl (fun _ => rfl) (fun _ => rfl) hin2 hdecl hd hw hk hl0 kk
theorem rg_X9_4 {r : Nat} (hd : decode M.2.1 pc = .ok (.getfield idx, 3)) (hw : Cond.fieldLink M.1.cls idx "TakeOver$State" "row" "[I" ∈ mx_g) (hk : sk[k]? = some (.inr (9, refs))) (hr : refs.getD 4 none = some r)
    (kk : mx_Go l R M Z uc us (pc + 3) L (.ref r :: st) (sk, I)) : mx_Go l R M Z uc us pc L (.ref k :: st) (sk, I) :=
  g_getf (h := (sk, I)) (ci := 9) (C0 := RX9) (T := TX9) (N := 11) (j := 4) rfl inX9 rfl (by decide) hd hw hk (show mx_rv (refs.getD 4 none) = .ref r by rw [hr]; rfl) kk
theorem rp_X9_4 {r : Nat} (hin2 : M.1.name = "<init>") (hdecl : "TakeOver$State" = M.1.cls) (hd : decode M.2.1 pc = .ok (.putfield idx, 3)) (hw : Cond.fieldLink M.1.cls idx "TakeOver$State" "row" "[I" ∈ mx_g) (hk : sk[k]? = some (.inr (9, refs))) (hl0 : 4 < refs.length)
    (kk : mx_Go l R M Z uc us (pc + 3) L st (sk.set k (.inr (9, refs.set 4 (some r))), I)) : mx_Go l R M Z uc us pc L (.ref r :: .ref k :: st) (sk, I) :=
  g_putrF (h := (sk, I)) (ci := 9) (C0 := RX9) (T := TX9) (N := 11) (j := 4) (ty0 := tyX9) rfl inX9 tyX9_ok nmX9 rfl (by decide) rfl rfl (fun _ => rfl) (fun _ => rfl) hin2 hdecl hd hw hk hl0 kk
theorem rg_X9_5 {r : Nat} (hd : decode M.2.1 pc = .ok (.getfield idx, 3)) (hw : Cond.fieldLink M.1.cls idx "TakeOver$State" "waiting" "[I" ∈ mx_g) (hk : sk[k]? = some (.inr (9, refs))) (hr : refs.getD 5 none = some r)
    (kk : mx_Go l R M Z uc us (pc + 3) L (.ref r :: st) (sk, I)) : mx_Go l R M Z uc us pc L (.ref k :: st) (sk, I) :=
  g_getf (h := (sk, I)) (ci := 9) (C0 := RX9) (T := TX9) (N := 11) (j := 5) rfl inX9 rfl (by decide) hd hw hk (show mx_rv (refs.getD 5 none) = .ref r by rw [hr]; rfl) kk
theorem rp_X9_5 {r : Nat} (hin2 : M.1.name = "<init>") (hdecl : "TakeOver$State" = M.1.cls) (hd : decode M.2.1 pc = .ok (.putfield idx, 3)) (hw : Cond.fieldLink M.1.cls idx "TakeOver$State" "waiting" "[I" ∈ mx_g) (hk : sk[k]? = some (.inr (9, refs))) (hl0 : 5 < refs.length)
    (kk : mx_Go l R M Z uc us (pc + 3) L st (sk.set k (.inr (9, refs.set 5 (some r))), I)) : mx_Go l R M Z uc us pc L (.ref r :: .ref k :: st) (sk, I) :=
  g_putrF (h := (sk, I)) (ci := 9) (C0 := RX9) (T := TX9) (N := 11) (j := 5) (ty0 := tyX9) rfl inX9 tyX9_ok nmX9 rfl (by decide) rfl rfl (fun _ => rfl) (fun _ => rfl) hin2 hdecl hd hw hk hl0 kk
theorem rg_X9_6 {r : Nat} (hd : decode M.2.1 pc = .ok (.getfield idx, 3)) (hw : Cond.fieldLink M.1.cls idx "TakeOver$State" "crossedAt" "[I" ∈ mx_g) (hk : sk[k]? = some (.inr (9, refs))) (hr : refs.getD 6 none = some r)
    (kk : mx_Go l R M Z uc us (pc + 3) L (.ref r :: st) (sk, I)) : mx_Go l R M Z uc us pc L (.ref k :: st) (sk, I) :=
  g_getf (h := (sk, I)) (ci := 9) (C0 := RX9) (T := TX9) (N := 11) (j := 6) rfl inX9 rfl (by decide) hd hw hk (show mx_rv (refs.getD 6 none) = .ref r by rw [hr]; rfl) kk
theorem rp_X9_6 {r : Nat} (hin2 : M.1.name = "<init>") (hdecl : "TakeOver$State" = M.1.cls) (hd : decode M.2.1 pc = .ok (.putfield idx, 3)) (hw : Cond.fieldLink M.1.cls idx "TakeOver$State" "crossedAt" "[I" ∈ mx_g) (hk : sk[k]? = some (.inr (9, refs))) (hl0 : 6 < refs.length)
    (kk : mx_Go l R M Z uc us (pc + 3) L st (sk.set k (.inr (9, refs.set 6 (some r))), I)) : mx_Go l R M Z uc us pc L (.ref r :: .ref k :: st) (sk, I) :=
  g_putrF (h := (sk, I)) (ci := 9) (C0 := RX9) (T := TX9) (N := 11) (j := 6) (ty0 := tyX9) rfl inX9 tyX9_ok nmX9 rfl (by decide) rfl rfl (fun _ => rfl) (fun _ => rfl) hin2 hdecl hd hw hk hl0 kk
theorem rg_X9_7 {r : Nat} (hd : decode M.2.1 pc = .ok (.getfield idx, 3)) (hw : Cond.fieldLink M.1.cls idx "TakeOver$State" "bore" "[I" ∈ mx_g) (hk : sk[k]? = some (.inr (9, refs))) (hr : refs.getD 7 none = some r)
    (kk : mx_Go l R M Z uc us (pc + 3) L (.ref r :: st) (sk, I)) : mx_Go l R M Z uc us pc L (.ref k :: st) (sk, I) :=
  g_getf (h := (sk, I)) (ci := 9) (C0 := RX9) (T := TX9) (N := 11) (j := 7) rfl inX9 rfl (by decide) hd hw hk (show mx_rv (refs.getD 7 none) = .ref r by rw [hr]; rfl) kk
theorem rp_X9_7 {r : Nat} (hin2 : M.1.name = "<init>") (hdecl : "TakeOver$State" = M.1.cls) (hd : decode M.2.1 pc = .ok (.putfield idx, 3)) (hw : Cond.fieldLink M.1.cls idx "TakeOver$State" "bore" "[I" ∈ mx_g) (hk : sk[k]? = some (.inr (9, refs))) (hl0 : 7 < refs.length)
    (kk : mx_Go l R M Z uc us (pc + 3) L st (sk.set k (.inr (9, refs.set 7 (some r))), I)) : mx_Go l R M Z uc us pc L (.ref r :: .ref k :: st) (sk, I) :=
  g_putrF (h := (sk, I)) (ci := 9) (C0 := RX9) (T := TX9) (N := 11) (j := 7) (ty0 := tyX9) rfl inX9 tyX9_ok nmX9 rfl (by decide) rfl rfl (fun _ => rfl) (fun _ => rfl) hin2 hdecl hd hw hk hl0 kk
theorem rg_X9_8 {r : Nat} (hd : decode M.2.1 pc = .ok (.getfield idx, 3)) (hw : Cond.fieldLink M.1.cls idx "TakeOver$State" "paid" "[I" ∈ mx_g) (hk : sk[k]? = some (.inr (9, refs))) (hr : refs.getD 8 none = some r)
    (kk : mx_Go l R M Z uc us (pc + 3) L (.ref r :: st) (sk, I)) : mx_Go l R M Z uc us pc L (.ref k :: st) (sk, I) :=
  g_getf (h := (sk, I)) (ci := 9) (C0 := RX9) (T := TX9) (N := 11) (j := 8) rfl inX9 rfl (by decide) hd hw hk (show mx_rv (refs.getD 8 none) = .ref r by rw [hr]; rfl) kk
theorem rp_X9_8 {r : Nat} (hin2 : M.1.name = "<init>") (hdecl : "TakeOver$State" = M.1.cls) (hd : decode M.2.1 pc = .ok (.putfield idx, 3)) (hw : Cond.fieldLink M.1.cls idx "TakeOver$State" "paid" "[I" ∈ mx_g) (hk : sk[k]? = some (.inr (9, refs))) (hl0 : 8 < refs.length)
    (kk : mx_Go l R M Z uc us (pc + 3) L st (sk.set k (.inr (9, refs.set 8 (some r))), I)) : mx_Go l R M Z uc us pc L (.ref r :: .ref k :: st) (sk, I) :=
  g_putrF (h := (sk, I)) (ci := 9) (C0 := RX9) (T := TX9) (N := 11) (j := 8) (ty0 := tyX9) rfl inX9 tyX9_ok nmX9 rfl (by decide) rfl rfl (fun _ => rfl) (fun _ => rfl) hin2 hdecl hd hw hk hl0 kk
theorem rg_X9_9 {v : Int32} (hd : decode M.2.1 pc = .ok (.getfield idx, 3)) (hw : Cond.fieldLink M.1.cls idx "TakeOver$State" "now" "I" ∈ mx_g) (hk : sk[k]? = some (.inr (9, refs))) (hv : I k 9 = v)
    (kk : mx_Go l R M Z uc us (pc + 3) L (.int v :: st) (sk, I)) : mx_Go l R M Z uc us pc L (.ref k :: st) (sk, I) :=
  g_getf (h := (sk, I)) (ci := 9) (C0 := RX9) (T := TX9) (N := 11) (j := 9) rfl inX9 rfl (by decide) hd hw hk rfl (by show mx_Go l R M Z uc us (pc + 3) L (.int (I k 9) :: st) (sk, I); rw [hv]; exact kk)
theorem rp_X9_9 {x : Int32} (hd : decode M.2.1 pc = .ok (.putfield idx, 3)) (hw : Cond.fieldLink M.1.cls idx "TakeOver$State" "now" "I" ∈ mx_g) (hk : sk[k]? = some (.inr (9, refs)))
    (kk : mx_Go l R M Z uc us (pc + 3) L st (sk, mx_set I k 9 x)) : mx_Go l R M Z uc us pc L (.int x :: .ref k :: st) (sk, I) :=
  g_putf (h := (sk, I)) (ci := 9) (C0 := RX9) (T := TX9) (N := 11) (j := 9) (ty0 := tyX9) rfl inX9 tyX9_ok nmX9 rfl (by decide) rfl rfl rfl rfl hd hw hk kk
theorem rg_X9_10 {v : Int32} (hd : decode M.2.1 pc = .ok (.getfield idx, 3)) (hw : Cond.fieldLink M.1.cls idx "TakeOver$State" "tollsPaid" "I" ∈ mx_g) (hk : sk[k]? = some (.inr (9, refs))) (hv : I k 10 = v)
    (kk : mx_Go l R M Z uc us (pc + 3) L (.int v :: st) (sk, I)) : mx_Go l R M Z uc us pc L (.ref k :: st) (sk, I) :=
  g_getf (h := (sk, I)) (ci := 9) (C0 := RX9) (T := TX9) (N := 11) (j := 10) rfl inX9 rfl (by decide) hd hw hk rfl (by show mx_Go l R M Z uc us (pc + 3) L (.int (I k 10) :: st) (sk, I); rw [hv]; exact kk)
theorem rp_X9_10 {x : Int32} (hd : decode M.2.1 pc = .ok (.putfield idx, 3)) (hw : Cond.fieldLink M.1.cls idx "TakeOver$State" "tollsPaid" "I" ∈ mx_g) (hk : sk[k]? = some (.inr (9, refs)))
    (kk : mx_Go l R M Z uc us (pc + 3) L st (sk, mx_set I k 10 x)) : mx_Go l R M Z uc us pc L (.int x :: .ref k :: st) (sk, I) :=
  g_putf (h := (sk, I)) (ci := 9) (C0 := RX9) (T := TX9) (N := 11) (j := 10) (ty0 := tyX9) rfl inX9 tyX9_ok nmX9 rfl (by decide) rfl rfl rfl rfl hd hw hk kk
theorem rg_X10_0 {r : Nat} (hd : decode M.2.1 pc = .ok (.getfield idx, 3)) (hw : Cond.fieldLink M.1.cls idx "TakeOver$Told" "loads" "LTakeOver$Loads;" ∈ mx_g) (hk : sk[k]? = some (.inr (10, refs))) (hr : refs.getD 0 none = some r)
    (kk : mx_Go l R M Z uc us (pc + 3) L (.ref r :: st) (sk, I)) : mx_Go l R M Z uc us pc L (.ref k :: st) (sk, I) :=
  g_getf (h := (sk, I)) (ci := 10) (C0 := RX10) (T := TX10) (N := 8) (j := 0) rfl inX10 rfl (by decide) hd hw hk (show mx_rv (refs.getD 0 none) = .ref r by rw [hr]; rfl) kk
theorem rp_X10_0 {r : Nat} (hin2 : M.1.name = "<init>") (hdecl : "TakeOver$Told" = M.1.cls) (hd : decode M.2.1 pc = .ok (.putfield idx, 3)) (hw : Cond.fieldLink M.1.cls idx "TakeOver$Told" "loads" "LTakeOver$Loads;" ∈ mx_g) (hk : sk[k]? = some (.inr (10, refs))) (hl0 : 0 < refs.length)
    (kk : mx_Go l R M Z uc us (pc + 3) L st (sk.set k (.inr (10, refs.set 0 (some r))), I)) : mx_Go l R M Z uc us pc L (.ref r :: .ref k :: st) (sk, I) :=
  g_putrF (h := (sk, I)) (ci := 10) (C0 := RX10) (T := TX10) (N := 8) (j := 0) (ty0 := tyX10) rfl inX10 tyX10_ok nmX10 rfl (by decide) rfl rfl (fun _ => rfl) (fun _ => rfl) hin2 hdecl hd hw hk hl0 kk
theorem rg_X10_1 {r : Nat} (hd : decode M.2.1 pc = .ok (.getfield idx, 3)) (hw : Cond.fieldLink M.1.cls idx "TakeOver$Told" "crossers" "LTakeOver$Crossers;" ∈ mx_g) (hk : sk[k]? = some (.inr (10, refs))) (hr : refs.getD 1 none = some r)
    (kk : mx_Go l R M Z uc us (pc + 3) L (.ref r :: st) (sk, I)) : mx_Go l R M Z uc us pc L (.ref k :: st) (sk, I) :=
  g_getf (h := (sk, I)) (ci := 10) (C0 := RX10) (T := TX10) (N := 8) (j := 1) rfl inX10 rfl (by decide) hd hw hk (show mx_rv (refs.getD 1 none) = .ref r by rw [hr]; rfl) kk
theorem rp_X10_1 {r : Nat} (hin2 : M.1.name = "<init>") (hdecl : "TakeOver$Told" = M.1.cls) (hd : decode M.2.1 pc = .ok (.putfield idx, 3)) (hw : Cond.fieldLink M.1.cls idx "TakeOver$Told" "crossers" "LTakeOver$Crossers;" ∈ mx_g) (hk : sk[k]? = some (.inr (10, refs))) (hl0 : 1 < refs.length)
    (kk : mx_Go l R M Z uc us (pc + 3) L st (sk.set k (.inr (10, refs.set 1 (some r))), I)) : mx_Go l R M Z uc us pc L (.ref r :: .ref k :: st) (sk, I) :=
  g_putrF (h := (sk, I)) (ci := 10) (C0 := RX10) (T := TX10) (N := 8) (j := 1) (ty0 := tyX10) rfl inX10 tyX10_ok nmX10 rfl (by decide) rfl rfl (fun _ => rfl) (fun _ => rfl) hin2 hdecl hd hw hk hl0 kk
theorem rg_X10_2 {r : Nat} (hd : decode M.2.1 pc = .ok (.getfield idx, 3)) (hw : Cond.fieldLink M.1.cls idx "TakeOver$Told" "offers" "LTakeOver$Offers;" ∈ mx_g) (hk : sk[k]? = some (.inr (10, refs))) (hr : refs.getD 2 none = some r)
    (kk : mx_Go l R M Z uc us (pc + 3) L (.ref r :: st) (sk, I)) : mx_Go l R M Z uc us pc L (.ref k :: st) (sk, I) :=
  g_getf (h := (sk, I)) (ci := 10) (C0 := RX10) (T := TX10) (N := 8) (j := 2) rfl inX10 rfl (by decide) hd hw hk (show mx_rv (refs.getD 2 none) = .ref r by rw [hr]; rfl) kk
theorem rp_X10_2 {r : Nat} (hin2 : M.1.name = "<init>") (hdecl : "TakeOver$Told" = M.1.cls) (hd : decode M.2.1 pc = .ok (.putfield idx, 3)) (hw : Cond.fieldLink M.1.cls idx "TakeOver$Told" "offers" "LTakeOver$Offers;" ∈ mx_g) (hk : sk[k]? = some (.inr (10, refs))) (hl0 : 2 < refs.length)
    (kk : mx_Go l R M Z uc us (pc + 3) L st (sk.set k (.inr (10, refs.set 2 (some r))), I)) : mx_Go l R M Z uc us pc L (.ref r :: .ref k :: st) (sk, I) :=
  g_putrF (h := (sk, I)) (ci := 10) (C0 := RX10) (T := TX10) (N := 8) (j := 2) (ty0 := tyX10) rfl inX10 tyX10_ok nmX10 rfl (by decide) rfl rfl (fun _ => rfl) (fun _ => rfl) hin2 hdecl hd hw hk hl0 kk
theorem rg_X10_3 {r : Nat} (hd : decode M.2.1 pc = .ok (.getfield idx, 3)) (hw : Cond.fieldLink M.1.cls idx "TakeOver$Told" "lists" "LTakeOver$Lists;" ∈ mx_g) (hk : sk[k]? = some (.inr (10, refs))) (hr : refs.getD 3 none = some r)
    (kk : mx_Go l R M Z uc us (pc + 3) L (.ref r :: st) (sk, I)) : mx_Go l R M Z uc us pc L (.ref k :: st) (sk, I) :=
  g_getf (h := (sk, I)) (ci := 10) (C0 := RX10) (T := TX10) (N := 8) (j := 3) rfl inX10 rfl (by decide) hd hw hk (show mx_rv (refs.getD 3 none) = .ref r by rw [hr]; rfl) kk
theorem rp_X10_3 {r : Nat} (hin2 : M.1.name = "<init>") (hdecl : "TakeOver$Told" = M.1.cls) (hd : decode M.2.1 pc = .ok (.putfield idx, 3)) (hw : Cond.fieldLink M.1.cls idx "TakeOver$Told" "lists" "LTakeOver$Lists;" ∈ mx_g) (hk : sk[k]? = some (.inr (10, refs))) (hl0 : 3 < refs.length)
    (kk : mx_Go l R M Z uc us (pc + 3) L st (sk.set k (.inr (10, refs.set 3 (some r))), I)) : mx_Go l R M Z uc us pc L (.ref r :: .ref k :: st) (sk, I) :=
  g_putrF (h := (sk, I)) (ci := 10) (C0 := RX10) (T := TX10) (N := 8) (j := 3) (ty0 := tyX10) rfl inX10 tyX10_ok nmX10 rfl (by decide) rfl rfl (fun _ => rfl) (fun _ => rfl) hin2 hdecl hd hw hk hl0 kk
theorem rg_X10_4 {r : Nat} (hd : decode M.2.1 pc = .ok (.getfield idx, 3)) (hw : Cond.fieldLink M.1.cls idx "TakeOver$Told" "law" "LTakeOver$Law;" ∈ mx_g) (hk : sk[k]? = some (.inr (10, refs))) (hr : refs.getD 4 none = some r)
    (kk : mx_Go l R M Z uc us (pc + 3) L (.ref r :: st) (sk, I)) : mx_Go l R M Z uc us pc L (.ref k :: st) (sk, I) :=
  g_getf (h := (sk, I)) (ci := 10) (C0 := RX10) (T := TX10) (N := 8) (j := 4) rfl inX10 rfl (by decide) hd hw hk (show mx_rv (refs.getD 4 none) = .ref r by rw [hr]; rfl) kk
theorem rp_X10_4 {r : Nat} (hin2 : M.1.name = "<init>") (hdecl : "TakeOver$Told" = M.1.cls) (hd : decode M.2.1 pc = .ok (.putfield idx, 3)) (hw : Cond.fieldLink M.1.cls idx "TakeOver$Told" "law" "LTakeOver$Law;" ∈ mx_g) (hk : sk[k]? = some (.inr (10, refs))) (hl0 : 4 < refs.length)
    (kk : mx_Go l R M Z uc us (pc + 3) L st (sk.set k (.inr (10, refs.set 4 (some r))), I)) : mx_Go l R M Z uc us pc L (.ref r :: .ref k :: st) (sk, I) :=
  g_putrF (h := (sk, I)) (ci := 10) (C0 := RX10) (T := TX10) (N := 8) (j := 4) (ty0 := tyX10) rfl inX10 tyX10_ok nmX10 rfl (by decide) rfl rfl (fun _ => rfl) (fun _ => rfl) hin2 hdecl hd hw hk hl0 kk
theorem rg_X10_5 {v : Int32} (hd : decode M.2.1 pc = .ok (.getfield idx, 3)) (hw : Cond.fieldLink M.1.cls idx "TakeOver$Told" "bridgeCount" "I" ∈ mx_g) (hk : sk[k]? = some (.inr (10, refs))) (hv : I k 5 = v)
    (kk : mx_Go l R M Z uc us (pc + 3) L (.int v :: st) (sk, I)) : mx_Go l R M Z uc us pc L (.ref k :: st) (sk, I) :=
  g_getf (h := (sk, I)) (ci := 10) (C0 := RX10) (T := TX10) (N := 8) (j := 5) rfl inX10 rfl (by decide) hd hw hk rfl (by show mx_Go l R M Z uc us (pc + 3) L (.int (I k 5) :: st) (sk, I); rw [hv]; exact kk)
theorem rp_X10_5 {x : Int32} (hd : decode M.2.1 pc = .ok (.putfield idx, 3)) (hw : Cond.fieldLink M.1.cls idx "TakeOver$Told" "bridgeCount" "I" ∈ mx_g) (hk : sk[k]? = some (.inr (10, refs)))
    (kk : mx_Go l R M Z uc us (pc + 3) L st (sk, mx_set I k 5 x)) : mx_Go l R M Z uc us pc L (.int x :: .ref k :: st) (sk, I) :=
  g_putf (h := (sk, I)) (ci := 10) (C0 := RX10) (T := TX10) (N := 8) (j := 5) (ty0 := tyX10) rfl inX10 tyX10_ok nmX10 rfl (by decide) rfl rfl rfl rfl hd hw hk kk
theorem rg_X10_6 {v : Int32} (hd : decode M.2.1 pc = .ok (.getfield idx, 3)) (hw : Cond.fieldLink M.1.cls idx "TakeOver$Told" "toll" "I" ∈ mx_g) (hk : sk[k]? = some (.inr (10, refs))) (hv : I k 6 = v)
    (kk : mx_Go l R M Z uc us (pc + 3) L (.int v :: st) (sk, I)) : mx_Go l R M Z uc us pc L (.ref k :: st) (sk, I) :=
  g_getf (h := (sk, I)) (ci := 10) (C0 := RX10) (T := TX10) (N := 8) (j := 6) rfl inX10 rfl (by decide) hd hw hk rfl (by show mx_Go l R M Z uc us (pc + 3) L (.int (I k 6) :: st) (sk, I); rw [hv]; exact kk)
theorem rp_X10_6 {x : Int32} (hd : decode M.2.1 pc = .ok (.putfield idx, 3)) (hw : Cond.fieldLink M.1.cls idx "TakeOver$Told" "toll" "I" ∈ mx_g) (hk : sk[k]? = some (.inr (10, refs)))
    (kk : mx_Go l R M Z uc us (pc + 3) L st (sk, mx_set I k 6 x)) : mx_Go l R M Z uc us pc L (.int x :: .ref k :: st) (sk, I) :=
  g_putf (h := (sk, I)) (ci := 10) (C0 := RX10) (T := TX10) (N := 8) (j := 6) (ty0 := tyX10) rfl inX10 tyX10_ok nmX10 rfl (by decide) rfl rfl rfl rfl hd hw hk kk
theorem rg_X10_7 {v : Int32} (hd : decode M.2.1 pc = .ok (.getfield idx, 3)) (hw : Cond.fieldLink M.1.cls idx "TakeOver$Told" "strict" "I" ∈ mx_g) (hk : sk[k]? = some (.inr (10, refs))) (hv : I k 7 = v)
    (kk : mx_Go l R M Z uc us (pc + 3) L (.int v :: st) (sk, I)) : mx_Go l R M Z uc us pc L (.ref k :: st) (sk, I) :=
  g_getf (h := (sk, I)) (ci := 10) (C0 := RX10) (T := TX10) (N := 8) (j := 7) rfl inX10 rfl (by decide) hd hw hk rfl (by show mx_Go l R M Z uc us (pc + 3) L (.int (I k 7) :: st) (sk, I); rw [hv]; exact kk)
theorem rp_X10_7 {x : Int32} (hd : decode M.2.1 pc = .ok (.putfield idx, 3)) (hw : Cond.fieldLink M.1.cls idx "TakeOver$Told" "strict" "I" ∈ mx_g) (hk : sk[k]? = some (.inr (10, refs)))
    (kk : mx_Go l R M Z uc us (pc + 3) L st (sk, mx_set I k 7 x)) : mx_Go l R M Z uc us pc L (.int x :: .ref k :: st) (sk, I) :=
  g_putf (h := (sk, I)) (ci := 10) (C0 := RX10) (T := TX10) (N := 8) (j := 7) (ty0 := tyX10) rfl inX10 tyX10_ok nmX10 rfl (by decide) rfl rfl rfl rfl hd hw hk kk
theorem rg_X11_0 {r : Nat} (hd : decode M.2.1 pc = .ok (.getfield idx, 3)) (hw : Cond.fieldLink M.1.cls idx "TakeOver" "told" "LTakeOver$Told;" ∈ mx_g) (hk : sk[k]? = some (.inr (11, refs))) (hr : refs.getD 0 none = some r)
    (kk : mx_Go l R M Z uc us (pc + 3) L (.ref r :: st) (sk, I)) : mx_Go l R M Z uc us pc L (.ref k :: st) (sk, I) :=
  g_getf (h := (sk, I)) (ci := 11) (C0 := RX11) (T := TX11) (N := 10) (j := 0) rfl inX11 rfl (by decide) hd hw hk (show mx_rv (refs.getD 0 none) = .ref r by rw [hr]; rfl) kk
theorem rp_X11_0 {r : Nat} (hin2 : M.1.name = "<init>") (hdecl : "TakeOver" = M.1.cls) (hd : decode M.2.1 pc = .ok (.putfield idx, 3)) (hw : Cond.fieldLink M.1.cls idx "TakeOver" "told" "LTakeOver$Told;" ∈ mx_g) (hk : sk[k]? = some (.inr (11, refs))) (hl0 : 0 < refs.length)
    (kk : mx_Go l R M Z uc us (pc + 3) L st (sk.set k (.inr (11, refs.set 0 (some r))), I)) : mx_Go l R M Z uc us pc L (.ref r :: .ref k :: st) (sk, I) :=
  g_putrF (h := (sk, I)) (ci := 11) (C0 := RX11) (T := TX11) (N := 10) (j := 0) (ty0 := tyX11) rfl inX11 tyX11_ok nmX11 rfl (by decide) rfl rfl (fun _ => rfl) (fun _ => rfl) hin2 hdecl hd hw hk hl0 kk
theorem rg_X11_1 {r : Nat} (hd : decode M.2.1 pc = .ok (.getfield idx, 3)) (hw : Cond.fieldLink M.1.cls idx "TakeOver" "state" "LTakeOver$State;" ∈ mx_g) (hk : sk[k]? = some (.inr (11, refs))) (hr : refs.getD 1 none = some r)
    (kk : mx_Go l R M Z uc us (pc + 3) L (.ref r :: st) (sk, I)) : mx_Go l R M Z uc us pc L (.ref k :: st) (sk, I) :=
  g_getf (h := (sk, I)) (ci := 11) (C0 := RX11) (T := TX11) (N := 10) (j := 1) rfl inX11 rfl (by decide) hd hw hk (show mx_rv (refs.getD 1 none) = .ref r by rw [hr]; rfl) kk
theorem rp_X11_1 {r : Nat} (hin2 : M.1.name = "<init>") (hdecl : "TakeOver" = M.1.cls) (hd : decode M.2.1 pc = .ok (.putfield idx, 3)) (hw : Cond.fieldLink M.1.cls idx "TakeOver" "state" "LTakeOver$State;" ∈ mx_g) (hk : sk[k]? = some (.inr (11, refs))) (hl0 : 1 < refs.length)
    (kk : mx_Go l R M Z uc us (pc + 3) L st (sk.set k (.inr (11, refs.set 1 (some r))), I)) : mx_Go l R M Z uc us pc L (.ref r :: .ref k :: st) (sk, I) :=
  g_putrF (h := (sk, I)) (ci := 11) (C0 := RX11) (T := TX11) (N := 10) (j := 1) (ty0 := tyX11) rfl inX11 tyX11_ok nmX11 rfl (by decide) rfl rfl (fun _ => rfl) (fun _ => rfl) hin2 hdecl hd hw hk hl0 kk
theorem rg_X11_2 {r : Nat} (hd : decode M.2.1 pc = .ok (.getfield idx, 3)) (hw : Cond.fieldLink M.1.cls idx "TakeOver" "record" "LTakeOver$Book;" ∈ mx_g) (hk : sk[k]? = some (.inr (11, refs))) (hr : refs.getD 2 none = some r)
    (kk : mx_Go l R M Z uc us (pc + 3) L (.ref r :: st) (sk, I)) : mx_Go l R M Z uc us pc L (.ref k :: st) (sk, I) :=
  g_getf (h := (sk, I)) (ci := 11) (C0 := RX11) (T := TX11) (N := 10) (j := 2) rfl inX11 rfl (by decide) hd hw hk (show mx_rv (refs.getD 2 none) = .ref r by rw [hr]; rfl) kk
theorem rp_X11_2 {r : Nat} (hin2 : M.1.name = "<init>") (hdecl : "TakeOver" = M.1.cls) (hd : decode M.2.1 pc = .ok (.putfield idx, 3)) (hw : Cond.fieldLink M.1.cls idx "TakeOver" "record" "LTakeOver$Book;" ∈ mx_g) (hk : sk[k]? = some (.inr (11, refs))) (hl0 : 2 < refs.length)
    (kk : mx_Go l R M Z uc us (pc + 3) L st (sk.set k (.inr (11, refs.set 2 (some r))), I)) : mx_Go l R M Z uc us pc L (.ref r :: .ref k :: st) (sk, I) :=
  g_putrF (h := (sk, I)) (ci := 11) (C0 := RX11) (T := TX11) (N := 10) (j := 2) (ty0 := tyX11) rfl inX11 tyX11_ok nmX11 rfl (by decide) rfl rfl (fun _ => rfl) (fun _ => rfl) hin2 hdecl hd hw hk hl0 kk
theorem rg_X11_3 {r : Nat} (hd : decode M.2.1 pc = .ok (.getfield idx, 3)) (hw : Cond.fieldLink M.1.cls idx "TakeOver" "reader" "LTakeOver$Reader;" ∈ mx_g) (hk : sk[k]? = some (.inr (11, refs))) (hr : refs.getD 3 none = some r)
    (kk : mx_Go l R M Z uc us (pc + 3) L (.ref r :: st) (sk, I)) : mx_Go l R M Z uc us pc L (.ref k :: st) (sk, I) :=
  g_getf (h := (sk, I)) (ci := 11) (C0 := RX11) (T := TX11) (N := 10) (j := 3) rfl inX11 rfl (by decide) hd hw hk (show mx_rv (refs.getD 3 none) = .ref r by rw [hr]; rfl) kk
theorem rp_X11_3 {r : Nat} (hin2 : M.1.name = "<init>") (hdecl : "TakeOver" = M.1.cls) (hd : decode M.2.1 pc = .ok (.putfield idx, 3)) (hw : Cond.fieldLink M.1.cls idx "TakeOver" "reader" "LTakeOver$Reader;" ∈ mx_g) (hk : sk[k]? = some (.inr (11, refs))) (hl0 : 3 < refs.length)
    (kk : mx_Go l R M Z uc us (pc + 3) L st (sk.set k (.inr (11, refs.set 3 (some r))), I)) : mx_Go l R M Z uc us pc L (.ref r :: .ref k :: st) (sk, I) :=
  g_putrF (h := (sk, I)) (ci := 11) (C0 := RX11) (T := TX11) (N := 10) (j := 3) (ty0 := tyX11) rfl inX11 tyX11_ok nmX11 rfl (by decide) rfl rfl (fun _ => rfl) (fun _ => rfl) hin2 hdecl hd hw hk hl0 kk
theorem rg_X11_4 {r : Nat} (hd : decode M.2.1 pc = .ok (.getfield idx, 3)) (hw : Cond.fieldLink M.1.cls idx "TakeOver" "course" "LTakeOver$Course;" ∈ mx_g) (hk : sk[k]? = some (.inr (11, refs))) (hr : refs.getD 4 none = some r)
    (kk : mx_Go l R M Z uc us (pc + 3) L (.ref r :: st) (sk, I)) : mx_Go l R M Z uc us pc L (.ref k :: st) (sk, I) :=
  g_getf (h := (sk, I)) (ci := 11) (C0 := RX11) (T := TX11) (N := 10) (j := 4) rfl inX11 rfl (by decide) hd hw hk (show mx_rv (refs.getD 4 none) = .ref r by rw [hr]; rfl) kk
theorem rp_X11_4 {r : Nat} (hin2 : M.1.name = "<init>") (hdecl : "TakeOver" = M.1.cls) (hd : decode M.2.1 pc = .ok (.putfield idx, 3)) (hw : Cond.fieldLink M.1.cls idx "TakeOver" "course" "LTakeOver$Course;" ∈ mx_g) (hk : sk[k]? = some (.inr (11, refs))) (hl0 : 4 < refs.length)
    (kk : mx_Go l R M Z uc us (pc + 3) L st (sk.set k (.inr (11, refs.set 4 (some r))), I)) : mx_Go l R M Z uc us pc L (.ref r :: .ref k :: st) (sk, I) :=
  g_putrF (h := (sk, I)) (ci := 11) (C0 := RX11) (T := TX11) (N := 10) (j := 4) (ty0 := tyX11) rfl inX11 tyX11_ok nmX11 rfl (by decide) rfl rfl (fun _ => rfl) (fun _ => rfl) hin2 hdecl hd hw hk hl0 kk
theorem rg_X11_5 {r : Nat} (hd : decode M.2.1 pc = .ok (.getfield idx, 3)) (hw : Cond.fieldLink M.1.cls idx "TakeOver" "thought" "LTakeOver$State;" ∈ mx_g) (hk : sk[k]? = some (.inr (11, refs))) (hr : refs.getD 5 none = some r)
    (kk : mx_Go l R M Z uc us (pc + 3) L (.ref r :: st) (sk, I)) : mx_Go l R M Z uc us pc L (.ref k :: st) (sk, I) :=
  g_getf (h := (sk, I)) (ci := 11) (C0 := RX11) (T := TX11) (N := 10) (j := 5) rfl inX11 rfl (by decide) hd hw hk (show mx_rv (refs.getD 5 none) = .ref r by rw [hr]; rfl) kk
theorem rp_X11_5 {r : Nat} (hin2 : M.1.name = "<init>") (hdecl : "TakeOver" = M.1.cls) (hd : decode M.2.1 pc = .ok (.putfield idx, 3)) (hw : Cond.fieldLink M.1.cls idx "TakeOver" "thought" "LTakeOver$State;" ∈ mx_g) (hk : sk[k]? = some (.inr (11, refs))) (hl0 : 5 < refs.length)
    (kk : mx_Go l R M Z uc us (pc + 3) L st (sk.set k (.inr (11, refs.set 5 (some r))), I)) : mx_Go l R M Z uc us pc L (.ref r :: .ref k :: st) (sk, I) :=
  g_putrF (h := (sk, I)) (ci := 11) (C0 := RX11) (T := TX11) (N := 10) (j := 5) (ty0 := tyX11) rfl inX11 tyX11_ok nmX11 rfl (by decide) rfl rfl (fun _ => rfl) (fun _ => rfl) hin2 hdecl hd hw hk hl0 kk
theorem rg_X11_6 {r : Nat} (hd : decode M.2.1 pc = .ok (.getfield idx, 3)) (hw : Cond.fieldLink M.1.cls idx "TakeOver" "oldTold" "LTakeOver$Told;" ∈ mx_g) (hk : sk[k]? = some (.inr (11, refs))) (hr : refs.getD 6 none = some r)
    (kk : mx_Go l R M Z uc us (pc + 3) L (.ref r :: st) (sk, I)) : mx_Go l R M Z uc us pc L (.ref k :: st) (sk, I) :=
  g_getf (h := (sk, I)) (ci := 11) (C0 := RX11) (T := TX11) (N := 10) (j := 6) rfl inX11 rfl (by decide) hd hw hk (show mx_rv (refs.getD 6 none) = .ref r by rw [hr]; rfl) kk
theorem rp_X11_6 {r : Nat} (hin2 : M.1.name = "<init>") (hdecl : "TakeOver" = M.1.cls) (hd : decode M.2.1 pc = .ok (.putfield idx, 3)) (hw : Cond.fieldLink M.1.cls idx "TakeOver" "oldTold" "LTakeOver$Told;" ∈ mx_g) (hk : sk[k]? = some (.inr (11, refs))) (hl0 : 6 < refs.length)
    (kk : mx_Go l R M Z uc us (pc + 3) L st (sk.set k (.inr (11, refs.set 6 (some r))), I)) : mx_Go l R M Z uc us pc L (.ref r :: .ref k :: st) (sk, I) :=
  g_putrF (h := (sk, I)) (ci := 11) (C0 := RX11) (T := TX11) (N := 10) (j := 6) (ty0 := tyX11) rfl inX11 tyX11_ok nmX11 rfl (by decide) rfl rfl (fun _ => rfl) (fun _ => rfl) hin2 hdecl hd hw hk hl0 kk
theorem rg_X11_7 {r : Nat} (hd : decode M.2.1 pc = .ok (.getfield idx, 3)) (hw : Cond.fieldLink M.1.cls idx "TakeOver" "oldState" "LTakeOver$State;" ∈ mx_g) (hk : sk[k]? = some (.inr (11, refs))) (hr : refs.getD 7 none = some r)
    (kk : mx_Go l R M Z uc us (pc + 3) L (.ref r :: st) (sk, I)) : mx_Go l R M Z uc us pc L (.ref k :: st) (sk, I) :=
  g_getf (h := (sk, I)) (ci := 11) (C0 := RX11) (T := TX11) (N := 10) (j := 7) rfl inX11 rfl (by decide) hd hw hk (show mx_rv (refs.getD 7 none) = .ref r by rw [hr]; rfl) kk
theorem rp_X11_7 {r : Nat} (hin2 : M.1.name = "<init>") (hdecl : "TakeOver" = M.1.cls) (hd : decode M.2.1 pc = .ok (.putfield idx, 3)) (hw : Cond.fieldLink M.1.cls idx "TakeOver" "oldState" "LTakeOver$State;" ∈ mx_g) (hk : sk[k]? = some (.inr (11, refs))) (hl0 : 7 < refs.length)
    (kk : mx_Go l R M Z uc us (pc + 3) L st (sk.set k (.inr (11, refs.set 7 (some r))), I)) : mx_Go l R M Z uc us pc L (.ref r :: .ref k :: st) (sk, I) :=
  g_putrF (h := (sk, I)) (ci := 11) (C0 := RX11) (T := TX11) (N := 10) (j := 7) (ty0 := tyX11) rfl inX11 tyX11_ok nmX11 rfl (by decide) rfl rfl (fun _ => rfl) (fun _ => rfl) hin2 hdecl hd hw hk hl0 kk
theorem rg_X11_8 {r : Nat} (hd : decode M.2.1 pc = .ok (.getfield idx, 3)) (hw : Cond.fieldLink M.1.cls idx "TakeOver" "oldRecord" "LTakeOver$Book;" ∈ mx_g) (hk : sk[k]? = some (.inr (11, refs))) (hr : refs.getD 8 none = some r)
    (kk : mx_Go l R M Z uc us (pc + 3) L (.ref r :: st) (sk, I)) : mx_Go l R M Z uc us pc L (.ref k :: st) (sk, I) :=
  g_getf (h := (sk, I)) (ci := 11) (C0 := RX11) (T := TX11) (N := 10) (j := 8) rfl inX11 rfl (by decide) hd hw hk (show mx_rv (refs.getD 8 none) = .ref r by rw [hr]; rfl) kk
theorem rp_X11_8 {r : Nat} (hin2 : M.1.name = "<init>") (hdecl : "TakeOver" = M.1.cls) (hd : decode M.2.1 pc = .ok (.putfield idx, 3)) (hw : Cond.fieldLink M.1.cls idx "TakeOver" "oldRecord" "LTakeOver$Book;" ∈ mx_g) (hk : sk[k]? = some (.inr (11, refs))) (hl0 : 8 < refs.length)
    (kk : mx_Go l R M Z uc us (pc + 3) L st (sk.set k (.inr (11, refs.set 8 (some r))), I)) : mx_Go l R M Z uc us pc L (.ref r :: .ref k :: st) (sk, I) :=
  g_putrF (h := (sk, I)) (ci := 11) (C0 := RX11) (T := TX11) (N := 10) (j := 8) (ty0 := tyX11) rfl inX11 tyX11_ok nmX11 rfl (by decide) rfl rfl (fun _ => rfl) (fun _ => rfl) hin2 hdecl hd hw hk hl0 kk
theorem rg_X11_9 {v : Int32} (hd : decode M.2.1 pc = .ok (.getfield idx, 3)) (hw : Cond.fieldLink M.1.cls idx "TakeOver" "imageTaken" "Z" ∈ mx_g) (hk : sk[k]? = some (.inr (11, refs))) (hv : I k 9 = v)
    (kk : mx_Go l R M Z uc us (pc + 3) L (.int v :: st) (sk, I)) : mx_Go l R M Z uc us pc L (.ref k :: st) (sk, I) :=
  g_getf (h := (sk, I)) (ci := 11) (C0 := RX11) (T := TX11) (N := 10) (j := 9) rfl inX11 rfl (by decide) hd hw hk rfl (by show mx_Go l R M Z uc us (pc + 3) L (.int (I k 9) :: st) (sk, I); rw [hv]; exact kk)
theorem rp_X11_9 {x : Int32} (hx : x = 0 ∨ x = 1) (hd : decode M.2.1 pc = .ok (.putfield idx, 3)) (hw : Cond.fieldLink M.1.cls idx "TakeOver" "imageTaken" "Z" ∈ mx_g) (hk : sk[k]? = some (.inr (11, refs)))
    (kk : mx_Go l R M Z uc us (pc + 3) L st (sk, mx_set I k 9 x)) : mx_Go l R M Z uc us pc L (.int x :: .ref k :: st) (sk, I) :=
  g_putf (h := (sk, I)) (ci := 11) (C0 := RX11) (T := TX11) (N := 10) (j := 9) (ty0 := tyX11) rfl inX11 tyX11_ok nmX11 rfl (by decide) rfl rfl (by rcases hx with rfl | rfl <;> rfl) (by rcases hx with rfl | rfl <;> rfl) hd hw hk kk
theorem rg_X12_0 {r : Nat} (hd : decode M.2.1 pc = .ok (.getfield idx, 3)) (hw : Cond.fieldLink M.1.cls idx "TakeOverModel" "w" "[I" ∈ mx_g) (hk : sk[k]? = some (.inr (12, refs))) (hr : refs.getD 0 none = some r)
    (kk : mx_Go l R M Z uc us (pc + 3) L (.ref r :: st) (sk, I)) : mx_Go l R M Z uc us pc L (.ref k :: st) (sk, I) :=
  g_getf (h := (sk, I)) (ci := 12) (C0 := RX12) (T := TX12) (N := 33) (j := 0) rfl inX12 rfl (by decide) hd hw hk (show mx_rv (refs.getD 0 none) = .ref r by rw [hr]; rfl) kk
theorem rp_X12_0 {r : Nat} (hin2 : M.1.name = "<init>") (hdecl : "TakeOverModel" = M.1.cls) (hd : decode M.2.1 pc = .ok (.putfield idx, 3)) (hw : Cond.fieldLink M.1.cls idx "TakeOverModel" "w" "[I" ∈ mx_g) (hk : sk[k]? = some (.inr (12, refs))) (hl0 : 0 < refs.length)
    (kk : mx_Go l R M Z uc us (pc + 3) L st (sk.set k (.inr (12, refs.set 0 (some r))), I)) : mx_Go l R M Z uc us pc L (.ref r :: .ref k :: st) (sk, I) :=
  g_putrF (h := (sk, I)) (ci := 12) (C0 := RX12) (T := TX12) (N := 33) (j := 0) (ty0 := tyX12) rfl inX12 tyX12_ok nmX12 rfl (by decide) rfl rfl (fun _ => rfl) (fun _ => rfl) hin2 hdecl hd hw hk hl0 kk
theorem rg_X12_1 {r : Nat} (hd : decode M.2.1 pc = .ok (.getfield idx, 3)) (hw : Cond.fieldLink M.1.cls idx "TakeOverModel" "kept" "[I" ∈ mx_g) (hk : sk[k]? = some (.inr (12, refs))) (hr : refs.getD 1 none = some r)
    (kk : mx_Go l R M Z uc us (pc + 3) L (.ref r :: st) (sk, I)) : mx_Go l R M Z uc us pc L (.ref k :: st) (sk, I) :=
  g_getf (h := (sk, I)) (ci := 12) (C0 := RX12) (T := TX12) (N := 33) (j := 1) rfl inX12 rfl (by decide) hd hw hk (show mx_rv (refs.getD 1 none) = .ref r by rw [hr]; rfl) kk
theorem rp_X12_1 {r : Nat} (hin2 : M.1.name = "<init>") (hdecl : "TakeOverModel" = M.1.cls) (hd : decode M.2.1 pc = .ok (.putfield idx, 3)) (hw : Cond.fieldLink M.1.cls idx "TakeOverModel" "kept" "[I" ∈ mx_g) (hk : sk[k]? = some (.inr (12, refs))) (hl0 : 1 < refs.length)
    (kk : mx_Go l R M Z uc us (pc + 3) L st (sk.set k (.inr (12, refs.set 1 (some r))), I)) : mx_Go l R M Z uc us pc L (.ref r :: .ref k :: st) (sk, I) :=
  g_putrF (h := (sk, I)) (ci := 12) (C0 := RX12) (T := TX12) (N := 33) (j := 1) (ty0 := tyX12) rfl inX12 tyX12_ok nmX12 rfl (by decide) rfl rfl (fun _ => rfl) (fun _ => rfl) hin2 hdecl hd hw hk hl0 kk
theorem rg_X12_2 {r : Nat} (hd : decode M.2.1 pc = .ok (.getfield idx, 3)) (hw : Cond.fieldLink M.1.cls idx "TakeOverModel" "before" "[I" ∈ mx_g) (hk : sk[k]? = some (.inr (12, refs))) (hr : refs.getD 2 none = some r)
    (kk : mx_Go l R M Z uc us (pc + 3) L (.ref r :: st) (sk, I)) : mx_Go l R M Z uc us pc L (.ref k :: st) (sk, I) :=
  g_getf (h := (sk, I)) (ci := 12) (C0 := RX12) (T := TX12) (N := 33) (j := 2) rfl inX12 rfl (by decide) hd hw hk (show mx_rv (refs.getD 2 none) = .ref r by rw [hr]; rfl) kk
theorem rp_X12_2 {r : Nat} (hin2 : M.1.name = "<init>") (hdecl : "TakeOverModel" = M.1.cls) (hd : decode M.2.1 pc = .ok (.putfield idx, 3)) (hw : Cond.fieldLink M.1.cls idx "TakeOverModel" "before" "[I" ∈ mx_g) (hk : sk[k]? = some (.inr (12, refs))) (hl0 : 2 < refs.length)
    (kk : mx_Go l R M Z uc us (pc + 3) L st (sk.set k (.inr (12, refs.set 2 (some r))), I)) : mx_Go l R M Z uc us pc L (.ref r :: .ref k :: st) (sk, I) :=
  g_putrF (h := (sk, I)) (ci := 12) (C0 := RX12) (T := TX12) (N := 33) (j := 2) (ty0 := tyX12) rfl inX12 tyX12_ok nmX12 rfl (by decide) rfl rfl (fun _ => rfl) (fun _ => rfl) hin2 hdecl hd hw hk hl0 kk
theorem rg_X12_3 {v : Int32} (hd : decode M.2.1 pc = .ok (.getfield idx, 3)) (hw : Cond.fieldLink M.1.cls idx "TakeOverModel" "hasImage" "Z" ∈ mx_g) (hk : sk[k]? = some (.inr (12, refs))) (hv : I k 3 = v)
    (kk : mx_Go l R M Z uc us (pc + 3) L (.int v :: st) (sk, I)) : mx_Go l R M Z uc us pc L (.ref k :: st) (sk, I) :=
  g_getf (h := (sk, I)) (ci := 12) (C0 := RX12) (T := TX12) (N := 33) (j := 3) rfl inX12 rfl (by decide) hd hw hk rfl (by show mx_Go l R M Z uc us (pc + 3) L (.int (I k 3) :: st) (sk, I); rw [hv]; exact kk)
theorem rp_X12_3 {x : Int32} (hx : x = 0 ∨ x = 1) (hd : decode M.2.1 pc = .ok (.putfield idx, 3)) (hw : Cond.fieldLink M.1.cls idx "TakeOverModel" "hasImage" "Z" ∈ mx_g) (hk : sk[k]? = some (.inr (12, refs)))
    (kk : mx_Go l R M Z uc us (pc + 3) L st (sk, mx_set I k 3 x)) : mx_Go l R M Z uc us pc L (.int x :: .ref k :: st) (sk, I) :=
  g_putf (h := (sk, I)) (ci := 12) (C0 := RX12) (T := TX12) (N := 33) (j := 3) (ty0 := tyX12) rfl inX12 tyX12_ok nmX12 rfl (by decide) rfl rfl (by rcases hx with rfl | rfl <;> rfl) (by rcases hx with rfl | rfl <;> rfl) hd hw hk kk
theorem rg_X12_4 {r : Nat} (hd : decode M.2.1 pc = .ok (.getfield idx, 3)) (hw : Cond.fieldLink M.1.cls idx "TakeOverModel" "freshLine" "[I" ∈ mx_g) (hk : sk[k]? = some (.inr (12, refs))) (hr : refs.getD 4 none = some r)
    (kk : mx_Go l R M Z uc us (pc + 3) L (.ref r :: st) (sk, I)) : mx_Go l R M Z uc us pc L (.ref k :: st) (sk, I) :=
  g_getf (h := (sk, I)) (ci := 12) (C0 := RX12) (T := TX12) (N := 33) (j := 4) rfl inX12 rfl (by decide) hd hw hk (show mx_rv (refs.getD 4 none) = .ref r by rw [hr]; rfl) kk
theorem rp_X12_4 {r : Nat} (hin2 : M.1.name = "<init>") (hdecl : "TakeOverModel" = M.1.cls) (hd : decode M.2.1 pc = .ok (.putfield idx, 3)) (hw : Cond.fieldLink M.1.cls idx "TakeOverModel" "freshLine" "[I" ∈ mx_g) (hk : sk[k]? = some (.inr (12, refs))) (hl0 : 4 < refs.length)
    (kk : mx_Go l R M Z uc us (pc + 3) L st (sk.set k (.inr (12, refs.set 4 (some r))), I)) : mx_Go l R M Z uc us pc L (.ref r :: .ref k :: st) (sk, I) :=
  g_putrF (h := (sk, I)) (ci := 12) (C0 := RX12) (T := TX12) (N := 33) (j := 4) (ty0 := tyX12) rfl inX12 tyX12_ok nmX12 rfl (by decide) rfl rfl (fun _ => rfl) (fun _ => rfl) hin2 hdecl hd hw hk hl0 kk
theorem rg_X12_5 {r : Nat} (hd : decode M.2.1 pc = .ok (.getfield idx, 3)) (hw : Cond.fieldLink M.1.cls idx "TakeOverModel" "freshStep" "[I" ∈ mx_g) (hk : sk[k]? = some (.inr (12, refs))) (hr : refs.getD 5 none = some r)
    (kk : mx_Go l R M Z uc us (pc + 3) L (.ref r :: st) (sk, I)) : mx_Go l R M Z uc us pc L (.ref k :: st) (sk, I) :=
  g_getf (h := (sk, I)) (ci := 12) (C0 := RX12) (T := TX12) (N := 33) (j := 5) rfl inX12 rfl (by decide) hd hw hk (show mx_rv (refs.getD 5 none) = .ref r by rw [hr]; rfl) kk
theorem rp_X12_5 {r : Nat} (hin2 : M.1.name = "<init>") (hdecl : "TakeOverModel" = M.1.cls) (hd : decode M.2.1 pc = .ok (.putfield idx, 3)) (hw : Cond.fieldLink M.1.cls idx "TakeOverModel" "freshStep" "[I" ∈ mx_g) (hk : sk[k]? = some (.inr (12, refs))) (hl0 : 5 < refs.length)
    (kk : mx_Go l R M Z uc us (pc + 3) L st (sk.set k (.inr (12, refs.set 5 (some r))), I)) : mx_Go l R M Z uc us pc L (.ref r :: .ref k :: st) (sk, I) :=
  g_putrF (h := (sk, I)) (ci := 12) (C0 := RX12) (T := TX12) (N := 33) (j := 5) (ty0 := tyX12) rfl inX12 tyX12_ok nmX12 rfl (by decide) rfl rfl (fun _ => rfl) (fun _ => rfl) hin2 hdecl hd hw hk hl0 kk
theorem rg_X12_6 {r : Nat} (hd : decode M.2.1 pc = .ok (.getfield idx, 3)) (hw : Cond.fieldLink M.1.cls idx "TakeOverModel" "tape" "[I" ∈ mx_g) (hk : sk[k]? = some (.inr (12, refs))) (hr : refs.getD 6 none = some r)
    (kk : mx_Go l R M Z uc us (pc + 3) L (.ref r :: st) (sk, I)) : mx_Go l R M Z uc us pc L (.ref k :: st) (sk, I) :=
  g_getf (h := (sk, I)) (ci := 12) (C0 := RX12) (T := TX12) (N := 33) (j := 6) rfl inX12 rfl (by decide) hd hw hk (show mx_rv (refs.getD 6 none) = .ref r by rw [hr]; rfl) kk
theorem rp_X12_6 {r : Nat} (hin2 : M.1.name = "<init>") (hdecl : "TakeOverModel" = M.1.cls) (hd : decode M.2.1 pc = .ok (.putfield idx, 3)) (hw : Cond.fieldLink M.1.cls idx "TakeOverModel" "tape" "[I" ∈ mx_g) (hk : sk[k]? = some (.inr (12, refs))) (hl0 : 6 < refs.length)
    (kk : mx_Go l R M Z uc us (pc + 3) L st (sk.set k (.inr (12, refs.set 6 (some r))), I)) : mx_Go l R M Z uc us pc L (.ref r :: .ref k :: st) (sk, I) :=
  g_putrF (h := (sk, I)) (ci := 12) (C0 := RX12) (T := TX12) (N := 33) (j := 6) (ty0 := tyX12) rfl inX12 tyX12_ok nmX12 rfl (by decide) rfl rfl (fun _ => rfl) (fun _ => rfl) hin2 hdecl hd hw hk hl0 kk
theorem rg_X12_7 {r : Nat} (hd : decode M.2.1 pc = .ok (.getfield idx, 3)) (hw : Cond.fieldLink M.1.cls idx "TakeOverModel" "pile" "[I" ∈ mx_g) (hk : sk[k]? = some (.inr (12, refs))) (hr : refs.getD 7 none = some r)
    (kk : mx_Go l R M Z uc us (pc + 3) L (.ref r :: st) (sk, I)) : mx_Go l R M Z uc us pc L (.ref k :: st) (sk, I) :=
  g_getf (h := (sk, I)) (ci := 12) (C0 := RX12) (T := TX12) (N := 33) (j := 7) rfl inX12 rfl (by decide) hd hw hk (show mx_rv (refs.getD 7 none) = .ref r by rw [hr]; rfl) kk
theorem rp_X12_7 {r : Nat} (hin2 : M.1.name = "<init>") (hdecl : "TakeOverModel" = M.1.cls) (hd : decode M.2.1 pc = .ok (.putfield idx, 3)) (hw : Cond.fieldLink M.1.cls idx "TakeOverModel" "pile" "[I" ∈ mx_g) (hk : sk[k]? = some (.inr (12, refs))) (hl0 : 7 < refs.length)
    (kk : mx_Go l R M Z uc us (pc + 3) L st (sk.set k (.inr (12, refs.set 7 (some r))), I)) : mx_Go l R M Z uc us pc L (.ref r :: .ref k :: st) (sk, I) :=
  g_putrF (h := (sk, I)) (ci := 12) (C0 := RX12) (T := TX12) (N := 33) (j := 7) (ty0 := tyX12) rfl inX12 tyX12_ok nmX12 rfl (by decide) rfl rfl (fun _ => rfl) (fun _ => rfl) hin2 hdecl hd hw hk hl0 kk
theorem rg_X12_8 {r : Nat} (hd : decode M.2.1 pc = .ok (.getfield idx, 3)) (hw : Cond.fieldLink M.1.cls idx "TakeOverModel" "facts" "[I" ∈ mx_g) (hk : sk[k]? = some (.inr (12, refs))) (hr : refs.getD 8 none = some r)
    (kk : mx_Go l R M Z uc us (pc + 3) L (.ref r :: st) (sk, I)) : mx_Go l R M Z uc us pc L (.ref k :: st) (sk, I) :=
  g_getf (h := (sk, I)) (ci := 12) (C0 := RX12) (T := TX12) (N := 33) (j := 8) rfl inX12 rfl (by decide) hd hw hk (show mx_rv (refs.getD 8 none) = .ref r by rw [hr]; rfl) kk
theorem rp_X12_8 {r : Nat} (hin2 : M.1.name = "<init>") (hdecl : "TakeOverModel" = M.1.cls) (hd : decode M.2.1 pc = .ok (.putfield idx, 3)) (hw : Cond.fieldLink M.1.cls idx "TakeOverModel" "facts" "[I" ∈ mx_g) (hk : sk[k]? = some (.inr (12, refs))) (hl0 : 8 < refs.length)
    (kk : mx_Go l R M Z uc us (pc + 3) L st (sk.set k (.inr (12, refs.set 8 (some r))), I)) : mx_Go l R M Z uc us pc L (.ref r :: .ref k :: st) (sk, I) :=
  g_putrF (h := (sk, I)) (ci := 12) (C0 := RX12) (T := TX12) (N := 33) (j := 8) (ty0 := tyX12) rfl inX12 tyX12_ok nmX12 rfl (by decide) rfl rfl (fun _ => rfl) (fun _ => rfl) hin2 hdecl hd hw hk hl0 kk
theorem rg_X12_9 {v : Int32} (hd : decode M.2.1 pc = .ok (.getfield idx, 3)) (hw : Cond.fieldLink M.1.cls idx "TakeOverModel" "lines" "I" ∈ mx_g) (hk : sk[k]? = some (.inr (12, refs))) (hv : I k 9 = v)
    (kk : mx_Go l R M Z uc us (pc + 3) L (.int v :: st) (sk, I)) : mx_Go l R M Z uc us pc L (.ref k :: st) (sk, I) :=
  g_getf (h := (sk, I)) (ci := 12) (C0 := RX12) (T := TX12) (N := 33) (j := 9) rfl inX12 rfl (by decide) hd hw hk rfl (by show mx_Go l R M Z uc us (pc + 3) L (.int (I k 9) :: st) (sk, I); rw [hv]; exact kk)
theorem rp_X12_9 {x : Int32} (hd : decode M.2.1 pc = .ok (.putfield idx, 3)) (hw : Cond.fieldLink M.1.cls idx "TakeOverModel" "lines" "I" ∈ mx_g) (hk : sk[k]? = some (.inr (12, refs)))
    (kk : mx_Go l R M Z uc us (pc + 3) L st (sk, mx_set I k 9 x)) : mx_Go l R M Z uc us pc L (.int x :: .ref k :: st) (sk, I) :=
  g_putf (h := (sk, I)) (ci := 12) (C0 := RX12) (T := TX12) (N := 33) (j := 9) (ty0 := tyX12) rfl inX12 tyX12_ok nmX12 rfl (by decide) rfl rfl rfl rfl hd hw hk kk
theorem rg_X12_10 {v : Int32} (hd : decode M.2.1 pc = .ok (.getfield idx, 3)) (hw : Cond.fieldLink M.1.cls idx "TakeOverModel" "steps" "I" ∈ mx_g) (hk : sk[k]? = some (.inr (12, refs))) (hv : I k 10 = v)
    (kk : mx_Go l R M Z uc us (pc + 3) L (.int v :: st) (sk, I)) : mx_Go l R M Z uc us pc L (.ref k :: st) (sk, I) :=
  g_getf (h := (sk, I)) (ci := 12) (C0 := RX12) (T := TX12) (N := 33) (j := 10) rfl inX12 rfl (by decide) hd hw hk rfl (by show mx_Go l R M Z uc us (pc + 3) L (.int (I k 10) :: st) (sk, I); rw [hv]; exact kk)
theorem rp_X12_10 {x : Int32} (hd : decode M.2.1 pc = .ok (.putfield idx, 3)) (hw : Cond.fieldLink M.1.cls idx "TakeOverModel" "steps" "I" ∈ mx_g) (hk : sk[k]? = some (.inr (12, refs)))
    (kk : mx_Go l R M Z uc us (pc + 3) L st (sk, mx_set I k 10 x)) : mx_Go l R M Z uc us pc L (.int x :: .ref k :: st) (sk, I) :=
  g_putf (h := (sk, I)) (ci := 12) (C0 := RX12) (T := TX12) (N := 33) (j := 10) (ty0 := tyX12) rfl inX12 tyX12_ok nmX12 rfl (by decide) rfl rfl rfl rfl hd hw hk kk
theorem rg_X12_11 {v : Int32} (hd : decode M.2.1 pc = .ok (.getfield idx, 3)) (hw : Cond.fieldLink M.1.cls idx "TakeOverModel" "taped" "I" ∈ mx_g) (hk : sk[k]? = some (.inr (12, refs))) (hv : I k 11 = v)
    (kk : mx_Go l R M Z uc us (pc + 3) L (.int v :: st) (sk, I)) : mx_Go l R M Z uc us pc L (.ref k :: st) (sk, I) :=
  g_getf (h := (sk, I)) (ci := 12) (C0 := RX12) (T := TX12) (N := 33) (j := 11) rfl inX12 rfl (by decide) hd hw hk rfl (by show mx_Go l R M Z uc us (pc + 3) L (.int (I k 11) :: st) (sk, I); rw [hv]; exact kk)
theorem rp_X12_11 {x : Int32} (hd : decode M.2.1 pc = .ok (.putfield idx, 3)) (hw : Cond.fieldLink M.1.cls idx "TakeOverModel" "taped" "I" ∈ mx_g) (hk : sk[k]? = some (.inr (12, refs)))
    (kk : mx_Go l R M Z uc us (pc + 3) L st (sk, mx_set I k 11 x)) : mx_Go l R M Z uc us pc L (.int x :: .ref k :: st) (sk, I) :=
  g_putf (h := (sk, I)) (ci := 12) (C0 := RX12) (T := TX12) (N := 33) (j := 11) (ty0 := tyX12) rfl inX12 tyX12_ok nmX12 rfl (by decide) rfl rfl rfl rfl hd hw hk kk
theorem rg_X12_12 {v : Int32} (hd : decode M.2.1 pc = .ok (.getfield idx, 3)) (hw : Cond.fieldLink M.1.cls idx "TakeOverModel" "at" "I" ∈ mx_g) (hk : sk[k]? = some (.inr (12, refs))) (hv : I k 12 = v)
    (kk : mx_Go l R M Z uc us (pc + 3) L (.int v :: st) (sk, I)) : mx_Go l R M Z uc us pc L (.ref k :: st) (sk, I) :=
  g_getf (h := (sk, I)) (ci := 12) (C0 := RX12) (T := TX12) (N := 33) (j := 12) rfl inX12 rfl (by decide) hd hw hk rfl (by show mx_Go l R M Z uc us (pc + 3) L (.int (I k 12) :: st) (sk, I); rw [hv]; exact kk)
theorem rp_X12_12 {x : Int32} (hd : decode M.2.1 pc = .ok (.putfield idx, 3)) (hw : Cond.fieldLink M.1.cls idx "TakeOverModel" "at" "I" ∈ mx_g) (hk : sk[k]? = some (.inr (12, refs)))
    (kk : mx_Go l R M Z uc us (pc + 3) L st (sk, mx_set I k 12 x)) : mx_Go l R M Z uc us pc L (.int x :: .ref k :: st) (sk, I) :=
  g_putf (h := (sk, I)) (ci := 12) (C0 := RX12) (T := TX12) (N := 33) (j := 12) (ty0 := tyX12) rfl inX12 tyX12_ok nmX12 rfl (by decide) rfl rfl rfl rfl hd hw hk kk
theorem rg_X12_13 {v : Int32} (hd : decode M.2.1 pc = .ok (.getfield idx, 3)) (hw : Cond.fieldLink M.1.cls idx "TakeOverModel" "token" "I" ∈ mx_g) (hk : sk[k]? = some (.inr (12, refs))) (hv : I k 13 = v)
    (kk : mx_Go l R M Z uc us (pc + 3) L (.int v :: st) (sk, I)) : mx_Go l R M Z uc us pc L (.ref k :: st) (sk, I) :=
  g_getf (h := (sk, I)) (ci := 12) (C0 := RX12) (T := TX12) (N := 33) (j := 13) rfl inX12 rfl (by decide) hd hw hk rfl (by show mx_Go l R M Z uc us (pc + 3) L (.int (I k 13) :: st) (sk, I); rw [hv]; exact kk)
theorem rp_X12_13 {x : Int32} (hd : decode M.2.1 pc = .ok (.putfield idx, 3)) (hw : Cond.fieldLink M.1.cls idx "TakeOverModel" "token" "I" ∈ mx_g) (hk : sk[k]? = some (.inr (12, refs)))
    (kk : mx_Go l R M Z uc us (pc + 3) L st (sk, mx_set I k 13 x)) : mx_Go l R M Z uc us pc L (.int x :: .ref k :: st) (sk, I) :=
  g_putf (h := (sk, I)) (ci := 12) (C0 := RX12) (T := TX12) (N := 33) (j := 13) (ty0 := tyX12) rfl inX12 tyX12_ok nmX12 rfl (by decide) rfl rfl rfl rfl hd hw hk kk
theorem rg_X12_14 {v : Int32} (hd : decode M.2.1 pc = .ok (.getfield idx, 3)) (hw : Cond.fieldLink M.1.cls idx "TakeOverModel" "tokenAt" "I" ∈ mx_g) (hk : sk[k]? = some (.inr (12, refs))) (hv : I k 14 = v)
    (kk : mx_Go l R M Z uc us (pc + 3) L (.int v :: st) (sk, I)) : mx_Go l R M Z uc us pc L (.ref k :: st) (sk, I) :=
  g_getf (h := (sk, I)) (ci := 12) (C0 := RX12) (T := TX12) (N := 33) (j := 14) rfl inX12 rfl (by decide) hd hw hk rfl (by show mx_Go l R M Z uc us (pc + 3) L (.int (I k 14) :: st) (sk, I); rw [hv]; exact kk)
theorem rp_X12_14 {x : Int32} (hd : decode M.2.1 pc = .ok (.putfield idx, 3)) (hw : Cond.fieldLink M.1.cls idx "TakeOverModel" "tokenAt" "I" ∈ mx_g) (hk : sk[k]? = some (.inr (12, refs)))
    (kk : mx_Go l R M Z uc us (pc + 3) L st (sk, mx_set I k 14 x)) : mx_Go l R M Z uc us pc L (.int x :: .ref k :: st) (sk, I) :=
  g_putf (h := (sk, I)) (ci := 12) (C0 := RX12) (T := TX12) (N := 33) (j := 14) (ty0 := tyX12) rfl inX12 tyX12_ok nmX12 rfl (by decide) rfl rfl rfl rfl hd hw hk kk
theorem rg_X12_15 {v : Int32} (hd : decode M.2.1 pc = .ok (.getfield idx, 3)) (hw : Cond.fieldLink M.1.cls idx "TakeOverModel" "value" "I" ∈ mx_g) (hk : sk[k]? = some (.inr (12, refs))) (hv : I k 15 = v)
    (kk : mx_Go l R M Z uc us (pc + 3) L (.int v :: st) (sk, I)) : mx_Go l R M Z uc us pc L (.ref k :: st) (sk, I) :=
  g_getf (h := (sk, I)) (ci := 12) (C0 := RX12) (T := TX12) (N := 33) (j := 15) rfl inX12 rfl (by decide) hd hw hk rfl (by show mx_Go l R M Z uc us (pc + 3) L (.int (I k 15) :: st) (sk, I); rw [hv]; exact kk)
theorem rp_X12_15 {x : Int32} (hd : decode M.2.1 pc = .ok (.putfield idx, 3)) (hw : Cond.fieldLink M.1.cls idx "TakeOverModel" "value" "I" ∈ mx_g) (hk : sk[k]? = some (.inr (12, refs)))
    (kk : mx_Go l R M Z uc us (pc + 3) L st (sk, mx_set I k 15 x)) : mx_Go l R M Z uc us pc L (.int x :: .ref k :: st) (sk, I) :=
  g_putf (h := (sk, I)) (ci := 12) (C0 := RX12) (T := TX12) (N := 33) (j := 15) (ty0 := tyX12) rfl inX12 tyX12_ok nmX12 rfl (by decide) rfl rfl rfl rfl hd hw hk kk
theorem rg_X12_16 {v : Int32} (hd : decode M.2.1 pc = .ok (.getfield idx, 3)) (hw : Cond.fieldLink M.1.cls idx "TakeOverModel" "wrong" "I" ∈ mx_g) (hk : sk[k]? = some (.inr (12, refs))) (hv : I k 16 = v)
    (kk : mx_Go l R M Z uc us (pc + 3) L (.int v :: st) (sk, I)) : mx_Go l R M Z uc us pc L (.ref k :: st) (sk, I) :=
  g_getf (h := (sk, I)) (ci := 12) (C0 := RX12) (T := TX12) (N := 33) (j := 16) rfl inX12 rfl (by decide) hd hw hk rfl (by show mx_Go l R M Z uc us (pc + 3) L (.int (I k 16) :: st) (sk, I); rw [hv]; exact kk)
theorem rp_X12_16 {x : Int32} (hd : decode M.2.1 pc = .ok (.putfield idx, 3)) (hw : Cond.fieldLink M.1.cls idx "TakeOverModel" "wrong" "I" ∈ mx_g) (hk : sk[k]? = some (.inr (12, refs)))
    (kk : mx_Go l R M Z uc us (pc + 3) L st (sk, mx_set I k 16 x)) : mx_Go l R M Z uc us pc L (.int x :: .ref k :: st) (sk, I) :=
  g_putf (h := (sk, I)) (ci := 12) (C0 := RX12) (T := TX12) (N := 33) (j := 16) (ty0 := tyX12) rfl inX12 tyX12_ok nmX12 rfl (by decide) rfl rfl rfl rfl hd hw hk kk
theorem rg_X12_17 {v : Int32} (hd : decode M.2.1 pc = .ok (.getfield idx, 3)) (hw : Cond.fieldLink M.1.cls idx "TakeOverModel" "wrongAt" "I" ∈ mx_g) (hk : sk[k]? = some (.inr (12, refs))) (hv : I k 17 = v)
    (kk : mx_Go l R M Z uc us (pc + 3) L (.int v :: st) (sk, I)) : mx_Go l R M Z uc us pc L (.ref k :: st) (sk, I) :=
  g_getf (h := (sk, I)) (ci := 12) (C0 := RX12) (T := TX12) (N := 33) (j := 17) rfl inX12 rfl (by decide) hd hw hk rfl (by show mx_Go l R M Z uc us (pc + 3) L (.int (I k 17) :: st) (sk, I); rw [hv]; exact kk)
theorem rp_X12_17 {x : Int32} (hd : decode M.2.1 pc = .ok (.putfield idx, 3)) (hw : Cond.fieldLink M.1.cls idx "TakeOverModel" "wrongAt" "I" ∈ mx_g) (hk : sk[k]? = some (.inr (12, refs)))
    (kk : mx_Go l R M Z uc us (pc + 3) L st (sk, mx_set I k 17 x)) : mx_Go l R M Z uc us pc L (.int x :: .ref k :: st) (sk, I) :=
  g_putf (h := (sk, I)) (ci := 12) (C0 := RX12) (T := TX12) (N := 33) (j := 17) (ty0 := tyX12) rfl inX12 tyX12_ok nmX12 rfl (by decide) rfl rfl rfl rfl hd hw hk kk
theorem rg_X12_18 {v : Int32} (hd : decode M.2.1 pc = .ok (.getfield idx, 3)) (hw : Cond.fieldLink M.1.cls idx "TakeOverModel" "faultKind" "I" ∈ mx_g) (hk : sk[k]? = some (.inr (12, refs))) (hv : I k 18 = v)
    (kk : mx_Go l R M Z uc us (pc + 3) L (.int v :: st) (sk, I)) : mx_Go l R M Z uc us pc L (.ref k :: st) (sk, I) :=
  g_getf (h := (sk, I)) (ci := 12) (C0 := RX12) (T := TX12) (N := 33) (j := 18) rfl inX12 rfl (by decide) hd hw hk rfl (by show mx_Go l R M Z uc us (pc + 3) L (.int (I k 18) :: st) (sk, I); rw [hv]; exact kk)
theorem rp_X12_18 {x : Int32} (hd : decode M.2.1 pc = .ok (.putfield idx, 3)) (hw : Cond.fieldLink M.1.cls idx "TakeOverModel" "faultKind" "I" ∈ mx_g) (hk : sk[k]? = some (.inr (12, refs)))
    (kk : mx_Go l R M Z uc us (pc + 3) L st (sk, mx_set I k 18 x)) : mx_Go l R M Z uc us pc L (.int x :: .ref k :: st) (sk, I) :=
  g_putf (h := (sk, I)) (ci := 12) (C0 := RX12) (T := TX12) (N := 33) (j := 18) (ty0 := tyX12) rfl inX12 tyX12_ok nmX12 rfl (by decide) rfl rfl rfl rfl hd hw hk kk
theorem rg_X12_19 {v : Int32} (hd : decode M.2.1 pc = .ok (.getfield idx, 3)) (hw : Cond.fieldLink M.1.cls idx "TakeOverModel" "depth" "I" ∈ mx_g) (hk : sk[k]? = some (.inr (12, refs))) (hv : I k 19 = v)
    (kk : mx_Go l R M Z uc us (pc + 3) L (.int v :: st) (sk, I)) : mx_Go l R M Z uc us pc L (.ref k :: st) (sk, I) :=
  g_getf (h := (sk, I)) (ci := 12) (C0 := RX12) (T := TX12) (N := 33) (j := 19) rfl inX12 rfl (by decide) hd hw hk rfl (by show mx_Go l R M Z uc us (pc + 3) L (.int (I k 19) :: st) (sk, I); rw [hv]; exact kk)
theorem rp_X12_19 {x : Int32} (hd : decode M.2.1 pc = .ok (.putfield idx, 3)) (hw : Cond.fieldLink M.1.cls idx "TakeOverModel" "depth" "I" ∈ mx_g) (hk : sk[k]? = some (.inr (12, refs)))
    (kk : mx_Go l R M Z uc us (pc + 3) L st (sk, mx_set I k 19 x)) : mx_Go l R M Z uc us pc L (.int x :: .ref k :: st) (sk, I) :=
  g_putf (h := (sk, I)) (ci := 12) (C0 := RX12) (T := TX12) (N := 33) (j := 19) (ty0 := tyX12) rfl inX12 tyX12_ok nmX12 rfl (by decide) rfl rfl rfl rfl hd hw hk kk
theorem rg_X12_20 {v : Int32} (hd : decode M.2.1 pc = .ok (.getfield idx, 3)) (hw : Cond.fieldLink M.1.cls idx "TakeOverModel" "faultPlace" "I" ∈ mx_g) (hk : sk[k]? = some (.inr (12, refs))) (hv : I k 20 = v)
    (kk : mx_Go l R M Z uc us (pc + 3) L (.int v :: st) (sk, I)) : mx_Go l R M Z uc us pc L (.ref k :: st) (sk, I) :=
  g_getf (h := (sk, I)) (ci := 12) (C0 := RX12) (T := TX12) (N := 33) (j := 20) rfl inX12 rfl (by decide) hd hw hk rfl (by show mx_Go l R M Z uc us (pc + 3) L (.int (I k 20) :: st) (sk, I); rw [hv]; exact kk)
theorem rp_X12_20 {x : Int32} (hd : decode M.2.1 pc = .ok (.putfield idx, 3)) (hw : Cond.fieldLink M.1.cls idx "TakeOverModel" "faultPlace" "I" ∈ mx_g) (hk : sk[k]? = some (.inr (12, refs)))
    (kk : mx_Go l R M Z uc us (pc + 3) L st (sk, mx_set I k 20 x)) : mx_Go l R M Z uc us pc L (.int x :: .ref k :: st) (sk, I) :=
  g_putf (h := (sk, I)) (ci := 12) (C0 := RX12) (T := TX12) (N := 33) (j := 20) (ty0 := tyX12) rfl inX12 tyX12_ok nmX12 rfl (by decide) rfl rfl rfl rfl hd hw hk kk
theorem rg_X12_21 {v : Int32} (hd : decode M.2.1 pc = .ok (.getfield idx, 3)) (hw : Cond.fieldLink M.1.cls idx "TakeOverModel" "isThought" "Z" ∈ mx_g) (hk : sk[k]? = some (.inr (12, refs))) (hv : I k 21 = v)
    (kk : mx_Go l R M Z uc us (pc + 3) L (.int v :: st) (sk, I)) : mx_Go l R M Z uc us pc L (.ref k :: st) (sk, I) :=
  g_getf (h := (sk, I)) (ci := 12) (C0 := RX12) (T := TX12) (N := 33) (j := 21) rfl inX12 rfl (by decide) hd hw hk rfl (by show mx_Go l R M Z uc us (pc + 3) L (.int (I k 21) :: st) (sk, I); rw [hv]; exact kk)
theorem rp_X12_21 {x : Int32} (hx : x = 0 ∨ x = 1) (hd : decode M.2.1 pc = .ok (.putfield idx, 3)) (hw : Cond.fieldLink M.1.cls idx "TakeOverModel" "isThought" "Z" ∈ mx_g) (hk : sk[k]? = some (.inr (12, refs)))
    (kk : mx_Go l R M Z uc us (pc + 3) L st (sk, mx_set I k 21 x)) : mx_Go l R M Z uc us pc L (.int x :: .ref k :: st) (sk, I) :=
  g_putf (h := (sk, I)) (ci := 12) (C0 := RX12) (T := TX12) (N := 33) (j := 21) (ty0 := tyX12) rfl inX12 tyX12_ok nmX12 rfl (by decide) rfl rfl (by rcases hx with rfl | rfl <;> rfl) (by rcases hx with rfl | rfl <;> rfl) hd hw hk kk
theorem rg_X12_22 {v : Int32} (hd : decode M.2.1 pc = .ok (.getfield idx, 3)) (hw : Cond.fieldLink M.1.cls idx "TakeOverModel" "watched" "I" ∈ mx_g) (hk : sk[k]? = some (.inr (12, refs))) (hv : I k 22 = v)
    (kk : mx_Go l R M Z uc us (pc + 3) L (.int v :: st) (sk, I)) : mx_Go l R M Z uc us pc L (.ref k :: st) (sk, I) :=
  g_getf (h := (sk, I)) (ci := 12) (C0 := RX12) (T := TX12) (N := 33) (j := 22) rfl inX12 rfl (by decide) hd hw hk rfl (by show mx_Go l R M Z uc us (pc + 3) L (.int (I k 22) :: st) (sk, I); rw [hv]; exact kk)
theorem rp_X12_22 {x : Int32} (hd : decode M.2.1 pc = .ok (.putfield idx, 3)) (hw : Cond.fieldLink M.1.cls idx "TakeOverModel" "watched" "I" ∈ mx_g) (hk : sk[k]? = some (.inr (12, refs)))
    (kk : mx_Go l R M Z uc us (pc + 3) L st (sk, mx_set I k 22 x)) : mx_Go l R M Z uc us pc L (.int x :: .ref k :: st) (sk, I) :=
  g_putf (h := (sk, I)) (ci := 12) (C0 := RX12) (T := TX12) (N := 33) (j := 22) (ty0 := tyX12) rfl inX12 tyX12_ok nmX12 rfl (by decide) rfl rfl rfl rfl hd hw hk kk
theorem rg_X12_23 {v : Int32} (hd : decode M.2.1 pc = .ok (.getfield idx, 3)) (hw : Cond.fieldLink M.1.cls idx "TakeOverModel" "watchedEnd" "I" ∈ mx_g) (hk : sk[k]? = some (.inr (12, refs))) (hv : I k 23 = v)
    (kk : mx_Go l R M Z uc us (pc + 3) L (.int v :: st) (sk, I)) : mx_Go l R M Z uc us pc L (.ref k :: st) (sk, I) :=
  g_getf (h := (sk, I)) (ci := 12) (C0 := RX12) (T := TX12) (N := 33) (j := 23) rfl inX12 rfl (by decide) hd hw hk rfl (by show mx_Go l R M Z uc us (pc + 3) L (.int (I k 23) :: st) (sk, I); rw [hv]; exact kk)
theorem rp_X12_23 {x : Int32} (hd : decode M.2.1 pc = .ok (.putfield idx, 3)) (hw : Cond.fieldLink M.1.cls idx "TakeOverModel" "watchedEnd" "I" ∈ mx_g) (hk : sk[k]? = some (.inr (12, refs)))
    (kk : mx_Go l R M Z uc us (pc + 3) L st (sk, mx_set I k 23 x)) : mx_Go l R M Z uc us pc L (.int x :: .ref k :: st) (sk, I) :=
  g_putf (h := (sk, I)) (ci := 12) (C0 := RX12) (T := TX12) (N := 33) (j := 23) (ty0 := tyX12) rfl inX12 tyX12_ok nmX12 rfl (by decide) rfl rfl rfl rfl hd hw hk kk
theorem rg_X12_24 {v : Int32} (hd : decode M.2.1 pc = .ok (.getfield idx, 3)) (hw : Cond.fieldLink M.1.cls idx "TakeOverModel" "watchedHour" "I" ∈ mx_g) (hk : sk[k]? = some (.inr (12, refs))) (hv : I k 24 = v)
    (kk : mx_Go l R M Z uc us (pc + 3) L (.int v :: st) (sk, I)) : mx_Go l R M Z uc us pc L (.ref k :: st) (sk, I) :=
  g_getf (h := (sk, I)) (ci := 12) (C0 := RX12) (T := TX12) (N := 33) (j := 24) rfl inX12 rfl (by decide) hd hw hk rfl (by show mx_Go l R M Z uc us (pc + 3) L (.int (I k 24) :: st) (sk, I); rw [hv]; exact kk)
theorem rp_X12_24 {x : Int32} (hd : decode M.2.1 pc = .ok (.putfield idx, 3)) (hw : Cond.fieldLink M.1.cls idx "TakeOverModel" "watchedHour" "I" ∈ mx_g) (hk : sk[k]? = some (.inr (12, refs)))
    (kk : mx_Go l R M Z uc us (pc + 3) L st (sk, mx_set I k 24 x)) : mx_Go l R M Z uc us pc L (.int x :: .ref k :: st) (sk, I) :=
  g_putf (h := (sk, I)) (ci := 12) (C0 := RX12) (T := TX12) (N := 33) (j := 24) (ty0 := tyX12) rfl inX12 tyX12_ok nmX12 rfl (by decide) rfl rfl rfl rfl hd hw hk kk
theorem rg_X12_25 {v : Int32} (hd : decode M.2.1 pc = .ok (.getfield idx, 3)) (hw : Cond.fieldLink M.1.cls idx "TakeOverModel" "leftOut" "I" ∈ mx_g) (hk : sk[k]? = some (.inr (12, refs))) (hv : I k 25 = v)
    (kk : mx_Go l R M Z uc us (pc + 3) L (.int v :: st) (sk, I)) : mx_Go l R M Z uc us pc L (.ref k :: st) (sk, I) :=
  g_getf (h := (sk, I)) (ci := 12) (C0 := RX12) (T := TX12) (N := 33) (j := 25) rfl inX12 rfl (by decide) hd hw hk rfl (by show mx_Go l R M Z uc us (pc + 3) L (.int (I k 25) :: st) (sk, I); rw [hv]; exact kk)
theorem rp_X12_25 {x : Int32} (hd : decode M.2.1 pc = .ok (.putfield idx, 3)) (hw : Cond.fieldLink M.1.cls idx "TakeOverModel" "leftOut" "I" ∈ mx_g) (hk : sk[k]? = some (.inr (12, refs)))
    (kk : mx_Go l R M Z uc us (pc + 3) L st (sk, mx_set I k 25 x)) : mx_Go l R M Z uc us pc L (.int x :: .ref k :: st) (sk, I) :=
  g_putf (h := (sk, I)) (ci := 12) (C0 := RX12) (T := TX12) (N := 33) (j := 25) (ty0 := tyX12) rfl inX12 tyX12_ok nmX12 rfl (by decide) rfl rfl rfl rfl hd hw hk kk
theorem rg_X12_26 {v : Int32} (hd : decode M.2.1 pc = .ok (.getfield idx, 3)) (hw : Cond.fieldLink M.1.cls idx "TakeOverModel" "hired" "I" ∈ mx_g) (hk : sk[k]? = some (.inr (12, refs))) (hv : I k 26 = v)
    (kk : mx_Go l R M Z uc us (pc + 3) L (.int v :: st) (sk, I)) : mx_Go l R M Z uc us pc L (.ref k :: st) (sk, I) :=
  g_getf (h := (sk, I)) (ci := 12) (C0 := RX12) (T := TX12) (N := 33) (j := 26) rfl inX12 rfl (by decide) hd hw hk rfl (by show mx_Go l R M Z uc us (pc + 3) L (.int (I k 26) :: st) (sk, I); rw [hv]; exact kk)
theorem rp_X12_26 {x : Int32} (hd : decode M.2.1 pc = .ok (.putfield idx, 3)) (hw : Cond.fieldLink M.1.cls idx "TakeOverModel" "hired" "I" ∈ mx_g) (hk : sk[k]? = some (.inr (12, refs)))
    (kk : mx_Go l R M Z uc us (pc + 3) L st (sk, mx_set I k 26 x)) : mx_Go l R M Z uc us pc L (.int x :: .ref k :: st) (sk, I) :=
  g_putf (h := (sk, I)) (ci := 12) (C0 := RX12) (T := TX12) (N := 33) (j := 26) (ty0 := tyX12) rfl inX12 tyX12_ok nmX12 rfl (by decide) rfl rfl rfl rfl hd hw hk kk
theorem rg_X12_27 {r : Nat} (hd : decode M.2.1 pc = .ok (.getfield idx, 3)) (hw : Cond.fieldLink M.1.cls idx "TakeOverModel" "heap" "[I" ∈ mx_g) (hk : sk[k]? = some (.inr (12, refs))) (hr : refs.getD 27 none = some r)
    (kk : mx_Go l R M Z uc us (pc + 3) L (.ref r :: st) (sk, I)) : mx_Go l R M Z uc us pc L (.ref k :: st) (sk, I) :=
  g_getf (h := (sk, I)) (ci := 12) (C0 := RX12) (T := TX12) (N := 33) (j := 27) rfl inX12 rfl (by decide) hd hw hk (show mx_rv (refs.getD 27 none) = .ref r by rw [hr]; rfl) kk
theorem rp_X12_27 {r : Nat} (hin2 : M.1.name = "<init>") (hdecl : "TakeOverModel" = M.1.cls) (hd : decode M.2.1 pc = .ok (.putfield idx, 3)) (hw : Cond.fieldLink M.1.cls idx "TakeOverModel" "heap" "[I" ∈ mx_g) (hk : sk[k]? = some (.inr (12, refs))) (hl0 : 27 < refs.length)
    (kk : mx_Go l R M Z uc us (pc + 3) L st (sk.set k (.inr (12, refs.set 27 (some r))), I)) : mx_Go l R M Z uc us pc L (.ref r :: .ref k :: st) (sk, I) :=
  g_putrF (h := (sk, I)) (ci := 12) (C0 := RX12) (T := TX12) (N := 33) (j := 27) (ty0 := tyX12) rfl inX12 tyX12_ok nmX12 rfl (by decide) rfl rfl (fun _ => rfl) (fun _ => rfl) hin2 hdecl hd hw hk hl0 kk
theorem rg_X12_28 {r : Nat} (hd : decode M.2.1 pc = .ok (.getfield idx, 3)) (hw : Cond.fieldLink M.1.cls idx "TakeOverModel" "taken" "[I" ∈ mx_g) (hk : sk[k]? = some (.inr (12, refs))) (hr : refs.getD 28 none = some r)
    (kk : mx_Go l R M Z uc us (pc + 3) L (.ref r :: st) (sk, I)) : mx_Go l R M Z uc us pc L (.ref k :: st) (sk, I) :=
  g_getf (h := (sk, I)) (ci := 12) (C0 := RX12) (T := TX12) (N := 33) (j := 28) rfl inX12 rfl (by decide) hd hw hk (show mx_rv (refs.getD 28 none) = .ref r by rw [hr]; rfl) kk
theorem rp_X12_28 {r : Nat} (hin2 : M.1.name = "<init>") (hdecl : "TakeOverModel" = M.1.cls) (hd : decode M.2.1 pc = .ok (.putfield idx, 3)) (hw : Cond.fieldLink M.1.cls idx "TakeOverModel" "taken" "[I" ∈ mx_g) (hk : sk[k]? = some (.inr (12, refs))) (hl0 : 28 < refs.length)
    (kk : mx_Go l R M Z uc us (pc + 3) L st (sk.set k (.inr (12, refs.set 28 (some r))), I)) : mx_Go l R M Z uc us pc L (.ref r :: .ref k :: st) (sk, I) :=
  g_putrF (h := (sk, I)) (ci := 12) (C0 := RX12) (T := TX12) (N := 33) (j := 28) (ty0 := tyX12) rfl inX12 tyX12_ok nmX12 rfl (by decide) rfl rfl (fun _ => rfl) (fun _ => rfl) hin2 hdecl hd hw hk hl0 kk
theorem rg_X12_29 {v : Int32} (hd : decode M.2.1 pc = .ok (.getfield idx, 3)) (hw : Cond.fieldLink M.1.cls idx "TakeOverModel" "heapMany" "I" ∈ mx_g) (hk : sk[k]? = some (.inr (12, refs))) (hv : I k 29 = v)
    (kk : mx_Go l R M Z uc us (pc + 3) L (.int v :: st) (sk, I)) : mx_Go l R M Z uc us pc L (.ref k :: st) (sk, I) :=
  g_getf (h := (sk, I)) (ci := 12) (C0 := RX12) (T := TX12) (N := 33) (j := 29) rfl inX12 rfl (by decide) hd hw hk rfl (by show mx_Go l R M Z uc us (pc + 3) L (.int (I k 29) :: st) (sk, I); rw [hv]; exact kk)
theorem rp_X12_29 {x : Int32} (hd : decode M.2.1 pc = .ok (.putfield idx, 3)) (hw : Cond.fieldLink M.1.cls idx "TakeOverModel" "heapMany" "I" ∈ mx_g) (hk : sk[k]? = some (.inr (12, refs)))
    (kk : mx_Go l R M Z uc us (pc + 3) L st (sk, mx_set I k 29 x)) : mx_Go l R M Z uc us pc L (.int x :: .ref k :: st) (sk, I) :=
  g_putf (h := (sk, I)) (ci := 12) (C0 := RX12) (T := TX12) (N := 33) (j := 29) (ty0 := tyX12) rfl inX12 tyX12_ok nmX12 rfl (by decide) rfl rfl rfl rfl hd hw hk kk
theorem rg_X12_30 {v : Int32} (hd : decode M.2.1 pc = .ok (.getfield idx, 3)) (hw : Cond.fieldLink M.1.cls idx "TakeOverModel" "takenMany" "I" ∈ mx_g) (hk : sk[k]? = some (.inr (12, refs))) (hv : I k 30 = v)
    (kk : mx_Go l R M Z uc us (pc + 3) L (.int v :: st) (sk, I)) : mx_Go l R M Z uc us pc L (.ref k :: st) (sk, I) :=
  g_getf (h := (sk, I)) (ci := 12) (C0 := RX12) (T := TX12) (N := 33) (j := 30) rfl inX12 rfl (by decide) hd hw hk rfl (by show mx_Go l R M Z uc us (pc + 3) L (.int (I k 30) :: st) (sk, I); rw [hv]; exact kk)
theorem rp_X12_30 {x : Int32} (hd : decode M.2.1 pc = .ok (.putfield idx, 3)) (hw : Cond.fieldLink M.1.cls idx "TakeOverModel" "takenMany" "I" ∈ mx_g) (hk : sk[k]? = some (.inr (12, refs)))
    (kk : mx_Go l R M Z uc us (pc + 3) L st (sk, mx_set I k 30 x)) : mx_Go l R M Z uc us pc L (.int x :: .ref k :: st) (sk, I) :=
  g_putf (h := (sk, I)) (ci := 12) (C0 := RX12) (T := TX12) (N := 33) (j := 30) (ty0 := tyX12) rfl inX12 tyX12_ok nmX12 rfl (by decide) rfl rfl rfl rfl hd hw hk kk
theorem rg_X12_31 {v : Int32} (hd : decode M.2.1 pc = .ok (.getfield idx, 3)) (hw : Cond.fieldLink M.1.cls idx "TakeOverModel" "borne" "I" ∈ mx_g) (hk : sk[k]? = some (.inr (12, refs))) (hv : I k 31 = v)
    (kk : mx_Go l R M Z uc us (pc + 3) L (.int v :: st) (sk, I)) : mx_Go l R M Z uc us pc L (.ref k :: st) (sk, I) :=
  g_getf (h := (sk, I)) (ci := 12) (C0 := RX12) (T := TX12) (N := 33) (j := 31) rfl inX12 rfl (by decide) hd hw hk rfl (by show mx_Go l R M Z uc us (pc + 3) L (.int (I k 31) :: st) (sk, I); rw [hv]; exact kk)
theorem rp_X12_31 {x : Int32} (hd : decode M.2.1 pc = .ok (.putfield idx, 3)) (hw : Cond.fieldLink M.1.cls idx "TakeOverModel" "borne" "I" ∈ mx_g) (hk : sk[k]? = some (.inr (12, refs)))
    (kk : mx_Go l R M Z uc us (pc + 3) L st (sk, mx_set I k 31 x)) : mx_Go l R M Z uc us pc L (.int x :: .ref k :: st) (sk, I) :=
  g_putf (h := (sk, I)) (ci := 12) (C0 := RX12) (T := TX12) (N := 33) (j := 31) (ty0 := tyX12) rfl inX12 tyX12_ok nmX12 rfl (by decide) rfl rfl rfl rfl hd hw hk kk
theorem rg_X12_32 {r : Nat} (hd : decode M.2.1 pc = .ok (.getfield idx, 3)) (hw : Cond.fieldLink M.1.cls idx "TakeOverModel" "maybe" "[I" ∈ mx_g) (hk : sk[k]? = some (.inr (12, refs))) (hr : refs.getD 32 none = some r)
    (kk : mx_Go l R M Z uc us (pc + 3) L (.ref r :: st) (sk, I)) : mx_Go l R M Z uc us pc L (.ref k :: st) (sk, I) :=
  g_getf (h := (sk, I)) (ci := 12) (C0 := RX12) (T := TX12) (N := 33) (j := 32) rfl inX12 rfl (by decide) hd hw hk (show mx_rv (refs.getD 32 none) = .ref r by rw [hr]; rfl) kk
theorem rp_X12_32 {r : Nat} (hin2 : M.1.name = "<init>") (hdecl : "TakeOverModel" = M.1.cls) (hd : decode M.2.1 pc = .ok (.putfield idx, 3)) (hw : Cond.fieldLink M.1.cls idx "TakeOverModel" "maybe" "[I" ∈ mx_g) (hk : sk[k]? = some (.inr (12, refs))) (hl0 : 32 < refs.length)
    (kk : mx_Go l R M Z uc us (pc + 3) L st (sk.set k (.inr (12, refs.set 32 (some r))), I)) : mx_Go l R M Z uc us pc L (.ref r :: .ref k :: st) (sk, I) :=
  g_putrF (h := (sk, I)) (ci := 12) (C0 := RX12) (T := TX12) (N := 33) (j := 32) (ty0 := tyX12) rfl inX12 tyX12_ok nmX12 rfl (by decide) rfl rfl (fun _ => rfl) (fun _ => rfl) hin2 hdecl hd hw hk hl0 kk
theorem rg_iald {n : Nat} {i : Int32} (hd : decode M.2.1 pc = .ok (.iaload, 1)) (hk : sk[k]? = some (.inl n)) (hi : vp_in i n)
    (kk : mx_Go l R M Z uc us (pc + 1) L (.int (I k i.toNatClampNeg) :: st) (sk, I)) : mx_Go l R M Z uc us pc L (.int i :: .ref k :: st) (sk, I) := g_iald (h := (sk, I)) hd hk hi kk
theorem rp_iast {n : Nat} {i x : Int32} (hd : decode M.2.1 pc = .ok (.iastore, 1)) (hk : sk[k]? = some (.inl n)) (hi : vp_in i n)
    (kk : mx_Go l R M Z uc us (pc + 1) L st (sk, mx_set I k i.toNatClampNeg x)) : mx_Go l R M Z uc us pc L (.int x :: .int i :: .ref k :: st) (sk, I) := g_iast (h := (sk, I)) hd hk hi kk
theorem rg_alen {n : Nat} {v : Int32} (hd : decode M.2.1 pc = .ok (.arraylength, 1)) (hk : sk[k]? = some (.inl n)) (hv : Int32.ofNat n = v)
    (kk : mx_Go l R M Z uc us (pc + 1) L (.int v :: st) (sk, I)) : mx_Go l R M Z uc us pc L (.ref k :: st) (sk, I) := g_alen (h := (sk, I)) hd hk hv kk
end FIELDRULES
